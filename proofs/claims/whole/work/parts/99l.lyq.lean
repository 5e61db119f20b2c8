/-! a day of a person, in the reference -/
theorem sC_lt {k : Nat} (hk : k ≤ 9) : ((nI k < 2) ↔ k < 2) ∧ ((5 < nI k) ↔ 5 < k) ∧ ((nI k < 3) ↔ k < 3) ∧ ((nI k = 0) ↔ k = 0) ∧ ((nI k = 2) ↔ k = 2) ∧ ((nI k = 3) ↔ k = 3) ∧ ((nI k = 4) ↔ k = 4) ∧ ((nI k = 5) ↔ k = 5) := by
  have : ∀ k, k ≤ 9 → ((nI k < 2) ↔ k < 2) ∧ ((5 < nI k) ↔ 5 < k) ∧ ((nI k < 3) ↔ k < 3) ∧ ((nI k = 0) ↔ k = 0) ∧ ((nI k = 2) ↔ k = 2) ∧ ((nI k = 3) ↔ k = 3) ∧ ((nI k = 4) ↔ k = 4) ∧ ((nI k = 5) ↔ k = 5) := by decide +kernel
  exact this k hk
def sC1 (k : Nat) (s : Lfe) : Lfe := if 2 ≤ k ∧ k ≤ 5 then uL s 79 (rw_ s + k) (s 79 (rw_ s + k) + 1) else s
def sC2 (k : Nat) (w : Int32) (s : Lfe) : Lfe := uL (uL (sC1 k s) 79 (rw_ s + 6) (sC1 k s 79 (rw_ s + 6) + w)) 81 0 (sC1 k s 81 0 + w)
theorem sCount_eq {k : Nat} {w : Int32} {s : Lfe} (hk : k ≤ 9) : sCount (nI k) w s = if 3 ≤ k ∧ k ≤ 5 then uL (sC2 k w s) 81 1 (sC2 k w s 81 1 + 1) else if k = 0 then uL (sC2 k w s) 81 2 (sC2 k w s 81 2 + 1) else sC2 k w s := by
  obtain ⟨l2, l5, l3, l0, -⟩ := sC_lt hk
  have e1 : (if nI k < 2 then s else if 5 < nI k then s else uL s 79 (rw_ s + (nI k).toNatClampNeg) (s 79 (rw_ s + (nI k).toNatClampNeg) + 1)) = sC1 k s := by
    unfold sC1
    rw [nI_clamp (by omega)]
    by_cases a : k < 2
    · rw [if_pos (l2.mpr a), if_neg (by omega)]
    · rw [if_neg (fun q => a (l2.mp q))]
      by_cases b : 5 < k
      · rw [if_pos (l5.mpr b), if_neg (by omega)]
      · rw [if_neg (fun q => b (l5.mp q)), if_pos (by omega)]
  unfold sCount
  dsimp only
  rw [e1]
  show (if nI k < 3 then (if nI k = 0 then uL (sC2 k w s) 81 2 (sC2 k w s 81 2 + 1) else sC2 k w s) else if 5 < nI k then (if nI k = 0 then uL (sC2 k w s) 81 2 (sC2 k w s 81 2 + 1) else sC2 k w s) else uL (sC2 k w s) 81 1 (sC2 k w s 81 1 + 1)) = _
  by_cases a : k < 3
  · rw [if_pos (l3.mpr a), if_neg (show ¬ (3 ≤ k ∧ k ≤ 5) by omega)]
    by_cases b : k = 0
    · rw [if_pos (l0.mpr b), if_pos b]
    · rw [if_neg (fun q => b (l0.mp q)), if_neg b]
  · rw [if_neg (fun q => a (l3.mp q))]
    by_cases b : 5 < k
    · rw [if_pos (l5.mpr b), if_neg (show ¬ (3 ≤ k ∧ k ≤ 5) by omega), if_neg (fun q => by have := l0.mp q; omega), if_neg (show ¬ k = 0 by omega)]
    · rw [if_neg (fun q => b (l5.mp q)), if_pos (show 3 ≤ k ∧ k ≤ 5 by omega)]
theorem sC1_o {k : Nat} {s : Lfe} {f i : Nat} (h : f ≠ 79) : sC1 k s f i = s f i := by
  unfold sC1
  split
  · exact uL_o h
  · rfl
theorem sC1_c {k i : Nat} {s : Lfe} : sC1 k s 79 i = s 79 i + if 2 ≤ k ∧ k ≤ 5 ∧ i = rw_ s + k then 1 else 0 := by
  unfold sC1
  by_cases a : 2 ≤ k ∧ k ≤ 5
  · rw [if_pos a]
    by_cases b : i = rw_ s + k
    · rw [b, uL_s, if_pos ⟨a.1, a.2, rfl⟩]
    · rw [uL_i b, if_neg (fun q => b q.2.2), Int32.add_zero]
  · rw [if_neg a, if_neg (fun q => a ⟨q.1, q.2.1⟩), Int32.add_zero]
theorem sC2_o {k : Nat} {w : Int32} {s : Lfe} {f i : Nat} (h : f ≠ 79) (h2 : f ≠ 81) : sC2 k w s f i = s f i := by
  unfold sC2
  rw [uL_o h2, uL_o h, sC1_o h]
theorem sC2_c {k i : Nat} {w : Int32} {s : Lfe} : sC2 k w s 79 i = if i = rw_ s + 6 then s 79 i + w else s 79 i + if 2 ≤ k ∧ k ≤ 5 ∧ i = rw_ s + k then 1 else 0 := by
  unfold sC2
  rw [uL_o (by decide)]
  by_cases a : i = rw_ s + 6
  · rw [a, uL_s, if_pos rfl, sC1_c, if_neg (by omega), Int32.add_zero]
  · rw [uL_i a, if_neg a, sC1_c]
theorem sC2_t {k i : Nat} {w : Int32} {s : Lfe} : sC2 k w s 81 i = if i = 0 then s 81 0 + w else s 81 i := by
  unfold sC2
  by_cases a : i = 0
  · rw [a, uL_s, if_pos rfl, sC1_o (by decide)]
  · rw [uL_i a, if_neg a, uL_o (by decide), sC1_o (by decide)]
theorem sCt_o {k : Nat} {w : Int32} {s : Lfe} {f i : Nat} (hk : k ≤ 9) (h : f ≠ 79) (h2 : f ≠ 81) : sCount (nI k) w s f i = s f i := by
  rw [sCount_eq hk]
  split
  · rw [uL_o h2, sC2_o h h2]
  · split
    · rw [uL_o h2, sC2_o h h2]
    · exact sC2_o h h2
theorem sCt_c {k i : Nat} {w : Int32} {s : Lfe} (hk : k ≤ 9) : sCount (nI k) w s 79 i = if i = rw_ s + 6 then s 79 i + w else s 79 i + if 2 ≤ k ∧ k ≤ 5 ∧ i = rw_ s + k then 1 else 0 := by
  rw [sCount_eq hk, ← sC2_c]
  split
  · exact uL_o (by decide)
  · split
    · exact uL_o (by decide)
    · rfl
theorem sCt_t {k : Nat} {w : Int32} {s : Lfe} (hk : k ≤ 9) : sCount (nI k) w s 81 0 = s 81 0 + w ∧ sCount (nI k) w s 81 1 = s 81 1 + (if 3 ≤ k ∧ k ≤ 5 then 1 else 0) ∧ sCount (nI k) w s 81 2 = s 81 2 + if k = 0 then 1 else 0 := by
  rw [sCount_eq hk]
  by_cases a : 3 ≤ k ∧ k ≤ 5
  · rw [if_pos a, if_pos a, if_neg (show ¬ k = 0 by omega), uL_i (by decide), uL_s, uL_i (by decide), sC2_t, sC2_t, sC2_t, if_pos rfl, if_neg (by decide), if_neg (by decide), Int32.add_zero]
    exact ⟨rfl, rfl, rfl⟩
  · rw [if_neg a, if_neg a]
    by_cases b : k = 0
    · rw [if_pos b, if_pos b, uL_i (by decide), uL_i (by decide), uL_s, sC2_t, sC2_t, sC2_t, if_pos rfl, if_neg (by decide), if_neg (by decide), Int32.add_zero]
      exact ⟨rfl, rfl, rfl⟩
    · rw [if_neg b, if_neg b, sC2_t, sC2_t, sC2_t, if_pos rfl, if_neg (by decide), if_neg (by decide), Int32.add_zero, Int32.add_zero]
      exact ⟨rfl, rfl, rfl⟩
/-- a slice under writes to one day -/
theorem parts_y {p d c nc nb y : Nat} {μ μ' : St} {s : Lfe} {cm : Nat → Nat} (hy : y = 624 * p + (d - 312)) (hd1 : 312 ≤ d) (hd : d < 936) (h1 : ∀ f i, 275 ≤ f ∧ f ≤ 303 → μ'.1 f 0 0 i = μ.1 f 0 0 i) (h2 : ∀ f i, 304 ≤ f ∧ f ≤ 306 → i ≠ y → μ'.1 f 0 0 i = μ.1 f 0 0 i) (h3 : ∀ i, μ'.2 300 0 0 i = μ.2 300 0 0 i) (h4 : ∀ i, i ≠ y → μ'.2 308 0 0 i = μ.2 308 0 0 i) (a : RfP p μ s ∧ RfC p μ s c nc cm ∧ RfB p d μ s nb ∧ RfD p d μ s ∧ RfY μ s c cm) : RfP p μ' s ∧ RfC p μ' s c nc cm ∧ RfB p d μ' s nb ∧ RfD p d μ' s ∧ RfY μ' s c cm := by
  obtain ⟨a1, a2, a3, a4, a5⟩ := a
  exact ⟨⟨(h1 _ _ (by decide)).trans a1.wk, (h1 _ _ (by decide)).trans a1.aw, (h1 _ _ (by decide)).trans a1.sh, (h1 _ _ (by decide)).trans a1.us, (h1 _ _ (by decide)).trans a1.lf, (h1 _ _ (by decide)).trans a1.me, (h1 _ _ (by decide)).trans a1.re⟩, a2.mv (fun f i q => h1 f i (by omega)) (fun _ _ _ => rfl), a3.mv (fun f i q => h1 f i (by omega)) rfl, a4.mv (by omega) (fun f i q hi => h2 f _ q (by omega)) (fun i hi => h4 _ (by omega)) (fun _ => rfl) (fun _ => rfl), a5.mv h3 (fun _ => rfl)⟩
