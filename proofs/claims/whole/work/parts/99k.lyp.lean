/-! a day counted, in the reference -/
theorem cntD_M {N j y : Nat} {k : Int32} {σ : St} (hj : j < 160) (hy : y < 12480) : fM_dayOf_142 N (nI y) (nI j) k σ = some (sJ (sI (sI (sI (sI σ 292 0 0 j (σ.1 292 0 0 j + if k = 2 then 1 else 0)) 293 0 0 j (σ.1 293 0 0 j + if k = 3 then 1 else 0)) 294 0 0 j (σ.1 294 0 0 j + if k = 4 then 1 else 0)) 295 0 0 j (σ.1 295 0 0 j + if k = 5 then 1 else 0)) 300 0 0 j (σ.2 300 0 0 j + σ.2 308 0 0 y)) := by
  have e220 : ∀ (τ : St) (a b : Int32), fM_dayOf_220 N (nI y) (nI j) (nI j) a b τ = some (sJ (sI τ 295 0 0 j (a + b)) 300 0 0 j (τ.2 300 0 0 j + τ.2 308 0 0 y)) := fun τ a b => by
    unfold fM_dayOf_220
    rw [chk_t (inb_n hj (by decide)), nmx, chk_t (inb_n hj (by decide)), chk_t (inb_n hy (by decide)), nmx, nI_clamp (n := j) (by omega), nI_clamp (n := y) (by omega)]
    rfl
  have e200 : ∀ (τ : St) (a b : Int32), fM_dayOf_200 N (nI y) (nI j) k (nI j) a b τ = some (sJ (sI (sI τ 294 0 0 j (a + b)) 295 0 0 j (τ.1 295 0 0 j + if k = 5 then 1 else 0)) 300 0 0 j (τ.2 300 0 0 j + τ.2 308 0 0 y)) := fun τ a b => by
    unfold fM_dayOf_200
    rw [chk_t (inb_n hj (by decide)), nmx, chk_t (inb_n hj (by decide)), nI_clamp (n := j) (by omega), e220, e220]
    have : (sI τ 294 0 0 j (a + b)).1 295 0 0 j = τ.1 295 0 0 j := sI_o (by decide)
    rw [this]
    by_cases c : k = 5
    · rw [if_pos c, if_pos c]
      rfl
    · rw [if_neg c, if_neg c]
      rfl
  have e180 : ∀ (τ : St) (a b : Int32), fM_dayOf_180 N (nI y) (nI j) k (nI j) a b τ = some (sJ (sI (sI (sI τ 293 0 0 j (a + b)) 294 0 0 j (τ.1 294 0 0 j + if k = 4 then 1 else 0)) 295 0 0 j (τ.1 295 0 0 j + if k = 5 then 1 else 0)) 300 0 0 j (τ.2 300 0 0 j + τ.2 308 0 0 y)) := fun τ a b => by
    unfold fM_dayOf_180
    rw [chk_t (inb_n hj (by decide)), nmx, chk_t (inb_n hj (by decide)), nI_clamp (n := j) (by omega), e200, e200]
    have h1 : (sI τ 293 0 0 j (a + b)).1 294 0 0 j = τ.1 294 0 0 j := sI_o (by decide)
    have h2 : (sI τ 293 0 0 j (a + b)).1 295 0 0 j = τ.1 295 0 0 j := sI_o (by decide)
    rw [h1, h2]
    by_cases c : k = 4
    · rw [if_pos c, if_pos c]
      rfl
    · rw [if_neg c, if_neg c]
      rfl
  have e160 : ∀ (τ : St) (a b : Int32), fM_dayOf_160 N (nI y) (nI j) k (nI j) a b τ = some (sJ (sI (sI (sI (sI τ 292 0 0 j (a + b)) 293 0 0 j (τ.1 293 0 0 j + if k = 3 then 1 else 0)) 294 0 0 j (τ.1 294 0 0 j + if k = 4 then 1 else 0)) 295 0 0 j (τ.1 295 0 0 j + if k = 5 then 1 else 0)) 300 0 0 j (τ.2 300 0 0 j + τ.2 308 0 0 y)) := fun τ a b => by
    unfold fM_dayOf_160
    rw [chk_t (inb_n hj (by decide)), nmx, chk_t (inb_n hj (by decide)), nI_clamp (n := j) (by omega), e180, e180]
    have h0 : (sI τ 292 0 0 j (a + b)).1 293 0 0 j = τ.1 293 0 0 j := sI_o (by decide)
    have h1 : (sI τ 292 0 0 j (a + b)).1 294 0 0 j = τ.1 294 0 0 j := sI_o (by decide)
    have h2 : (sI τ 292 0 0 j (a + b)).1 295 0 0 j = τ.1 295 0 0 j := sI_o (by decide)
    rw [h0, h1, h2]
    by_cases c : k = 3
    · rw [if_pos c, if_pos c]
      rfl
    · rw [if_neg c, if_neg c]
      rfl
  unfold fM_dayOf_142
  rw [chk_t (inb_n hj (by decide)), nI_clamp (n := j) (by omega), e160, e160]
  by_cases c : k = 2
  · rw [if_pos c, if_pos c]
  · rw [if_neg c, if_neg c]
theorem kindC_r {E : Env} {d : Nat} {s : Lfe} : ∃ k : Nat, k ≤ 6 ∧ kindC E d s = nI k := by
  unfold kindC
  split
  · split
    · split
      · split
        · split
          · exact ⟨5, by decide, rfl⟩
          · exact ⟨4, by decide, rfl⟩
        · exact ⟨3, by decide, rfl⟩
      · exact ⟨2, by decide, rfl⟩
    · exact ⟨1, by decide, rfl⟩
  · exact ⟨6, by decide, rfl⟩
theorem isPd_n {k : Nat} (hk : k ≤ 9) : isPd (nI k) = true ↔ k = 3 ∨ k = 4 ∨ k = 5 := by
  have : ∀ k, k ≤ 9 → (isPd (nI k) = true ↔ k = 3 ∨ k = 4 ∨ k = 5) := by decide +kernel
  exact this k hk
theorem dayK_r {E : Env} {d : Nat} {s : Lfe} (ho : ¬ s 85 0 = 0) : ∃ k : Nat, k ≤ 6 ∧ (dayK E d s).1 = nI k ∧ ((isPd (nI k) = true ∧ (dayK E d s).2.1 = payD E d (vS E d s) (nI k) ∧ (dayK E d s).2.2 = tI ((E.sh d).last (payW (nI k)))) ∨ (isPd (nI k) = false ∧ (dayK E d s).2.1 = 0 ∧ (dayK E d s).2.2 = -1)) := by
  obtain ⟨k, k1, k2⟩ := kindC_r (E := E) (d := d) (s := s)
  have ed := dayK_o ho k2
  by_cases c : isPd (nI k) = true
  · rw [if_pos c] at ed
    by_cases c5 : nI k = 5 ∧ payD E d (vS E d s) (nI k) = 0
    · rw [if_pos c5] at ed
      rw [ed]
      exact ⟨0, by decide, rfl, Or.inr ⟨by decide, rfl, rfl⟩⟩
    · rw [if_neg c5] at ed
      rw [ed]
      exact ⟨k, k1, rfl, Or.inl ⟨c, rfl, rfl⟩⟩
  · rw [if_neg c] at ed
    rw [ed]
    exact ⟨k, k1, rfl, Or.inr ⟨by simpa using c, rfl, rfl⟩⟩
theorem payD_r {E : Env} {d : Nat} {vs : Nat → Int64} {k : Int32} : ∃ y : Nat, y ≤ 9999 ∧ payD E d vs k = nI y := by
  unfold payD
  split
  · split
    · exact ⟨0, by decide, rfl⟩
    · obtain ⟨n, h1, h2, -⟩ := lim_n ((E.sh d).par 2).toInt64
      exact ⟨n, h1, h2⟩
  · rename_i x _
    obtain ⟨n, h1, h2, -⟩ := lim_n (cv vs x.2)
    exact ⟨n, h1, h2⟩
theorem i32_64 {n : Nat} (h : n < 2 ^ 31) : ((nI n).toInt64).toInt32 = nI n := Int32.toInt32_toInt64 (nI n)
/-- a slice at the next day -/
theorem RfA.day {p d c nc nb : Nat} {μ : St} {s s1 : Lfe} {cm : Nat → Nat} {k y t cl : Nat} (hd1 : 312 ≤ d) (hd : d < 936) (a1 : RfP p μ s1) (a2 : RfC p μ s1 c nc cm) (a3 : RfB p d μ s1 nb) (a5 : RfY μ s1 c cm) (hk : k ≤ 9) (hy : y ≤ 9999) (ht : t ≤ 17) (hcl : cl ≤ 60) (b1 : μ.1 304 0 0 (624 * p + (d - 312)) = nI k) (b2 : μ.2 308 0 0 (624 * p + (d - 312)) = (nI y).toInt64) (b3 : μ.1 305 0 0 (624 * p + (d - 312)) = nI t - 1) (b4 : μ.1 306 0 0 (624 * p + (d - 312)) = nI cl - 1) (a4 : RfD p d μ s) (hp : ∀ i, s1 78 i = s 78 i) (t0 : s1 81 0 = s 81 0 + nI y) (t1 : s1 81 1 = s 81 1 + if isPd (nI k) = true then 1 else 0) (t2 : s1 81 2 = s 81 2 + if nI k = 0 then 1 else 0) : RfA p (d + 1) μ (uL (uL s1 78 (d - 312) (pck (nI k) (nI y) (nI t - 1) (nI cl - 1))) 83 0 (nI d)) nc nb := by
  have so : ∀ f i, f ≠ 78 → f ≠ 83 → uL (uL s1 78 (d - 312) (pck (nI k) (nI y) (nI t - 1) (nI cl - 1))) 83 0 (nI d) f i = s1 f i := fun f i q1 q2 => by rw [uL_o q2, uL_o q1]
  have e1 : d + 1 - 312 = (d - 312) + 1 := by omega
  refine ⟨c, cm, ⟨a1.wk.trans (so _ _ (by decide) (by decide)).symm, a1.aw.trans (so _ _ (by decide) (by decide)).symm, a1.sh.trans (so _ _ (by decide) (by decide)).symm, a1.us.trans (so _ _ (by decide) (by decide)).symm, a1.lf.trans (so _ _ (by decide) (by decide)).symm, a1.me.trans (so _ _ (by decide) (by decide)).symm, a1.re.trans (so _ _ (by decide) (by decide)).symm⟩, a2.mv (fun _ _ _ => rfl) (fun f i q => so f i (by rcases q with q | q | q | q <;> rw [q] <;> decide) (by rcases q with q | q | q | q <;> rw [q] <;> decide)), ⟨a3.nb, fun b hb => by have := a3.fr b hb; omega, fun d' q1 q2 => by rw [so _ _ (by decide) (by decide)]; exact a3.eq d' (by omega) q2, by rw [so _ _ (by decide) (by decide)]; exact a3.rg, a3.bd⟩, ⟨fun i hi => ?_, ?_, ?_, ?_⟩, a5.mv (fun _ => rfl) (fun i => so _ _ (by decide) (by decide))⟩
  · by_cases z : i = d - 312
    · have e5 : uL (uL s1 78 (d - 312) (pck (nI k) (nI y) (nI t - 1) (nI cl - 1))) 83 0 (nI d) 78 (d - 312) = pck (nI k) (nI y) (nI t - 1) (nI cl - 1) := (uL_o (show 78 ≠ 83 by decide)).trans (uL_s _ _ _ _)
      rw [z]
      exact ⟨k, y, t, cl, hk, hy, ht, hcl, b1, b2, b3, b4, e5⟩
    · obtain ⟨k', y', t', c', g1, g2, g3, g4, g5, g6, g7, g8, g9⟩ := a4.dy i (by omega)
      exact ⟨k', y', t', c', g1, g2, g3, g4, g5, g6, g7, g8, by rw [uL_o (by decide), uL_i z, hp i, g9]⟩
  · rw [so _ _ (by decide) (by decide), t0, a4.t0, e1]
    show _ = (pyS μ p (d - 312) + μ.2 308 0 0 (624 * p + (d - 312))).toInt32
    rw [b2, Int64.toInt32_add, i32_64 (by omega)]
  · rw [so _ _ (by decide) (by decide), t1, a4.t1, e1]
    show _ = nI (ctS μ p isPd (d - 312) + if isPd (μ.1 304 0 0 (624 * p + (d - 312))) = true then 1 else 0)
    rw [b1]
    by_cases z : isPd (nI k) = true
    · rw [if_pos z, if_pos z, nI_1]
    · rw [if_neg z, if_neg z]
      rw [Int32.add_zero, Nat.add_zero]
  · rw [so _ _ (by decide) (by decide), t2, a4.t2, e1]
    show _ = nI (ctS μ p (fun k => decide (k = 0)) (d - 312) + if decide (μ.1 304 0 0 (624 * p + (d - 312)) = 0) = true then 1 else 0)
    rw [b1]
    by_cases z : nI k = 0
    · rw [if_pos z, if_pos (decide_eq_true z), nI_1]
    · rw [if_neg z, if_neg (fun q => z (of_decide_eq_true q))]
      rw [Int32.add_zero, Nat.add_zero]
