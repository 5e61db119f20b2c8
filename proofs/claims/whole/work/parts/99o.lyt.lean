/-! what is cleared, in the reference -/
def clF (f : Nat) : Bool := decide (f = 277) || decide (f = 278)
theorem zeroC_loop {N : Nat} {x : Int32} : ∀ (e i m : Nat) (μ : St), i + e = 160 → e < m → ∃ μ', fM_beginRun_99 N m x (nI i) μ = fM_beginRun_128 N N x 0 μ' ∧ Fx clF μ μ' ∧ (∀ f q, q < i → μ'.1 f 0 0 q = μ.1 f 0 0 q) ∧ ∀ q, i ≤ q → q < 160 → μ'.1 277 0 0 q = 0 ∧ μ'.1 278 0 0 q = 0 := by
  intro e
  induction e with
  | zero =>
    intro i m μ h1 h2
    obtain ⟨m, rfl⟩ : ∃ q, m = q + 1 := ⟨m - 1, by omega⟩
    obtain rfl : i = 160 := by omega
    exact ⟨μ, rfl, Fx.rf, fun _ _ _ => rfl, fun q a b => by omega⟩
  | succ e ih =>
    intro i m μ h1 h2
    obtain ⟨m, rfl⟩ : ∃ q, m = q + 1 := ⟨m - 1, by omega⟩
    obtain ⟨μ', i1, i2, i3, i4⟩ := ih (i + 1) m (sI (sI μ 277 0 0 i 0) 278 0 0 i 0) (by omega) (by omega)
    refine ⟨μ', ?_, ((Fx.s (by decide)).tr (Fx.s (by decide))).tr i2, fun f q hq => ?_, fun q a b => ?_⟩
    · show (if (160 : Int32) ≤ nI i then _ else chk (inb (nI i) 160) (nm (sI μ 277 0 0 (nI i).toNatClampNeg (0 &&& 1)) fun (σ1 : St) => nm (sI σ1 278 0 0 (nI i).toNatClampNeg (0 &&& 1)) fun (σ2 : St) => fM_beginRun_99 N m x (nI i + 1) σ2)) = _
      rw [if_neg (show ¬ (160 : Int32) ≤ nI i from nI_ge (a := i) (b := 160) (by omega) (by omega)), chk_t (inb_n (by omega) (by decide)), nmx, nmx, nI_clamp (by omega), show ((0 : Int32) &&& 1) = 0 by decide, nI_1, i1]
    · rw [i3 f q (by omega), sI_1, if_neg (fun z => by have := z.2.2.2; omega), sI_1, if_neg (fun z => by have := z.2.2.2; omega)]
    · by_cases z : q = i
      · rw [z, i3 _ i (by omega), i3 _ i (by omega), sI_o (by decide), sI_s, sI_s]
        exact ⟨rfl, rfl⟩
      · exact i4 q (by omega) b
theorem isKn_M {N e k : Nat} {μ : St} (he : e < 160) : fM_isKnown N (nI e) (nI k) μ = some (if kwM μ k e = true then 1 else 0) := by
  unfold fM_isKnown fM_isKnown_30 kwM knw
  rw [chk_t (inb_n he (by decide)), nI_clamp (by omega)]
  by_cases a : nI k < μ.1 233 0 0 e
  · rw [if_pos (show nI k < μ.1 233 0 0 e from a), if_neg]
    intro q
    simp only [Bool.and_eq_true, decide_eq_true_eq] at q
    exact absurd a (Int32.not_lt.mpr q.1)
  · rw [if_neg (show ¬ nI k < μ.1 233 0 0 e from a)]
    have a' : μ.1 233 0 0 e ≤ nI k := Int32.not_lt.mp a
    by_cases b : μ.1 234 0 0 e = -1
    · rw [if_pos (show μ.1 234 0 0 e = -1 from b), if_pos (by simp [a', b])]
    · rw [if_neg (show ¬ μ.1 234 0 0 e = -1 from b)]
      by_cases c : μ.1 234 0 0 e ≤ nI k
      · rw [if_pos (show μ.1 234 0 0 e ≤ nI k from c), if_neg]
        intro q
        simp only [Bool.and_eq_true, Bool.or_eq_true, decide_eq_true_eq] at q
        rcases q.2 with z | z
        · exact b z
        · exact absurd z (Int32.not_lt.mpr c)
      · rw [if_neg (show ¬ μ.1 234 0 0 e ≤ nI k from c), if_pos]
        simp only [Bool.and_eq_true, Bool.or_eq_true, decide_eq_true_eq]
        exact ⟨a', Or.inr (Int32.not_le.mp c)⟩
theorem clear_loop {N k : Nat} {μ0 : St} (hI : EvI μ0) {cnt : Nat} (hc : μ0.1 218 0 0 0 = nI cnt) (hc2 : cnt ≤ 160) : ∀ (e i m : Nat) (μ : St), i + e = cnt → e < m → (∀ f q, f ≠ 278 → μ.1 f 0 0 q = μ0.1 f 0 0 q) → (∀ q, q < cnt → μ.1 278 0 0 q = clr i (peM μ0) (kdM μ0) (nuM μ0) (kwM μ0 k) (peM μ0 q) q) → ∃ μ', fM_beginRun_128 N m (nI k) (nI i) μ = some μ' ∧ Fx clF μ μ' ∧ (∀ f q, f ≠ 278 → μ'.1 f 0 0 q = μ0.1 f 0 0 q) ∧ ∀ q, q < cnt → μ'.1 278 0 0 q = clr cnt (peM μ0) (kdM μ0) (nuM μ0) (kwM μ0 k) (peM μ0 q) q := by
  have hcn : cnM μ0 = cnt := by unfold cnM; rw [hc, nI_clamp (by omega)]
  intro e
  induction e with
  | zero =>
    intro i m μ h1 h2 h3 h4
    obtain ⟨m, rfl⟩ : ∃ q, m = q + 1 := ⟨m - 1, by omega⟩
    obtain rfl : i = cnt := by omega
    refine ⟨μ, ?_, Fx.rf, h3, h4⟩
    show (if μ.1 218 0 0 0 ≤ nI i then some μ else _) = _
    rw [h3 _ _ (by decide), hc, if_pos (Int32.le_refl _)]
  | succ e ih =>
    intro i m μ h1 h2 h3 h4
    obtain ⟨m, rfl⟩ : ∃ q, m = q + 1 := ⟨m - 1, by omega⟩
    obtain ⟨-, -, -, h8, -⟩ := hI i (by omega)
    have kw : kwM μ k i = kwM μ0 k i := by
      unfold kwM
      rw [h3 _ _ (by decide), h3 _ _ (by decide)]
    have e0 : fM_beginRun_128 N (m + 1) (nI k) (nI i) μ = if kdM μ0 i = 8 then (if kwM μ0 k i = true then chk (inb (nuM μ0 i) 160) (nm (sI μ 278 0 0 (nuM μ0 i).toNatClampNeg 1) fun (σ2 : St) => fM_beginRun_128 N m (nI k) (nI (i + 1)) σ2) else fM_beginRun_128 N m (nI k) (nI (i + 1)) μ) else fM_beginRun_128 N m (nI k) (nI (i + 1)) μ := by
      show (if μ.1 218 0 0 0 ≤ nI i then _ else chk (inb (nI i) 160) (if μ.1 229 0 0 (nI i).toNatClampNeg = 8 then bn1 (fM_isKnown N (nI i) (nI k) μ) fun r1 => if r1 = 0 then fM_beginRun_128 N m (nI k) (nI i + 1) μ else chk (inb (μ.1 231 0 0 (nI i).toNatClampNeg) 160) (nm (sI μ 278 0 0 (μ.1 231 0 0 (nI i).toNatClampNeg).toNatClampNeg (1 &&& 1)) fun (σ2 : St) => fM_beginRun_128 N m (nI k) (nI i + 1) σ2) else fM_beginRun_128 N m (nI k) (nI i + 1) μ)) = _
      rw [h3 _ 0 (by decide), hc, if_neg (nI_ge (by omega) (by omega)), chk_t (inb_n (by omega) (by decide)), isKn_M (by omega), bn1_e, nI_clamp (by omega), h3 _ i (by decide), h3 _ i (by decide), nI_1, kw]
      show (if kdM μ0 i = 8 then _ else _) = _
      by_cases y : kdM μ0 i = 8
      · rw [if_pos y, if_pos y]
        by_cases z : kwM μ0 k i = true
        · rw [if_pos z, if_neg (show ¬ (1 : Int32) = 0 by decide), if_pos z]
          rfl
        · rw [if_neg z, if_pos rfl, if_neg z]
      · rw [if_neg y, if_neg y]
    rw [e0]
    by_cases c8 : kdM μ0 i = 8
    · rw [if_pos c8]
      by_cases ck : kwM μ0 k i = true
      · obtain ⟨q0, q1, q2, q3⟩ := h8 c8
        rw [if_pos ck, q2, chk_t (inb_n (by omega) (by decide)), nmx, nI_clamp (by omega)]
        obtain ⟨μ', i1, i2, i3, i4⟩ := ih (i + 1) m (sI μ 278 0 0 q0 1) (by omega) (by omega) (fun f q hf => (sI_o hf).trans (h3 f q hf)) (fun q hq => by
          rw [clr_succ]
          by_cases z : q = q0
          · rw [z, sI_s, if_pos ⟨q3.symm, ck, c8, q2⟩]
          · rw [sI_i z, h4 q hq, if_neg (fun y => z ((nI_eq (by omega) (by omega)).mp (q2.symm.trans y.2.2.2)).symm)])
        exact ⟨μ', i1, (Fx.s (by decide)).tr i2, i3, i4⟩
      · rw [if_neg ck]
        exact ih (i + 1) m μ (by omega) (by omega) h3 (fun q hq => by rw [clr_succ, if_neg (fun y => ck y.2.1)]; exact h4 q hq)
    · rw [if_neg c8]
      exact ih (i + 1) m μ (by omega) (by omega) h3 (fun q hq => by rw [clr_succ, if_neg (fun y => c8 y.2.2.1)]; exact h4 q hq)
