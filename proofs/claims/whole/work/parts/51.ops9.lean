theorem st_ext {σ τ : St} (h1 : ∀ f a b i, σ.1 f a b i = τ.1 f a b i) (h2 : ∀ f a b i, σ.2 f a b i = τ.2 f a b i) : σ = τ :=
  Prod.ext (funext fun f => funext fun a => funext fun b => funext fun i => h1 f a b i) (funext fun f => funext fun a => funext fun b => funext fun i => h2 f a b i)
theorem i3 {c : Nat} (hc : c < 30) : nI c * 3 = nI (3 * c) ∧ 3 * nI c = nI (3 * c) := by
  have : ∀ c, c < 30 → nI c * 3 = nI (3 * c) ∧ 3 * nI c = nI (3 * c) := by decide +kernel
  exact this c hc
def xBench (σ : St) (c : Nat) (r0 r1 r2 : Int32) : St := sI (sI (sI σ 33 0 0 (3 * c) r0) 33 0 0 (3 * c + 1) r1) 33 0 0 (3 * c + 2) r2
def xCase (σ : St) (c : Nat) (e t r0 r1 r2 : Int32) : St := sI (sI (sI (sI (sI (sI (sI (xBench σ c r0 r1 r2) 30 0 0 0 r0) 30 0 0 1 r1) 30 0 0 2 r2) 31 0 0 c e) 32 0 0 c t) 34 0 0 c (-1)) 36 0 0 0 (nI (c + 1))
def mCase (μ : St) (c : Nat) (e t r0 r1 r2 : Int32) : St := sI (sI (sI (sI (sI (sI (sI (sI (sI (sI μ 341 0 0 0 r0) 341 0 0 1 r1) 341 0 0 2 r2) 344 0 0 (3 * c) r0) 344 0 0 (3 * c + 1) r1) 344 0 0 (3 * c + 2) r2) 342 0 0 c e) 343 0 0 c t) 345 0 0 c (-1)) 338 0 0 0 (nI (c + 1))
theorem cpy_bench {σ : St} {c : Nat} {r0 r1 r2 : Int32} : sA (xBench σ c r0 r1 r2) 30 0 0 (va_cpy ((xBench σ c r0 r1 r2).1 33 0 0) ((xBench σ c r0 r1 r2).1 30 0 0) (3 * c) 0 3) = sI (sI (sI (xBench σ c r0 r1 r2) 30 0 0 0 r0) 30 0 0 1 r1) 30 0 0 2 r2 := by
  have b0 : (xBench σ c r0 r1 r2).1 33 0 0 (3 * c) = r0 := by
    unfold xBench
    rw [sI_i (by omega), sI_i (by omega), sI_s]
  have b1 : (xBench σ c r0 r1 r2).1 33 0 0 (3 * c + 1) = r1 := by
    unfold xBench
    rw [sI_i (by omega), sI_s]
  have b2 : (xBench σ c r0 r1 r2).1 33 0 0 (3 * c + 2) = r2 := by
    unfold xBench
    rw [sI_s]
  refine st_ext (fun f a b i => ?_) (fun f a b i => rfl)
  rw [sA_1, sI_1, sI_1, sI_1]
  by_cases h : f = 30 ∧ a = 0 ∧ b = 0
  · obtain ⟨rfl, rfl, rfl⟩ := h
    rw [if_pos ⟨rfl, rfl, rfl⟩]
    unfold va_cpy
    have hi : i = 0 ∨ i = 1 ∨ i = 2 ∨ 3 ≤ i := by omega
    rcases hi with rfl | rfl | rfl | hi
    · simp [b0]
    · simp [b1]
    · simp [b2]
    · rw [if_neg (by omega), if_neg (by omega), if_neg (by omega), if_neg (by omega)]
  · rw [if_neg h, if_neg (fun z => h ⟨z.1, z.2.1, z.2.2.1⟩), if_neg (fun z => h ⟨z.1, z.2.1, z.2.2.1⟩), if_neg (fun z => h ⟨z.1, z.2.1, z.2.2.1⟩)]
theorem open_step {N n c l : Nat} {σ : St} {e b t r : Int32} (h1 : σ.1 36 0 0 0 = nI c) (hc : c < 30) (hl : l < 3) (hr : fCourts_nextOf N (nI l) b σ = some r) :
    fCourts_open_3 N (n + 1) e b t (nI l) σ = if r = -1 then some (-1, σ) else fCourts_open_3 N n e b t (nI (l + 1)) (sI σ 33 0 0 (3 * c + l) r) := by
  have el := nI_toInt (n := l) (by omega)
  show (if (3 : Int32) ≤ nI l then _ else bn1 (fCourts_nextOf N (nI l) b σ) _) = _
  rw [if_neg (by rw [fa_le, el, show (3 : Int32).toInt = 3 by decide]; omega), hr, bn1_e]
  by_cases h : r = -1
  · rw [if_pos h, if_pos h]
  · rw [if_neg h, if_neg h, h1, (i3 hc).1, nI_add, chk_t (inb_n (by omega) (by decide)), nmx, nI_clamp (by omega), nI_1]
theorem open_end {N n c : Nat} {σ : St} {e b t r0 r1 r2 : Int32} (h1 : σ.1 36 0 0 0 = nI c) (hc : c < 30) : fCourts_open_3 N (n + 1) e b t (nI 3) (xBench σ c r0 r1 r2) = some (nI c, xCase σ c e t r0 r1 r2) := by
  have ec := nI_toInt (n := c) (by omega)
  have cc := nI_clamp (n := c) (by omega)
  have hb : (xBench σ c r0 r1 r2).1 36 0 0 0 = nI c := h1
  have hp : cpok (nI (3 * c)) 0 3 90 3 := by
    refine ⟨nI_pos' (by omega), by decide, by decide, ?_, by decide⟩
    rw [nI_clamp (by omega)]
    show 3 * c + 3 ≤ 90
    omega
  show (if (3 : Int32) ≤ nI 3 then _ else _) = _
  rw [if_pos (by decide), hb, (i3 hc).1, chk_t hp, nmx, nI_clamp (by omega)]
  rw [cpy_bench]
  unfold xCase
  simp only [sI_1, sI_2, sJ_1, sJ_2, sA_1, sA_2, fa_lt, fa_le, fa_eq, nI_1, nI_sub1, nmx, bnd_e, bn1_e, btW_n, btW_s, btR_n, btR_s, btO_n, btO_s, outside_e, reqE_e, reqP_e, btO_i, btR_i, mIsPerson_e, mFail_e, chk, inb, Int32.reduceToInt, Nat.reduceEqDiff, ite_01, ite_10, eq_self, true_and, and_true, false_and, and_self, reduceIte, not_false_eq_true, not_true_eq_false, or_true, true_or, or_false, false_or, and_false, Int.reduceEq, Int.reduceLT, Int.reduceLE, Nat.reduceLT, Nat.reduceLeDiff, Nat.reduceAdd, Nat.reduceMul, mrg1, mrg2, mrg3, mrg4, hb, ec, cc]
  ((repeat (first | rw [if_pos (by omega)] | rw [if_neg (by omega)])) <;> (try rfl))
theorem open_X {N c : Nat} {σ μ : St} {e b t r0 r1 r2 : Int32} (hE : Eq1 σ μ) (hN : 30 ≤ N) (h1 : μ.1 338 0 0 0 = nI c) (hc : c < 30) (g0 : fM_nextJudge N (nI 0) b μ = some r0) (g1 : fM_nextJudge N (nI 1) b μ = some r1) (g2 : fM_nextJudge N (nI 2) b μ = some r2) :
    (r0 ≠ -1 ∧ r1 ≠ -1 ∧ r2 ≠ -1 ∧ fCourts_open N e b t σ = some (nI c, xCase σ c e t r0 r1 r2)) ∨
    (¬ (r0 ≠ -1 ∧ r1 ≠ -1 ∧ r2 ≠ -1) ∧ ∃ σ' : St, fCourts_open N e b t σ = some (-1, σ') ∧ (σ' = σ ∨ σ' = sI σ 33 0 0 (3 * c) r0 ∨ σ' = sI (sI σ 33 0 0 (3 * c) r0) 33 0 0 (3 * c + 1) r1)) := by
  obtain ⟨n, rfl⟩ : ∃ n, N = n + 4 := ⟨N - 4, by omega⟩
  have hs : σ.1 36 0 0 0 = nI c := (hE (36, 338) (by decide) 0).trans h1
  have nx : ∀ (τ : St), Eq1 τ μ → ∀ l, fCourts_nextOf (n + 4) l b τ = fM_nextJudge (n + 4) l b μ := fun τ h l => next_eq h _ _ _ _
  have hE1 : Eq1 (sI σ 33 0 0 (3 * c) r0) μ := hE.l (by decide)
  have hE2 : Eq1 (sI (sI σ 33 0 0 (3 * c) r0) 33 0 0 (3 * c + 1) r1) μ := hE1.l (by decide)
  have s0 := open_step (N := n + 4) (n := n + 3) (e := e) (t := t) hs hc (show 0 < 3 by decide) ((nx σ hE _).trans g0)
  have s1 := open_step (N := n + 4) (n := n + 2) (σ := sI σ 33 0 0 (3 * c) r0) (e := e) (t := t) hs hc (show 1 < 3 by decide) ((nx _ hE1 _).trans g1)
  have s2 := open_step (N := n + 4) (n := n + 1) (σ := sI (sI σ 33 0 0 (3 * c) r0) 33 0 0 (3 * c + 1) r1) (e := e) (t := t) hs hc (show 2 < 3 by decide) ((nx _ hE2 _).trans g2)
  have s3 := open_end (N := n + 4) (n := n) (e := e) (b := b) (t := t) (r0 := r0) (r1 := r1) (r2 := r2) hs hc
  have e0 : fCourts_open (n + 4) e b t σ = fCourts_open_3 (n + 4) (n + 3 + 1) e b t (nI 0) σ := rfl
  rw [e0, s0]
  by_cases h0 : r0 = -1
  · rw [if_pos h0]
    exact Or.inr ⟨fun z => z.1 h0, σ, rfl, Or.inl rfl⟩
  · rw [if_neg h0]
    have e1 : fCourts_open_3 (n + 4) (n + 3) e b t (nI (0 + 1)) (sI σ 33 0 0 (3 * c + 0) r0) = fCourts_open_3 (n + 4) (n + 2 + 1) e b t (nI 1) (sI σ 33 0 0 (3 * c) r0) := rfl
    rw [e1, s1]
    by_cases h1 : r1 = -1
    · rw [if_pos h1]
      exact Or.inr ⟨fun z => z.2.1 h1, _, rfl, Or.inr (Or.inl rfl)⟩
    · rw [if_neg h1]
      have e2 : fCourts_open_3 (n + 4) (n + 2) e b t (nI (1 + 1)) (sI (sI σ 33 0 0 (3 * c) r0) 33 0 0 (3 * c + 1) r1) = fCourts_open_3 (n + 4) (n + 1 + 1) e b t (nI 2) (sI (sI σ 33 0 0 (3 * c) r0) 33 0 0 (3 * c + 1) r1) := rfl
      rw [e2, s2]
      by_cases h2 : r2 = -1
      · rw [if_pos h2]
        exact Or.inr ⟨fun z => z.2.2 h2, _, rfl, Or.inr (Or.inr rfl)⟩
      · rw [if_neg h2]
        exact Or.inl ⟨h0, h1, h2, s3⟩
