/-! offers answered, cases closed, what was sent -/
theorem e_close {N : Nat} {σ μ : St} (hE : Eq1 σ μ) (hR : Rng μ) (a1 a2 : Int32) (hz : a2 = 0 ∨ a2 = 1) :
    (fX_close N a1 a2 σ = some (none, σ) ∧ fM_close N a1 a2 μ = some (0, sI (sI μ 204 0 0 0 0) 204 0 0 0 1)) ∨
    (fX_close N a1 a2 σ = some (some 0, σ) ∧ fM_close N a1 a2 μ = some (0, sI μ 204 0 0 0 0)) ∨
    (∃ c j : Nat, c ≤ 30 ∧ j < c ∧ μ.1 338 0 0 0 = nI c ∧ a1 = nI j ∧ μ.1 345 0 0 j = -1 ∧ a2 = 0 ∧
      fX_close N a1 a2 σ = some (some 1, sI (sI σ 34 0 0 j (μ.1 205 0 0 0)) 35 0 0 j 0) ∧
      fM_close N a1 a2 μ = some (1, sI (sI (sI μ 204 0 0 0 0) 345 0 0 j (μ.1 205 0 0 0)) 346 0 0 j 0)) ∨
    (∃ c j n e p : Nat, c ≤ 30 ∧ j < c ∧ μ.1 338 0 0 0 = nI c ∧ a1 = nI j ∧ μ.1 345 0 0 j = -1 ∧ a2 = 1 ∧ n < 160 ∧ μ.1 218 0 0 0 = nI n ∧ μ.1 342 0 0 j = nI e ∧ e < 160 ∧ μ.1 230 0 0 e = nI p ∧ p < 20 ∧
      fX_close N a1 a2 σ = some (some 1, xTell (sI (sI σ 34 0 0 j (μ.1 205 0 0 0)) 35 0 0 j 1) n p 8 (nI e) (μ.1 205 0 0 0) (μ.1 205 0 0 0)) ∧
      fM_close N a1 a2 μ = some (1, mNote (sI (sI (sI μ 204 0 0 0 0) 345 0 0 j (μ.1 205 0 0 0)) 346 0 0 j 1) n 8 (nI p) (nI e) (μ.1 205 0 0 0) (μ.1 205 0 0 0))) := by
  obtain ⟨c, h2, ec, cc, -, hc⟩ := hR.n (g := 338) (lo := 0) (hi := 30) 0 (by decide) (by decide)
  obtain ⟨n, h4, en, cn, -, hn⟩ := hR.n (g := 218) (lo := 0) (hi := 160) 0 (by decide) (by decide)
  have h1 : σ.1 36 0 0 0 = nI c := (hE (36, 338) (by decide) 0).trans h2
  have h3 : σ.1 43 0 0 0 = nI n := (hE (43, 218) (by decide) 0).trans h4
  have h5 : σ.1 162 0 0 0 = μ.1 205 0 0 0 := hE (162, 205) (by decide) 0
  have z00 : (0 : Int32) &&& 1 = 0 := by decide
  have z11 : (1 : Int32) &&& 1 = 1 := by decide
  by_cases g : 0 ≤ a1.toInt ∧ a1.toInt < c
  · obtain ⟨j, rfl, ej, cj⟩ := argN g.1
    rw [ej] at g
    have h6 : σ.1 34 0 0 j = μ.1 345 0 0 j := hE (34, 345) (by decide) j
    obtain ⟨e, h7, ee, ce, -, he⟩ := hR.n (g := 342) (lo := 0) (hi := 159) j (by decide) (by decide)
    have h8 : σ.1 31 0 0 j = nI e := (hE (31, 342) (by decide) j).trans h7
    obtain ⟨p, h9, ep, cp, -, hp⟩ := hR.n (g := 230) (lo := 0) (hi := 19) e (by decide) (by decide)
    have h10 : σ.1 38 0 0 e = nI p := (hE (38, 230) (by decide) e).trans h9
    by_cases h : (μ.1 345 0 0 j).toInt = -1 ∧ (a2 = 0 ∨ n < 160)
    · have hcl : μ.1 345 0 0 j = -1 := (fa_eq _ _).mpr h.1
      have h' := h.1
      rcases hz with rfl | rfl
      · refine Or.inr (Or.inr (Or.inl ⟨c, j, by omega, by omega, h2, rfl, hcl, rfl, ?_, ?_⟩))
        · unfold fX_close fX_close_43
          simp only [sI_1, sI_2, sJ_1, sJ_2, sA_1, sA_2, fa_lt, fa_le, fa_eq, nI_1, nI_sub1, nmx, bnd_e, bn1_e, btW_n, btW_s, btR_n, btR_s, btO_n, btO_s, outside_e, reqE_e, reqP_e, btO_i, btR_i, mIsPerson_e, mFail_e, chk, inb, Int32.reduceToInt, Nat.reduceEqDiff, ite_01, ite_10, eq_self, true_and, and_true, false_and, and_self, reduceIte, not_false_eq_true, not_true_eq_false, or_true, true_or, or_false, false_or, and_false, Int.reduceEq, Int.reduceLT, Int.reduceLE, Nat.reduceLT, Nat.reduceLeDiff, Nat.reduceAdd, Nat.reduceMul, mrg1, mrg2, mrg3, mrg4, h1, ec, ej, cj, h5, h6, h', z00]
          ((repeat (first | rw [if_pos (by omega)] | rw [if_neg (by omega)])) <;> (try rfl))
        · unfold fM_close fM_close_50
          simp only [sI_1, sI_2, sJ_1, sJ_2, sA_1, sA_2, fa_lt, fa_le, fa_eq, nI_1, nI_sub1, nmx, bnd_e, bn1_e, btW_n, btW_s, btR_n, btR_s, btO_n, btO_s, outside_e, reqE_e, reqP_e, btO_i, btR_i, mIsPerson_e, mFail_e, chk, inb, Int32.reduceToInt, Nat.reduceEqDiff, ite_01, ite_10, eq_self, true_and, and_true, false_and, and_self, reduceIte, not_false_eq_true, not_true_eq_false, or_true, true_or, or_false, false_or, and_false, Int.reduceEq, Int.reduceLT, Int.reduceLE, Nat.reduceLT, Nat.reduceLeDiff, Nat.reduceAdd, Nat.reduceMul, mrg1, mrg2, mrg3, mrg4, h2, ec, ej, cj, h', z00]
          ((repeat (first | rw [if_pos (by omega)] | rw [if_neg (by omega)])) <;> (try rfl))
      · have hn2 : n < 160 := by
          rcases h.2 with h3 | h3
          · exact absurd h3 (by decide)
          · exact h3
        refine Or.inr (Or.inr (Or.inr ⟨c, j, n, e, p, by omega, by omega, h2, rfl, hcl, rfl, hn2, h4, h7, by omega, h9, by omega, ?_, ?_⟩))
        · unfold fX_close fX_close_43
          have t := e_tell (N := N) (σ := sI (sI σ 34 0 0 j (μ.1 205 0 0 0)) 35 0 0 j 1) 8 (nI e) (μ.1 205 0 0 0) (show (sI (sI σ 34 0 0 j (μ.1 205 0 0 0)) 35 0 0 j 1).1 43 0 0 0 = nI n from h3) en cn hn2 ep cp (show p < 20 by omega)
          rw [show (sI (sI σ 34 0 0 j (μ.1 205 0 0 0)) 35 0 0 j 1).1 162 0 0 0 = μ.1 205 0 0 0 from h5] at t
          simp only [sI_1, sI_2, sJ_1, sJ_2, sA_1, sA_2, fa_lt, fa_le, fa_eq, nI_1, nI_sub1, nmx, bnd_e, bn1_e, btW_n, btW_s, btR_n, btR_s, btO_n, btO_s, outside_e, reqE_e, reqP_e, btO_i, btR_i, mIsPerson_e, mFail_e, chk, inb, Int32.reduceToInt, Nat.reduceEqDiff, ite_01, ite_10, eq_self, true_and, and_true, false_and, and_self, reduceIte, not_false_eq_true, not_true_eq_false, or_true, true_or, or_false, false_or, and_false, Int.reduceEq, Int.reduceLT, Int.reduceLE, Nat.reduceLT, Nat.reduceLeDiff, Nat.reduceAdd, Nat.reduceMul, mrg1, mrg2, mrg3, mrg4, h1, h3, ec, en, ej, cj, h5, h6, h', h8, h10, ee, ce, z11, t]
          ((repeat (first | rw [if_pos (by omega)] | rw [if_neg (by omega)])) <;> (try rfl))
        · unfold fM_close fM_close_50
          have t := e_mnote (N := N) (μ := sI (sI (sI μ 204 0 0 0 0) 345 0 0 j (μ.1 205 0 0 0)) 346 0 0 j 1) 8 (nI p) (nI e) (μ.1 205 0 0 0) (show (sI (sI (sI μ 204 0 0 0 0) 345 0 0 j (μ.1 205 0 0 0)) 346 0 0 j 1).1 218 0 0 0 = nI n from h4) en cn hn2
          rw [show (sI (sI (sI μ 204 0 0 0 0) 345 0 0 j (μ.1 205 0 0 0)) 346 0 0 j 1).1 205 0 0 0 = μ.1 205 0 0 0 from rfl] at t
          simp only [sI_1, sI_2, sJ_1, sJ_2, sA_1, sA_2, fa_lt, fa_le, fa_eq, nI_1, nI_sub1, nmx, bnd_e, bn1_e, btW_n, btW_s, btR_n, btR_s, btO_n, btO_s, outside_e, reqE_e, reqP_e, btO_i, btR_i, mIsPerson_e, mFail_e, chk, inb, Int32.reduceToInt, Nat.reduceEqDiff, ite_01, ite_10, eq_self, true_and, and_true, false_and, and_self, reduceIte, not_false_eq_true, not_true_eq_false, or_true, true_or, or_false, false_or, and_false, Int.reduceEq, Int.reduceLT, Int.reduceLE, Nat.reduceLT, Nat.reduceLeDiff, Nat.reduceAdd, Nat.reduceMul, mrg1, mrg2, mrg3, mrg4, h2, h4, ec, en, ej, cj, h', h7, h9, ee, ce, z11, t]
          ((repeat (first | rw [if_pos (by omega)] | rw [if_neg (by omega)])) <;> (try rfl))
    · refine Or.inr (Or.inl ⟨?_, ?_⟩)
      · unfold fX_close
        rcases hz with rfl | rfl
        · have h' : ¬ (μ.1 345 0 0 j).toInt = -1 := fun z => h ⟨z, Or.inl rfl⟩
          simp only [sI_1, sI_2, sJ_1, sJ_2, sA_1, sA_2, fa_lt, fa_le, fa_eq, nI_1, nI_sub1, nmx, bnd_e, bn1_e, btW_n, btW_s, btR_n, btR_s, btO_n, btO_s, outside_e, reqE_e, reqP_e, btO_i, btR_i, mIsPerson_e, mFail_e, chk, inb, Int32.reduceToInt, Nat.reduceEqDiff, ite_01, ite_10, eq_self, true_and, and_true, false_and, and_self, reduceIte, not_false_eq_true, not_true_eq_false, or_true, true_or, or_false, false_or, and_false, Int.reduceEq, Int.reduceLT, Int.reduceLE, Nat.reduceLT, Nat.reduceLeDiff, Nat.reduceAdd, Nat.reduceMul, mrg1, mrg2, mrg3, mrg4, h1, h3, ec, en, ej, cj, h5, h6]
          ((repeat' split) <;> first | rfl | (exfalso; omega))
        · have h' : ¬ ((μ.1 345 0 0 j).toInt = -1 ∧ n < 160) := fun z => h ⟨z.1, Or.inr z.2⟩
          simp only [sI_1, sI_2, sJ_1, sJ_2, sA_1, sA_2, fa_lt, fa_le, fa_eq, nI_1, nI_sub1, nmx, bnd_e, bn1_e, btW_n, btW_s, btR_n, btR_s, btO_n, btO_s, outside_e, reqE_e, reqP_e, btO_i, btR_i, mIsPerson_e, mFail_e, chk, inb, Int32.reduceToInt, Nat.reduceEqDiff, ite_01, ite_10, eq_self, true_and, and_true, false_and, and_self, reduceIte, not_false_eq_true, not_true_eq_false, or_true, true_or, or_false, false_or, and_false, Int.reduceEq, Int.reduceLT, Int.reduceLE, Nat.reduceLT, Nat.reduceLeDiff, Nat.reduceAdd, Nat.reduceMul, mrg1, mrg2, mrg3, mrg4, h1, h3, ec, en, ej, cj, h5, h6]
          ((repeat' split) <;> first | rfl | (exfalso; omega))
      · unfold fM_close
        rcases hz with rfl | rfl
        · have h' : ¬ (μ.1 345 0 0 j).toInt = -1 := fun z => h ⟨z, Or.inl rfl⟩
          simp only [sI_1, sI_2, sJ_1, sJ_2, sA_1, sA_2, fa_lt, fa_le, fa_eq, nI_1, nI_sub1, nmx, bnd_e, bn1_e, btW_n, btW_s, btR_n, btR_s, btO_n, btO_s, outside_e, reqE_e, reqP_e, btO_i, btR_i, mIsPerson_e, mFail_e, chk, inb, Int32.reduceToInt, Nat.reduceEqDiff, ite_01, ite_10, eq_self, true_and, and_true, false_and, and_self, reduceIte, not_false_eq_true, not_true_eq_false, or_true, true_or, or_false, false_or, and_false, Int.reduceEq, Int.reduceLT, Int.reduceLE, Nat.reduceLT, Nat.reduceLeDiff, Nat.reduceAdd, Nat.reduceMul, mrg1, mrg2, mrg3, mrg4, h2, h4, ec, en, ej, cj]
          ((repeat' split) <;> first | rfl | (exfalso; omega))
        · have h' : ¬ ((μ.1 345 0 0 j).toInt = -1 ∧ n < 160) := fun z => h ⟨z.1, Or.inr z.2⟩
          simp only [sI_1, sI_2, sJ_1, sJ_2, sA_1, sA_2, fa_lt, fa_le, fa_eq, nI_1, nI_sub1, nmx, bnd_e, bn1_e, btW_n, btW_s, btR_n, btR_s, btO_n, btO_s, outside_e, reqE_e, reqP_e, btO_i, btR_i, mIsPerson_e, mFail_e, chk, inb, Int32.reduceToInt, Nat.reduceEqDiff, ite_01, ite_10, eq_self, true_and, and_true, false_and, and_self, reduceIte, not_false_eq_true, not_true_eq_false, or_true, true_or, or_false, false_or, and_false, Int.reduceEq, Int.reduceLT, Int.reduceLE, Nat.reduceLT, Nat.reduceLeDiff, Nat.reduceAdd, Nat.reduceMul, mrg1, mrg2, mrg3, mrg4, h2, h4, ec, en, ej, cj]
          ((repeat' split) <;> first | rfl | (exfalso; omega))
  · refine Or.inl ⟨?_, ?_⟩
    · unfold fX_close
      simp only [sI_1, sI_2, sJ_1, sJ_2, sA_1, sA_2, fa_lt, fa_le, fa_eq, nI_1, nI_sub1, nmx, bnd_e, bn1_e, btW_n, btW_s, btR_n, btR_s, btO_n, btO_s, outside_e, reqE_e, reqP_e, btO_i, btR_i, mIsPerson_e, mFail_e, chk, inb, Int32.reduceToInt, Nat.reduceEqDiff, ite_01, ite_10, eq_self, true_and, and_true, false_and, and_self, reduceIte, not_false_eq_true, not_true_eq_false, or_true, true_or, or_false, false_or, and_false, Int.reduceEq, Int.reduceLT, Int.reduceLE, Nat.reduceLT, Nat.reduceLeDiff, Nat.reduceAdd, Nat.reduceMul, mrg1, mrg2, mrg3, mrg4, h1, ec]
      ((repeat (first | rw [if_pos (by omega)] | rw [if_neg (by omega)])) <;> (try rfl))
    · unfold fM_close fM_close_17
      simp only [sI_1, sI_2, sJ_1, sJ_2, sA_1, sA_2, fa_lt, fa_le, fa_eq, nI_1, nI_sub1, nmx, bnd_e, bn1_e, btW_n, btW_s, btR_n, btR_s, btO_n, btO_s, outside_e, reqE_e, reqP_e, btO_i, btR_i, mIsPerson_e, mFail_e, chk, inb, Int32.reduceToInt, Nat.reduceEqDiff, ite_01, ite_10, eq_self, true_and, and_true, false_and, and_self, reduceIte, not_false_eq_true, not_true_eq_false, or_true, true_or, or_false, false_or, and_false, Int.reduceEq, Int.reduceLT, Int.reduceLE, Nat.reduceLT, Nat.reduceLeDiff, Nat.reduceAdd, Nat.reduceMul, mrg1, mrg2, mrg3, mrg4, h2, ec]
      ((repeat (first | rw [if_pos (by omega)] | rw [if_neg (by omega)])) <;> (try rfl))
