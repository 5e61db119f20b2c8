/-! what the plain calls do, on both sides -/
theorem e_office {N : Nat} {σ μ : St} (hE : Eq1 σ μ) (hR : Rng μ) (a1 a2 : Int32) :
    (fX_office N a1 a2 σ = some (-1, σ) ∧ fM_office N a1 a2 μ = some (-1, sI μ 204 0 0 0 0)) ∨
    (∃ n : Nat, n < 8 ∧ μ.1 207 0 0 0 = nI n ∧ (0 ≤ a1.toInt ∧ a1.toInt ≤ 99 ∧ 0 ≤ a2.toInt ∧ a2.toInt ≤ 99) ∧
      fX_office N a1 a2 σ = some (nI n, sI (sI (sI σ 44 0 0 n a1) 45 0 0 n a2) 46 0 0 0 (nI (n + 1))) ∧
      fM_office N a1 a2 μ = some (nI n, sI (sI (sI (sI μ 204 0 0 0 0) 209 0 0 n a1) 210 0 0 n a2) 207 0 0 0 (nI (n + 1)))) := by
  obtain ⟨n, h2, en, cn, -, hn⟩ := hR.n (g := 207) (lo := 0) (hi := 8) 0 (by decide) (by decide)
  have h1 : σ.1 46 0 0 0 = nI n := (hE (46, 207) (by decide) 0).trans h2
  by_cases h : n < 8 ∧ 0 ≤ a1.toInt ∧ a1.toInt ≤ 99 ∧ 0 ≤ a2.toInt ∧ a2.toInt ≤ 99
  · refine Or.inr ⟨n, h.1, h2, h.2, ?_, ?_⟩
    · unfold fX_office fLand_addOffice
      simp only [sI_1, sI_2, sJ_1, sJ_2, sA_1, sA_2, fa_lt, fa_le, fa_eq, nI_1, nI_sub1, nmx, bnd_e, bn1_e, btW_n, btW_s, btR_n, btR_s, btO_n, btO_s, outside_e, reqE_e, reqP_e, btO_i, btR_i, mIsPerson_e, mFail_e, chk, inb, Int32.reduceToInt, Nat.reduceEqDiff, ite_01, ite_10, eq_self, true_and, and_true, false_and, and_self, reduceIte, not_false_eq_true, not_true_eq_false, or_true, true_or, or_false, false_or, and_false, Int.reduceEq, Int.reduceLT, Int.reduceLE, Nat.reduceLT, Nat.reduceLeDiff, Nat.reduceAdd, Nat.reduceMul, mrg1, mrg2, mrg3, mrg4, h1, en, cn]
      ((repeat (first | rw [if_pos (by omega)] | rw [if_neg (by omega)])) <;> (try rfl))
    · unfold fM_office
      simp only [sI_1, sI_2, sJ_1, sJ_2, sA_1, sA_2, fa_lt, fa_le, fa_eq, nI_1, nI_sub1, nmx, bnd_e, bn1_e, btW_n, btW_s, btR_n, btR_s, btO_n, btO_s, outside_e, reqE_e, reqP_e, btO_i, btR_i, mIsPerson_e, mFail_e, chk, inb, Int32.reduceToInt, Nat.reduceEqDiff, ite_01, ite_10, eq_self, true_and, and_true, false_and, and_self, reduceIte, not_false_eq_true, not_true_eq_false, or_true, true_or, or_false, false_or, and_false, Int.reduceEq, Int.reduceLT, Int.reduceLE, Nat.reduceLT, Nat.reduceLeDiff, Nat.reduceAdd, Nat.reduceMul, mrg1, mrg2, mrg3, mrg4, h2, en, cn]
      ((repeat (first | rw [if_pos (by omega)] | rw [if_neg (by omega)])) <;> (try rfl))
  · refine Or.inl ⟨?_, ?_⟩
    · unfold fX_office fLand_addOffice
      simp only [sI_1, sI_2, sJ_1, sJ_2, sA_1, sA_2, fa_lt, fa_le, fa_eq, nI_1, nI_sub1, nmx, bnd_e, bn1_e, btW_n, btW_s, btR_n, btR_s, btO_n, btO_s, outside_e, reqE_e, reqP_e, btO_i, btR_i, mIsPerson_e, mFail_e, chk, inb, Int32.reduceToInt, Nat.reduceEqDiff, ite_01, ite_10, eq_self, true_and, and_true, false_and, and_self, reduceIte, not_false_eq_true, not_true_eq_false, or_true, true_or, or_false, false_or, and_false, Int.reduceEq, Int.reduceLT, Int.reduceLE, Nat.reduceLT, Nat.reduceLeDiff, Nat.reduceAdd, Nat.reduceMul, mrg1, mrg2, mrg3, mrg4, h1, en, cn]
      ((repeat (first | rw [if_pos (by omega)] | rw [if_neg (by omega)])) <;> (try rfl))
    · unfold fM_office
      simp only [sI_1, sI_2, sJ_1, sJ_2, sA_1, sA_2, fa_lt, fa_le, fa_eq, nI_1, nI_sub1, nmx, bnd_e, bn1_e, btW_n, btW_s, btR_n, btR_s, btO_n, btO_s, outside_e, reqE_e, reqP_e, btO_i, btR_i, mIsPerson_e, mFail_e, chk, inb, Int32.reduceToInt, Nat.reduceEqDiff, ite_01, ite_10, eq_self, true_and, and_true, false_and, and_self, reduceIte, not_false_eq_true, not_true_eq_false, or_true, true_or, or_false, false_or, and_false, Int.reduceEq, Int.reduceLT, Int.reduceLE, Nat.reduceLT, Nat.reduceLeDiff, Nat.reduceAdd, Nat.reduceMul, mrg1, mrg2, mrg3, mrg4, h2, en, cn]
      ((repeat (first | rw [if_pos (by omega)] | rw [if_neg (by omega)])) <;> (try rfl))
theorem e_addPerson {N n : Nat} {σ : St} (a1 a2 a3 a4 a5 : Int32) (h1 : σ.1 52 0 0 0 = nI n) (en : (nI n).toInt = (n : Int)) (cn : (nI n).toNatClampNeg = n) (hn : n < 20) : fLand_addPerson N a1 a2 a3 a4 a5 σ = some (nI n, sI (sI (sI (sI (sI (sI σ 47 0 0 n a1) 48 0 0 n a2) 49 0 0 n a3) 50 0 0 n a4) 51 0 0 n a5) 52 0 0 0 (nI (n + 1))) := by
  unfold fLand_addPerson
  simp only [sI_1, sI_2, sJ_1, sJ_2, sA_1, sA_2, fa_lt, fa_le, fa_eq, nI_1, nI_sub1, nmx, bnd_e, bn1_e, btW_n, btW_s, btR_n, btR_s, btO_n, btO_s, outside_e, reqE_e, reqP_e, btO_i, btR_i, mIsPerson_e, mFail_e, chk, inb, Int32.reduceToInt, Nat.reduceEqDiff, ite_01, ite_10, eq_self, true_and, and_true, false_and, and_self, reduceIte, not_false_eq_true, not_true_eq_false, or_true, true_or, or_false, false_or, and_false, Int.reduceEq, Int.reduceLT, Int.reduceLE, Nat.reduceLT, Nat.reduceLeDiff, Nat.reduceAdd, Nat.reduceMul, mrg1, mrg2, mrg3, mrg4, h1, en, cn]
  ((repeat (first | rw [if_pos (by omega)] | rw [if_neg (by omega)])) <;> (try rfl))
theorem e_person {N : Nat} {σ μ : St} (hE : Eq1 σ μ) (hR : Rng μ) (a1 a2 a3 a4 a5 : Int32) :
    (fX_person N a1 a2 a3 a4 a5 σ = some (-1, σ) ∧ fM_person N a1 a2 a3 a4 a5 μ = some (-1, sI μ 204 0 0 0 0)) ∨
    (∃ n o : Nat, n < 20 ∧ μ.1 208 0 0 0 = nI n ∧ μ.1 207 0 0 0 = nI o ∧ o ≤ 8 ∧ (0 ≤ a1.toInt ∧ a1.toInt ≤ 7 ∧ 14 ≤ a2.toInt ∧ a2.toInt ≤ 90 ∧ 0 ≤ a3.toInt ∧ a3.toInt < o ∧ 1 ≤ a4.toInt ∧ a4.toInt ≤ 999 ∧ 0 ≤ a5.toInt ∧ a5.toInt ≤ 99) ∧
      fX_person N a1 a2 a3 a4 a5 σ = some (nI n, sI (sI (sI (sI (sI (sI σ 47 0 0 n a1) 48 0 0 n a2) 49 0 0 n a3) 50 0 0 n a4) 51 0 0 n a5) 52 0 0 0 (nI (n + 1))) ∧
      fM_person N a1 a2 a3 a4 a5 μ = some (nI n, sI (sI (sI (sI (sI (sI (sI (sI μ 204 0 0 0 0) 211 0 0 n a1) 212 0 0 n a2) 213 0 0 n a3) 214 0 0 n a4) 215 0 0 n a5) 208 0 0 0 (nI (n + 1))) 273 0 0 0 0)) := by
  obtain ⟨n, h2, en, cn, -, hn⟩ := hR.n (g := 208) (lo := 0) (hi := 20) 0 (by decide) (by decide)
  obtain ⟨o, h4, eo, co, -, ho⟩ := hR.n (g := 207) (lo := 0) (hi := 8) 0 (by decide) (by decide)
  have h1 : σ.1 52 0 0 0 = nI n := (hE (52, 208) (by decide) 0).trans h2
  have h3 : σ.1 46 0 0 0 = nI o := (hE (46, 207) (by decide) 0).trans h4
  have eo1 : (nI o - 1).toInt = (o : Int) - 1 := nI_m1 (by omega)
  have m : ∀ s0 : Int32, fM_person_70 N a1 a2 a3 a4 a5 s0 (sI μ 204 0 0 0 0) = if n = 20 ∨ s0.toInt = 0 then some (-1, sI μ 204 0 0 0 0) else some (nI n, sI (sI (sI (sI (sI (sI (sI (sI μ 204 0 0 0 0) 211 0 0 n a1) 212 0 0 n a2) 213 0 0 n a3) 214 0 0 n a4) 215 0 0 n a5) 208 0 0 0 (nI (n + 1))) 273 0 0 0 0) := by
    intro s0
    unfold fM_person_70
    simp only [sI_1, sI_2, sJ_1, sJ_2, sA_1, sA_2, fa_lt, fa_le, fa_eq, nI_1, nI_sub1, nmx, bnd_e, bn1_e, btW_n, btW_s, btR_n, btR_s, btO_n, btO_s, outside_e, reqE_e, reqP_e, btO_i, btR_i, mIsPerson_e, mFail_e, chk, inb, Int32.reduceToInt, Nat.reduceEqDiff, ite_01, ite_10, eq_self, true_and, and_true, false_and, and_self, reduceIte, not_false_eq_true, not_true_eq_false, or_true, true_or, or_false, false_or, and_false, Int.reduceEq, Int.reduceLT, Int.reduceLE, Nat.reduceLT, Nat.reduceLeDiff, Nat.reduceAdd, Nat.reduceMul, mrg1, mrg2, mrg3, mrg4, h2, en, cn]
    by_cases hc : n = 20 ∨ s0.toInt = 0
    · ((repeat (first | rw [if_pos (by omega)] | rw [if_neg (by omega)])) <;> (try rfl))
    · ((repeat (first | rw [if_pos (by omega)] | rw [if_neg (by omega)])) <;> (try rfl))
  by_cases h : n < 20 ∧ (0 ≤ a1.toInt ∧ a1.toInt ≤ 7 ∧ 14 ≤ a2.toInt ∧ a2.toInt ≤ 90 ∧ 0 ≤ a3.toInt ∧ a3.toInt < o ∧ 1 ≤ a4.toInt ∧ a4.toInt ≤ 999 ∧ 0 ≤ a5.toInt ∧ a5.toInt ≤ 99)
  · refine Or.inr ⟨n, o, h.1, h2, h4, by omega, h.2, ?_, ?_⟩
    · unfold fX_person
      simp only [sI_1, sI_2, sJ_1, sJ_2, sA_1, sA_2, fa_lt, fa_le, fa_eq, nI_1, nI_sub1, nmx, bnd_e, bn1_e, btW_n, btW_s, btR_n, btR_s, btO_n, btO_s, outside_e, reqE_e, reqP_e, btO_i, btR_i, mIsPerson_e, mFail_e, chk, inb, Int32.reduceToInt, Nat.reduceEqDiff, ite_01, ite_10, eq_self, true_and, and_true, false_and, and_self, reduceIte, not_false_eq_true, not_true_eq_false, or_true, true_or, or_false, false_or, and_false, Int.reduceEq, Int.reduceLT, Int.reduceLE, Nat.reduceLT, Nat.reduceLeDiff, Nat.reduceAdd, Nat.reduceMul, mrg1, mrg2, mrg3, mrg4, h1, h3, eo1, en, e_addPerson (N := N) a1 a2 a3 a4 a5 h1 en cn h.1]
      ((repeat (first | rw [if_pos (by omega)] | rw [if_neg (by omega)])) <;> (try rfl))
    · unfold fM_person
      simp only [sI_1, sI_2, sJ_1, sJ_2, sA_1, sA_2, fa_lt, fa_le, fa_eq, nI_1, nI_sub1, nmx, bnd_e, bn1_e, btW_n, btW_s, btR_n, btR_s, btO_n, btO_s, outside_e, reqE_e, reqP_e, btO_i, btR_i, mIsPerson_e, mFail_e, chk, inb, Int32.reduceToInt, Nat.reduceEqDiff, ite_01, ite_10, eq_self, true_and, and_true, false_and, and_self, reduceIte, not_false_eq_true, not_true_eq_false, or_true, true_or, or_false, false_or, and_false, Int.reduceEq, Int.reduceLT, Int.reduceLE, Nat.reduceLT, Nat.reduceLeDiff, Nat.reduceAdd, Nat.reduceMul, mrg1, mrg2, mrg3, mrg4, h2, h4, eo, en, fM_person_69, m]
      ((repeat (first | rw [if_pos (by omega)] | rw [if_neg (by omega)])) <;> (try rfl))
  · refine Or.inl ⟨?_, ?_⟩
    · unfold fX_person
      simp only [sI_1, sI_2, sJ_1, sJ_2, sA_1, sA_2, fa_lt, fa_le, fa_eq, nI_1, nI_sub1, nmx, bnd_e, bn1_e, btW_n, btW_s, btR_n, btR_s, btO_n, btO_s, outside_e, reqE_e, reqP_e, btO_i, btR_i, mIsPerson_e, mFail_e, chk, inb, Int32.reduceToInt, Nat.reduceEqDiff, ite_01, ite_10, eq_self, true_and, and_true, false_and, and_self, reduceIte, not_false_eq_true, not_true_eq_false, or_true, true_or, or_false, false_or, and_false, Int.reduceEq, Int.reduceLT, Int.reduceLE, Nat.reduceLT, Nat.reduceLeDiff, Nat.reduceAdd, Nat.reduceMul, mrg1, mrg2, mrg3, mrg4, h1, h3, eo1, en]
      ((repeat (first | rw [if_pos (by omega)] | rw [if_neg (by omega)])) <;> (try rfl))
    · unfold fM_person
      simp only [sI_1, sI_2, sJ_1, sJ_2, sA_1, sA_2, fa_lt, fa_le, fa_eq, nI_1, nI_sub1, nmx, bnd_e, bn1_e, btW_n, btW_s, btR_n, btR_s, btO_n, btO_s, outside_e, reqE_e, reqP_e, btO_i, btR_i, mIsPerson_e, mFail_e, chk, inb, Int32.reduceToInt, Nat.reduceEqDiff, ite_01, ite_10, eq_self, true_and, and_true, false_and, and_self, reduceIte, not_false_eq_true, not_true_eq_false, or_true, true_or, or_false, false_or, and_false, Int.reduceEq, Int.reduceLT, Int.reduceLE, Nat.reduceLT, Nat.reduceLeDiff, Nat.reduceAdd, Nat.reduceMul, mrg1, mrg2, mrg3, mrg4, h2, h4, eo, en, fM_person_69, m]
      ((repeat (first | rw [if_pos (by omega)] | rw [if_neg (by omega)])) <;> (try rfl))
theorem e_fault {N : Nat} {σ μ : St} (hE : σ.1 112 0 0 0 = μ.1 257 0 0 0) : ∃ r, fX_fault N σ = some r ∧ fM_fault N μ = some (r, sI μ 204 0 0 0 0) := by
  refine ⟨μ.1 257 0 0 0, ?_, ?_⟩
  · unfold fX_fault
    rw [hE]
  · unfold fM_fault
    simp only [sI_1, sI_2, sJ_1, sJ_2, sA_1, sA_2, fa_lt, fa_le, fa_eq, nI_1, nI_sub1, nmx, bnd_e, bn1_e, btW_n, btW_s, btR_n, btR_s, btO_n, btO_s, outside_e, reqE_e, reqP_e, btO_i, btR_i, mIsPerson_e, mFail_e, chk, inb, Int32.reduceToInt, Nat.reduceEqDiff, ite_01, ite_10, eq_self, true_and, and_true, false_and, and_self, reduceIte, not_false_eq_true, not_true_eq_false, or_true, true_or, or_false, false_or, and_false, Int.reduceEq, Int.reduceLT, Int.reduceLE, Nat.reduceLT, Nat.reduceLeDiff, Nat.reduceAdd, Nat.reduceMul, mrg1, mrg2, mrg3, mrg4]
theorem e_judge {N : Nat} {σ μ : St} (hE : Eq1 σ μ) (hR : Rng μ) (a1 a2 : Int32) :
    (fX_judge N a1 a2 σ = some (-1, σ) ∧ fM_judge N a1 a2 μ = some (-1, sI μ 204 0 0 0 0)) ∨
    (∃ n : Nat, n < 18 ∧ μ.1 337 0 0 0 = nI n ∧ (0 ≤ a1.toInt ∧ a1.toInt ≤ 2 ∧ 0 ≤ a2.toInt ∧ a2.toInt ≤ 99) ∧
      fX_judge N a1 a2 σ = some (nI n, sI (sI (sI σ 27 0 0 n a1) 28 0 0 n a2) 29 0 0 0 (nI (n + 1))) ∧
      fM_judge N a1 a2 μ = some (nI n, sI (sI (sI (sI μ 204 0 0 0 0) 339 0 0 n a1) 340 0 0 n a2) 337 0 0 0 (nI (n + 1)))) := by
  obtain ⟨n, h2, en, cn, -, hn⟩ := hR.n (g := 337) (lo := 0) (hi := 18) 0 (by decide) (by decide)
  have h1 : σ.1 29 0 0 0 = nI n := (hE (29, 337) (by decide) 0).trans h2
  by_cases h : n < 18 ∧ 0 ≤ a1.toInt ∧ a1.toInt ≤ 2 ∧ 0 ≤ a2.toInt ∧ a2.toInt ≤ 99
  · refine Or.inr ⟨n, h.1, h2, h.2, ?_, ?_⟩
    · unfold fX_judge fCourts_addJudge
      simp only [sI_1, sI_2, sJ_1, sJ_2, sA_1, sA_2, fa_lt, fa_le, fa_eq, nI_1, nI_sub1, nmx, bnd_e, bn1_e, btW_n, btW_s, btR_n, btR_s, btO_n, btO_s, outside_e, reqE_e, reqP_e, btO_i, btR_i, mIsPerson_e, mFail_e, chk, inb, Int32.reduceToInt, Nat.reduceEqDiff, ite_01, ite_10, eq_self, true_and, and_true, false_and, and_self, reduceIte, not_false_eq_true, not_true_eq_false, or_true, true_or, or_false, false_or, and_false, Int.reduceEq, Int.reduceLT, Int.reduceLE, Nat.reduceLT, Nat.reduceLeDiff, Nat.reduceAdd, Nat.reduceMul, mrg1, mrg2, mrg3, mrg4, h1, en, cn]
      ((repeat (first | rw [if_pos (by omega)] | rw [if_neg (by omega)])) <;> (try rfl))
    · unfold fM_judge
      simp only [sI_1, sI_2, sJ_1, sJ_2, sA_1, sA_2, fa_lt, fa_le, fa_eq, nI_1, nI_sub1, nmx, bnd_e, bn1_e, btW_n, btW_s, btR_n, btR_s, btO_n, btO_s, outside_e, reqE_e, reqP_e, btO_i, btR_i, mIsPerson_e, mFail_e, chk, inb, Int32.reduceToInt, Nat.reduceEqDiff, ite_01, ite_10, eq_self, true_and, and_true, false_and, and_self, reduceIte, not_false_eq_true, not_true_eq_false, or_true, true_or, or_false, false_or, and_false, Int.reduceEq, Int.reduceLT, Int.reduceLE, Nat.reduceLT, Nat.reduceLeDiff, Nat.reduceAdd, Nat.reduceMul, mrg1, mrg2, mrg3, mrg4, h2, en, cn]
      ((repeat (first | rw [if_pos (by omega)] | rw [if_neg (by omega)])) <;> (try rfl))
  · refine Or.inl ⟨?_, ?_⟩
    · unfold fX_judge fCourts_addJudge
      simp only [sI_1, sI_2, sJ_1, sJ_2, sA_1, sA_2, fa_lt, fa_le, fa_eq, nI_1, nI_sub1, nmx, bnd_e, bn1_e, btW_n, btW_s, btR_n, btR_s, btO_n, btO_s, outside_e, reqE_e, reqP_e, btO_i, btR_i, mIsPerson_e, mFail_e, chk, inb, Int32.reduceToInt, Nat.reduceEqDiff, ite_01, ite_10, eq_self, true_and, and_true, false_and, and_self, reduceIte, not_false_eq_true, not_true_eq_false, or_true, true_or, or_false, false_or, and_false, Int.reduceEq, Int.reduceLT, Int.reduceLE, Nat.reduceLT, Nat.reduceLeDiff, Nat.reduceAdd, Nat.reduceMul, mrg1, mrg2, mrg3, mrg4, h1, en, cn]
      ((repeat (first | rw [if_pos (by omega)] | rw [if_neg (by omega)])) <;> (try rfl))
    · unfold fM_judge
      simp only [sI_1, sI_2, sJ_1, sJ_2, sA_1, sA_2, fa_lt, fa_le, fa_eq, nI_1, nI_sub1, nmx, bnd_e, bn1_e, btW_n, btW_s, btR_n, btR_s, btO_n, btO_s, outside_e, reqE_e, reqP_e, btO_i, btR_i, mIsPerson_e, mFail_e, chk, inb, Int32.reduceToInt, Nat.reduceEqDiff, ite_01, ite_10, eq_self, true_and, and_true, false_and, and_self, reduceIte, not_false_eq_true, not_true_eq_false, or_true, true_or, or_false, false_or, and_false, Int.reduceEq, Int.reduceLT, Int.reduceLE, Nat.reduceLT, Nat.reduceLeDiff, Nat.reduceAdd, Nat.reduceMul, mrg1, mrg2, mrg3, mrg4, h2, en, cn]
      ((repeat (first | rw [if_pos (by omega)] | rw [if_neg (by omega)])) <;> (try rfl))
theorem e_addReturn {N n : Nat} {σ : St} (a1 a2 a3 a4 : Int32) (h1 : σ.1 26 0 0 0 = nI n) (en : (nI n).toInt = (n : Int)) (cn : (nI n).toNatClampNeg = n) (hn : n < 100) : fBooks_addReturn N a1 a2 a3 a4 σ = some (sI (sI (sI (sI (sI σ 22 0 0 n a1) 23 0 0 n a2) 24 0 0 n a3) 25 0 0 n a4) 26 0 0 0 (nI (n + 1))) := by
  unfold fBooks_addReturn
  simp only [sI_1, sI_2, sJ_1, sJ_2, sA_1, sA_2, fa_lt, fa_le, fa_eq, nI_1, nI_sub1, nmx, bnd_e, bn1_e, btW_n, btW_s, btR_n, btR_s, btO_n, btO_s, outside_e, reqE_e, reqP_e, btO_i, btR_i, mIsPerson_e, mFail_e, chk, inb, Int32.reduceToInt, Nat.reduceEqDiff, ite_01, ite_10, eq_self, true_and, and_true, false_and, and_self, reduceIte, not_false_eq_true, not_true_eq_false, or_true, true_or, or_false, false_or, and_false, Int.reduceEq, Int.reduceLT, Int.reduceLE, Nat.reduceLT, Nat.reduceLeDiff, Nat.reduceAdd, Nat.reduceMul, mrg1, mrg2, mrg3, mrg4, h1, en, cn]
  ((repeat (first | rw [if_pos (by omega)] | rw [if_neg (by omega)])) <;> (try rfl))
theorem e_note {N j : Nat} {σ : St} (ej : (nI j).toInt = (j : Int)) (cj : (nI j).toNatClampNeg = j) (hj : j < 20) : fLand_noteChange N (nI j) σ = some (sI σ 53 0 0 j (σ.1 53 0 0 j + 1)) := by
  unfold fLand_noteChange
  simp only [sI_1, sI_2, sJ_1, sJ_2, sA_1, sA_2, fa_lt, fa_le, fa_eq, nI_1, nI_sub1, nmx, bnd_e, bn1_e, btW_n, btW_s, btR_n, btR_s, btO_n, btO_s, outside_e, reqE_e, reqP_e, btO_i, btR_i, mIsPerson_e, mFail_e, chk, inb, Int32.reduceToInt, Nat.reduceEqDiff, ite_01, ite_10, eq_self, true_and, and_true, false_and, and_self, reduceIte, not_false_eq_true, not_true_eq_false, or_true, true_or, or_false, false_or, and_false, Int.reduceEq, Int.reduceLT, Int.reduceLE, Nat.reduceLT, Nat.reduceLeDiff, Nat.reduceAdd, Nat.reduceMul, mrg1, mrg2, mrg3, mrg4, ej, cj]
  ((repeat (first | rw [if_pos (by omega)] | rw [if_neg (by omega)])) <;> (try rfl))
theorem e_returns {N : Nat} {σ μ : St} (hE : Eq1 σ μ) (hR : Rng μ) (a1 a2 a3 : Int32) :
    (fX_returns N a1 a2 a3 σ = some (none, σ) ∧ fM_returns N a1 a2 a3 μ = some (0, sI (sI μ 204 0 0 0 0) 204 0 0 0 1)) ∨
    (fX_returns N a1 a2 a3 σ = some (some 0, σ) ∧ fM_returns N a1 a2 a3 μ = some (0, sI μ 204 0 0 0 0)) ∨
    (∃ n p j : Nat, n < 100 ∧ μ.1 217 0 0 0 = nI n ∧ μ.1 208 0 0 0 = nI p ∧ p ≤ 20 ∧ a1 = nI j ∧ j < p ∧ (0 ≤ a2.toInt ∧ a2.toInt ≤ 155 ∧ -1 ≤ a3.toInt ∧ a3.toInt ≤ 6) ∧
      fX_returns N a1 a2 a3 σ = some (some 1, sI (sI (sI (sI (sI (sI σ 22 0 0 n (nI j)) 23 0 0 n a2) 24 0 0 n a3) 25 0 0 n (μ.1 205 0 0 0)) 26 0 0 0 (nI (n + 1))) 53 0 0 j (σ.1 53 0 0 j + 1)) ∧
      fM_returns N a1 a2 a3 μ = some (1, sI (sI (sI (sI (sI (sI (sI μ 204 0 0 0 0) 225 0 0 n (nI j)) 226 0 0 n a2) 227 0 0 n a3) 228 0 0 n (μ.1 205 0 0 0)) 217 0 0 0 (nI (n + 1))) 273 0 0 0 0)) := by
  obtain ⟨n, h2, en, cn, -, hn⟩ := hR.n (g := 217) (lo := 0) (hi := 100) 0 (by decide) (by decide)
  obtain ⟨p, h4, ep, cp, -, hp⟩ := hR.n (g := 208) (lo := 0) (hi := 20) 0 (by decide) (by decide)
  have h1 : σ.1 26 0 0 0 = nI n := (hE (26, 217) (by decide) 0).trans h2
  have h3 : σ.1 52 0 0 0 = nI p := (hE (52, 208) (by decide) 0).trans h4
  have h5 : σ.1 162 0 0 0 = μ.1 205 0 0 0 := hE (162, 205) (by decide) 0
  by_cases g : 0 ≤ a1.toInt ∧ a1.toInt < p
  · obtain ⟨j, rfl, ej, cj⟩ := argN g.1
    rw [ej] at g
    by_cases h : n < 100 ∧ 0 ≤ a2.toInt ∧ a2.toInt ≤ 155 ∧ -1 ≤ a3.toInt ∧ a3.toInt ≤ 6
    · refine Or.inr (Or.inr ⟨n, p, j, h.1, h2, h4, by omega, rfl, by omega, h.2, ?_, ?_⟩)
      · unfold fX_returns
        simp only [sI_1, sI_2, sJ_1, sJ_2, sA_1, sA_2, fa_lt, fa_le, fa_eq, nI_1, nI_sub1, nmx, bnd_e, bn1_e, btW_n, btW_s, btR_n, btR_s, btO_n, btO_s, outside_e, reqE_e, reqP_e, btO_i, btR_i, mIsPerson_e, mFail_e, chk, inb, Int32.reduceToInt, Nat.reduceEqDiff, ite_01, ite_10, eq_self, true_and, and_true, false_and, and_self, reduceIte, not_false_eq_true, not_true_eq_false, or_true, true_or, or_false, false_or, and_false, Int.reduceEq, Int.reduceLT, Int.reduceLE, Nat.reduceLT, Nat.reduceLeDiff, Nat.reduceAdd, Nat.reduceMul, mrg1, mrg2, mrg3, mrg4, h1, h3, en, ep, ej, h5, e_addReturn (N := N) (nI j) a2 a3 (μ.1 205 0 0 0) h1 en cn h.1, e_note (N := N) ej cj (show j < 20 by omega)]
        ((repeat (first | rw [if_pos (by omega)] | rw [if_neg (by omega)])) <;> (try rfl))
      · unfold fM_returns
        simp only [sI_1, sI_2, sJ_1, sJ_2, sA_1, sA_2, fa_lt, fa_le, fa_eq, nI_1, nI_sub1, nmx, bnd_e, bn1_e, btW_n, btW_s, btR_n, btR_s, btO_n, btO_s, outside_e, reqE_e, reqP_e, btO_i, btR_i, mIsPerson_e, mFail_e, chk, inb, Int32.reduceToInt, Nat.reduceEqDiff, ite_01, ite_10, eq_self, true_and, and_true, false_and, and_self, reduceIte, not_false_eq_true, not_true_eq_false, or_true, true_or, or_false, false_or, and_false, Int.reduceEq, Int.reduceLT, Int.reduceLE, Nat.reduceLT, Nat.reduceLeDiff, Nat.reduceAdd, Nat.reduceMul, mrg1, mrg2, mrg3, mrg4, h2, h4, en, ep, ej, cn]
        ((repeat (first | rw [if_pos (by omega)] | rw [if_neg (by omega)])) <;> (try rfl))
    · refine Or.inr (Or.inl ⟨?_, ?_⟩)
      · unfold fX_returns
        simp only [sI_1, sI_2, sJ_1, sJ_2, sA_1, sA_2, fa_lt, fa_le, fa_eq, nI_1, nI_sub1, nmx, bnd_e, bn1_e, btW_n, btW_s, btR_n, btR_s, btO_n, btO_s, outside_e, reqE_e, reqP_e, btO_i, btR_i, mIsPerson_e, mFail_e, chk, inb, Int32.reduceToInt, Nat.reduceEqDiff, ite_01, ite_10, eq_self, true_and, and_true, false_and, and_self, reduceIte, not_false_eq_true, not_true_eq_false, or_true, true_or, or_false, false_or, and_false, Int.reduceEq, Int.reduceLT, Int.reduceLE, Nat.reduceLT, Nat.reduceLeDiff, Nat.reduceAdd, Nat.reduceMul, mrg1, mrg2, mrg3, mrg4, h1, h3, en, ep, ej, h5]
        ((repeat (first | rw [if_pos (by omega)] | rw [if_neg (by omega)])) <;> (try rfl))
      · unfold fM_returns
        simp only [sI_1, sI_2, sJ_1, sJ_2, sA_1, sA_2, fa_lt, fa_le, fa_eq, nI_1, nI_sub1, nmx, bnd_e, bn1_e, btW_n, btW_s, btR_n, btR_s, btO_n, btO_s, outside_e, reqE_e, reqP_e, btO_i, btR_i, mIsPerson_e, mFail_e, chk, inb, Int32.reduceToInt, Nat.reduceEqDiff, ite_01, ite_10, eq_self, true_and, and_true, false_and, and_self, reduceIte, not_false_eq_true, not_true_eq_false, or_true, true_or, or_false, false_or, and_false, Int.reduceEq, Int.reduceLT, Int.reduceLE, Nat.reduceLT, Nat.reduceLeDiff, Nat.reduceAdd, Nat.reduceMul, mrg1, mrg2, mrg3, mrg4, h2, h4, en, ep, ej, cn]
        ((repeat (first | rw [if_pos (by omega)] | rw [if_neg (by omega)])) <;> (try rfl))
  · refine Or.inl ⟨?_, ?_⟩
    · unfold fX_returns
      simp only [sI_1, sI_2, sJ_1, sJ_2, sA_1, sA_2, fa_lt, fa_le, fa_eq, nI_1, nI_sub1, nmx, bnd_e, bn1_e, btW_n, btW_s, btR_n, btR_s, btO_n, btO_s, outside_e, reqE_e, reqP_e, btO_i, btR_i, mIsPerson_e, mFail_e, chk, inb, Int32.reduceToInt, Nat.reduceEqDiff, ite_01, ite_10, eq_self, true_and, and_true, false_and, and_self, reduceIte, not_false_eq_true, not_true_eq_false, or_true, true_or, or_false, false_or, and_false, Int.reduceEq, Int.reduceLT, Int.reduceLE, Nat.reduceLT, Nat.reduceLeDiff, Nat.reduceAdd, Nat.reduceMul, mrg1, mrg2, mrg3, mrg4, h1, h3, en, ep, h5]
      ((repeat (first | rw [if_pos (by omega)] | rw [if_neg (by omega)])) <;> (try rfl))
    · unfold fM_returns
      simp only [sI_1, sI_2, sJ_1, sJ_2, sA_1, sA_2, fa_lt, fa_le, fa_eq, nI_1, nI_sub1, nmx, bnd_e, bn1_e, btW_n, btW_s, btR_n, btR_s, btO_n, btO_s, outside_e, reqE_e, reqP_e, btO_i, btR_i, mIsPerson_e, mFail_e, chk, inb, Int32.reduceToInt, Nat.reduceEqDiff, ite_01, ite_10, eq_self, true_and, and_true, false_and, and_self, reduceIte, not_false_eq_true, not_true_eq_false, or_true, true_or, or_false, false_or, and_false, Int.reduceEq, Int.reduceLT, Int.reduceLE, Nat.reduceLT, Nat.reduceLeDiff, Nat.reduceAdd, Nat.reduceMul, mrg1, mrg2, mrg3, mrg4, h2, h4, en, ep, cn]
      ((repeat (first | rw [if_pos (by omega)] | rw [if_neg (by omega)])) <;> (try rfl))
