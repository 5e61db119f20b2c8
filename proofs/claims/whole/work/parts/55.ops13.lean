theorem e_told {N : Nat} {σ μ : St} (hE : Eq1 σ μ) (hR : Rng μ) (a1 a2 : Int32) (h6 : a2 ≠ 6 ∨ ¬ (0 ≤ a1.toInt ∧ a1.toInt < (μ.1 218 0 0 0).toInt)) :
    ∃ q b μ', fX_told N a1 a2 σ = some (q, σ) ∧ fM_told N a1 a2 μ = some (b, μ') ∧ AnsR q b μ μ' := by
  obtain ⟨m, h2, em, cm, -, hm⟩ := hR.n (g := 218) (lo := 0) (hi := 160) 0 (by decide) (by decide)
  have h1 : σ.1 43 0 0 0 = nI m := (hE (43, 218) (by decide) 0).trans h2
  rw [h2, em] at h6
  by_cases g : 0 ≤ a1.toInt ∧ a1.toInt < m
  · have h6q : a2 ≠ 6 := h6.resolve_right (fun z => z g)
    obtain ⟨j, rfl, ej, cj⟩ := argN g.1
    rw [ej] at g
    have hj : j < 160 := by omega
    have k0 : σ.1 37 0 0 j = μ.1 229 0 0 j := hE (37, 229) (by decide) j
    have k1 : σ.1 38 0 0 j = μ.1 230 0 0 j := hE (38, 230) (by decide) j
    have k2 : σ.1 39 0 0 j = μ.1 231 0 0 j := hE (39, 231) (by decide) j
    have k3 : σ.1 40 0 0 j = μ.1 232 0 0 j := hE (40, 232) (by decide) j
    have k4 : σ.1 41 0 0 j = μ.1 233 0 0 j := hE (41, 233) (by decide) j
    have k5 : σ.1 42 0 0 j = μ.1 234 0 0 j := hE (42, 234) (by decide) j
    have lt : nI j < nI m := nI_lt (by omega) (by omega)
    have ge : ¬ nI j < 0 := nI_pos (by omega)
    unfold fX_told fM_told
    rw [reqE_e, btR_i, h1, if_neg (fun z => z.elim ge (Int32.not_le.mpr lt)), nmx, sI_o (by decide), h2, if_neg ge, if_pos lt]
    simp only [cj, chk_t (inb_n hj (by decide)), k0, k1, k2, k3, k4, k5, sI_o (show 229 ≠ 204 by decide), sI_o (show 230 ≠ 204 by decide), sI_o (show 231 ≠ 204 by decide), sI_o (show 232 ≠ 204 by decide), sI_o (show 233 ≠ 204 by decide), sI_o (show 234 ≠ 204 by decide), mFail_e, bnd_e]
    by_cases z0 : a2 = 0
    · rw [if_pos z0, if_pos z0]; exact ⟨_, _, _, rfl, rfl, AnsR.s⟩
    rw [if_neg z0, if_neg z0]
    by_cases z1 : a2 = 1
    · rw [if_pos z1, if_pos z1]; exact ⟨_, _, _, rfl, rfl, AnsR.s⟩
    rw [if_neg z1, if_neg z1]
    by_cases z2 : a2 = 2
    · rw [if_pos z2, if_pos z2]; exact ⟨_, _, _, rfl, rfl, AnsR.s⟩
    rw [if_neg z2, if_neg z2]
    by_cases z3 : a2 = 3
    · rw [if_pos z3, if_pos z3]; exact ⟨_, _, _, rfl, rfl, AnsR.s⟩
    rw [if_neg z3, if_neg z3]
    by_cases z4 : a2 = 4
    · rw [if_pos z4, if_pos z4]; exact ⟨_, _, _, rfl, rfl, AnsR.s⟩
    rw [if_neg z4, if_neg z4]
    by_cases z5 : a2 = 5
    · rw [if_pos z5, if_pos z5]; exact ⟨_, _, _, rfl, rfl, AnsR.s⟩
    rw [if_neg z5, if_neg z5]
    rw [if_neg h6q, if_neg h6q]
    exact ⟨_, _, _, rfl, rfl, AnsR.n⟩
  · refine ⟨none, 0, _, ?_, ?_, AnsR.n⟩
    · unfold fX_told
      simp only [sI_1, sI_2, sJ_1, sJ_2, sA_1, sA_2, fa_lt, fa_le, fa_eq, nI_1, nI_sub1, nmx, bnd_e, bn1_e, btW_n, btW_s, btR_n, btR_s, btO_n, btO_s, outside_e, reqE_e, reqP_e, btO_i, btR_i, mIsPerson_e, mFail_e, chk, inb, Int32.reduceToInt, Nat.reduceEqDiff, ite_01, ite_10, eq_self, true_and, and_true, false_and, and_self, reduceIte, not_false_eq_true, not_true_eq_false, or_true, true_or, or_false, false_or, and_false, Int.reduceEq, Int.reduceLT, Int.reduceLE, Nat.reduceLT, Nat.reduceLeDiff, Nat.reduceAdd, Nat.reduceMul, mrg1, mrg2, mrg3, mrg4, h1, em]
      ((repeat (first | rw [if_pos (by omega)] | rw [if_neg (by omega)])) <;> (try rfl))
    · unfold fM_told fM_told_17
      simp only [sI_1, sI_2, sJ_1, sJ_2, sA_1, sA_2, fa_lt, fa_le, fa_eq, nI_1, nI_sub1, nmx, bnd_e, bn1_e, btW_n, btW_s, btR_n, btR_s, btO_n, btO_s, outside_e, reqE_e, reqP_e, btO_i, btR_i, mIsPerson_e, mFail_e, chk, inb, Int32.reduceToInt, Nat.reduceEqDiff, ite_01, ite_10, eq_self, true_and, and_true, false_and, and_self, reduceIte, not_false_eq_true, not_true_eq_false, or_true, true_or, or_false, false_or, and_false, Int.reduceEq, Int.reduceLT, Int.reduceLE, Nat.reduceLT, Nat.reduceLeDiff, Nat.reduceAdd, Nat.reduceMul, mrg1, mrg2, mrg3, mrg4, h2, em]
      ((repeat (first | rw [if_pos (by omega)] | rw [if_neg (by omega)])) <;> (try rfl))
theorem e_caseOf {N : Nat} {σ μ : St} (hE : Eq1 σ μ) (hR : Rng μ) (hB : ∀ c i : Nat, μ.1 338 0 0 0 = nI c → c ≤ 30 → i < 3 * c → σ.1 33 0 0 i = μ.1 344 0 0 i) (a1 a2 : Int32) (h6 : a2 ≠ 7 ∨ ¬ (0 ≤ a1.toInt ∧ a1.toInt < (μ.1 338 0 0 0).toInt)) :
    ∃ q b μ', fX_caseOf N a1 a2 σ = some (q, σ) ∧ fM_caseOf N a1 a2 μ = some (b, μ') ∧ AnsR q b μ μ' := by
  obtain ⟨m, h2, em, cm, -, hm⟩ := hR.n (g := 338) (lo := 0) (hi := 30) 0 (by decide) (by decide)
  have h1 : σ.1 36 0 0 0 = nI m := (hE (36, 338) (by decide) 0).trans h2
  rw [h2, em] at h6
  by_cases g : 0 ≤ a1.toInt ∧ a1.toInt < m
  · have h6q : a2 ≠ 7 := h6.resolve_right (fun z => z g)
    obtain ⟨j, rfl, ej, cj⟩ := argN g.1
    rw [ej] at g
    have hj : j < 30 := by omega
    have k0 : σ.1 31 0 0 j = μ.1 342 0 0 j := hE (31, 342) (by decide) j
    have k1 : σ.1 32 0 0 j = μ.1 343 0 0 j := hE (32, 343) (by decide) j
    have k5 : σ.1 34 0 0 j = μ.1 345 0 0 j := hE (34, 345) (by decide) j
    have k6 : σ.1 35 0 0 j = μ.1 346 0 0 j := hE (35, 346) (by decide) j
    have b0 := hB m (3 * j) h2 (by omega) (by omega)
    have b1 := hB m (3 * j + 1) h2 (by omega) (by omega)
    have b2 := hB m (3 * j + 2) h2 (by omega) (by omega)
    have lt : nI j < nI m := nI_lt (by omega) (by omega)
    have ge : ¬ nI j < 0 := nI_pos (by omega)
    have t2 : ∀ j, j < 30 → nI j * 3 + 2 - 2 = nI (3 * j) ∧ 3 * nI j + 2 - 2 = nI (3 * j) ∧ nI j * 3 + 3 - 2 = nI (3 * j + 1) ∧ 3 * nI j + 3 - 2 = nI (3 * j + 1) ∧ nI j * 3 + 4 - 2 = nI (3 * j + 2) ∧ 3 * nI j + 4 - 2 = nI (3 * j + 2) := by decide +kernel
    obtain ⟨u1, u2, u3, u4, u5, u6⟩ := t2 j hj
    unfold fX_caseOf fM_caseOf
    rw [reqE_e, btR_i, h1, if_neg (fun z => z.elim ge (Int32.not_le.mpr lt)), nmx, sI_o (by decide), h2, if_neg ge, if_pos lt]
    simp only [cj, chk_t (inb_n hj (by decide)), k0, k1, k5, k6, sI_o (show 342 ≠ 204 by decide), sI_o (show 343 ≠ 204 by decide), sI_o (show 344 ≠ 204 by decide), sI_o (show 345 ≠ 204 by decide), sI_o (show 346 ≠ 204 by decide), mFail_e, bnd_e]
    by_cases z0 : a2 = 0
    · rw [if_pos z0, if_pos z0]; exact ⟨_, _, _, rfl, rfl, AnsR.s⟩
    rw [if_neg z0, if_neg z0]
    by_cases z1 : a2 = 1
    · rw [if_pos z1, if_pos z1]; exact ⟨_, _, _, rfl, rfl, AnsR.s⟩
    rw [if_neg z1, if_neg z1]
    by_cases z2 : a2 = 2
    · rw [if_pos z2, if_pos z2, z2]
      simp only [u1, u2, chk_t (inb_n (show 3 * j < 90 by omega) (by decide)), nI_clamp (show 3 * j < 2 ^ 31 by omega), b0]
      exact ⟨_, _, _, rfl, rfl, AnsR.s⟩
    rw [if_neg z2, if_neg z2]
    by_cases z3 : a2 = 3
    · rw [if_pos z3, if_pos z3, z3]
      simp only [u3, u4, chk_t (inb_n (show 3 * j + 1 < 90 by omega) (by decide)), nI_clamp (show 3 * j + 1 < 2 ^ 31 by omega), b1]
      exact ⟨_, _, _, rfl, rfl, AnsR.s⟩
    rw [if_neg z3, if_neg z3]
    by_cases z4 : a2 = 4
    · rw [if_pos z4, if_pos z4, z4]
      simp only [u5, u6, chk_t (inb_n (show 3 * j + 2 < 90 by omega) (by decide)), nI_clamp (show 3 * j + 2 < 2 ^ 31 by omega), b2]
      exact ⟨_, _, _, rfl, rfl, AnsR.s⟩
    rw [if_neg z4, if_neg z4]
    by_cases z5 : a2 = 5
    · rw [if_pos z5, if_pos z5]; exact ⟨_, _, _, rfl, rfl, AnsR.s⟩
    rw [if_neg z5, if_neg z5]
    by_cases z6 : a2 = 6
    · rw [if_pos z6, if_pos z6]
      by_cases y : μ.1 346 0 0 j = 0
      · rw [if_pos y, if_pos y]; exact ⟨_, _, _, rfl, rfl, AnsR.s⟩
      · rw [if_neg y, if_neg y]; exact ⟨_, _, _, rfl, rfl, AnsR.s⟩
    rw [if_neg z6, if_neg z6, if_neg h6q, if_neg h6q]
    exact ⟨_, _, _, rfl, rfl, AnsR.n⟩
  · refine ⟨none, 0, _, ?_, ?_, AnsR.n⟩
    · unfold fX_caseOf
      simp only [sI_1, sI_2, sJ_1, sJ_2, sA_1, sA_2, fa_lt, fa_le, fa_eq, nI_1, nI_sub1, nmx, bnd_e, bn1_e, btW_n, btW_s, btR_n, btR_s, btO_n, btO_s, outside_e, reqE_e, reqP_e, btO_i, btR_i, mIsPerson_e, mFail_e, chk, inb, Int32.reduceToInt, Nat.reduceEqDiff, ite_01, ite_10, eq_self, true_and, and_true, false_and, and_self, reduceIte, not_false_eq_true, not_true_eq_false, or_true, true_or, or_false, false_or, and_false, Int.reduceEq, Int.reduceLT, Int.reduceLE, Nat.reduceLT, Nat.reduceLeDiff, Nat.reduceAdd, Nat.reduceMul, mrg1, mrg2, mrg3, mrg4, h1, em]
      ((repeat (first | rw [if_pos (by omega)] | rw [if_neg (by omega)])) <;> (try rfl))
    · unfold fM_caseOf fM_caseOf_17
      simp only [sI_1, sI_2, sJ_1, sJ_2, sA_1, sA_2, fa_lt, fa_le, fa_eq, nI_1, nI_sub1, nmx, bnd_e, bn1_e, btW_n, btW_s, btR_n, btR_s, btO_n, btO_s, outside_e, reqE_e, reqP_e, btO_i, btR_i, mIsPerson_e, mFail_e, chk, inb, Int32.reduceToInt, Nat.reduceEqDiff, ite_01, ite_10, eq_self, true_and, and_true, false_and, and_self, reduceIte, not_false_eq_true, not_true_eq_false, or_true, true_or, or_false, false_or, and_false, Int.reduceEq, Int.reduceLT, Int.reduceLE, Nat.reduceLT, Nat.reduceLeDiff, Nat.reduceAdd, Nat.reduceMul, mrg1, mrg2, mrg3, mrg4, h2, em]
      ((repeat (first | rw [if_pos (by omega)] | rw [if_neg (by omega)])) <;> (try rfl))
theorem e_paid {N : Nat} {σ μ : St} (hE : Eq1 σ μ) (hR : Rng μ) (h0 : ∀ p, p < 20 → σ.1 54 0 0 p = (μ.2 309 0 0 p).toInt32) (h3 : ∀ p, p < 20 → σ.1 55 0 0 p = (μ.2 310 0 0 p).toInt32) (a1 a2 : Int32) (h6 : a2 ≠ 2 ∨ ¬ (0 ≤ a1.toInt ∧ a1.toInt < (μ.1 208 0 0 0).toInt)) :
    ∃ q b μ', fX_paid N a1 a2 σ = some (q, σ) ∧ fM_paid N a1 a2 μ = some (b, μ') ∧ AnsR q b μ μ' := by
  obtain ⟨m, h2, em, cm, -, hm⟩ := hR.n (g := 208) (lo := 0) (hi := 20) 0 (by decide) (by decide)
  have h1 : σ.1 52 0 0 0 = nI m := (hE (52, 208) (by decide) 0).trans h2
  rw [h2, em] at h6
  by_cases g : 0 ≤ a1.toInt ∧ a1.toInt < m
  · have h6 : a2 ≠ 2 := h6.resolve_right (fun z => z g)
    have h6' : ¬ a2.toInt = 2 := fun z => h6 ((fa_eq _ _).mpr z)
    obtain ⟨j, rfl, ej, cj⟩ := argN g.1
    rw [ej] at g
    have hj : j < 20 := by omega
    have k0 := h0 j hj
    have k1 := h3 j hj
    by_cases z0 : a2.toInt = 0
    · refine ⟨_, _, _, ?_, ?_, AnsR.s (b := (μ.2 309 0 0 j).toInt32)⟩
      · unfold fX_paid
        simp only [sI_1, sI_2, sJ_1, sJ_2, sA_1, sA_2, fa_lt, fa_le, fa_eq, nI_1, nI_sub1, nmx, bnd_e, bn1_e, btW_n, btW_s, btR_n, btR_s, btO_n, btO_s, outside_e, reqE_e, reqP_e, btO_i, btR_i, mIsPerson_e, mFail_e, chk, inb, Int32.reduceToInt, Nat.reduceEqDiff, ite_01, ite_10, eq_self, true_and, and_true, false_and, and_self, reduceIte, not_false_eq_true, not_true_eq_false, or_true, true_or, or_false, false_or, and_false, Int.reduceEq, Int.reduceLT, Int.reduceLE, Nat.reduceLT, Nat.reduceLeDiff, Nat.reduceAdd, Nat.reduceMul, mrg1, mrg2, mrg3, mrg4, h1, em, ej, cj, k0]
        ((repeat (first | rw [if_pos (by omega)] | rw [if_neg (by omega)])) <;> (try rfl))
      · unfold fM_paid fM_paid_51 fM_toInt
        simp only [sI_1, sI_2, sJ_1, sJ_2, sA_1, sA_2, fa_lt, fa_le, fa_eq, nI_1, nI_sub1, nmx, bnd_e, bn1_e, btW_n, btW_s, btR_n, btR_s, btO_n, btO_s, outside_e, reqE_e, reqP_e, btO_i, btR_i, mIsPerson_e, mFail_e, chk, inb, Int32.reduceToInt, Nat.reduceEqDiff, ite_01, ite_10, eq_self, true_and, and_true, false_and, and_self, reduceIte, not_false_eq_true, not_true_eq_false, or_true, true_or, or_false, false_or, and_false, Int.reduceEq, Int.reduceLT, Int.reduceLE, Nat.reduceLT, Nat.reduceLeDiff, Nat.reduceAdd, Nat.reduceMul, mrg1, mrg2, mrg3, mrg4, h2, em, ej, cj]
        ((repeat (first | rw [if_pos (by omega)] | rw [if_neg (by omega)])) <;> (try rfl))
    · by_cases z1 : a2.toInt = 1
      · refine ⟨_, _, _, ?_, ?_, AnsR.s (b := (μ.2 310 0 0 j).toInt32)⟩
        · unfold fX_paid
          simp only [sI_1, sI_2, sJ_1, sJ_2, sA_1, sA_2, fa_lt, fa_le, fa_eq, nI_1, nI_sub1, nmx, bnd_e, bn1_e, btW_n, btW_s, btR_n, btR_s, btO_n, btO_s, outside_e, reqE_e, reqP_e, btO_i, btR_i, mIsPerson_e, mFail_e, chk, inb, Int32.reduceToInt, Nat.reduceEqDiff, ite_01, ite_10, eq_self, true_and, and_true, false_and, and_self, reduceIte, not_false_eq_true, not_true_eq_false, or_true, true_or, or_false, false_or, and_false, Int.reduceEq, Int.reduceLT, Int.reduceLE, Nat.reduceLT, Nat.reduceLeDiff, Nat.reduceAdd, Nat.reduceMul, mrg1, mrg2, mrg3, mrg4, h1, em, ej, cj, k1]
          ((repeat (first | rw [if_pos (by omega)] | rw [if_neg (by omega)])) <;> (try rfl))
        · unfold fM_paid fM_paid_51 fM_toInt
          simp only [sI_1, sI_2, sJ_1, sJ_2, sA_1, sA_2, fa_lt, fa_le, fa_eq, nI_1, nI_sub1, nmx, bnd_e, bn1_e, btW_n, btW_s, btR_n, btR_s, btO_n, btO_s, outside_e, reqE_e, reqP_e, btO_i, btR_i, mIsPerson_e, mFail_e, chk, inb, Int32.reduceToInt, Nat.reduceEqDiff, ite_01, ite_10, eq_self, true_and, and_true, false_and, and_self, reduceIte, not_false_eq_true, not_true_eq_false, or_true, true_or, or_false, false_or, and_false, Int.reduceEq, Int.reduceLT, Int.reduceLE, Nat.reduceLT, Nat.reduceLeDiff, Nat.reduceAdd, Nat.reduceMul, mrg1, mrg2, mrg3, mrg4, h2, em, ej, cj]
          ((repeat (first | rw [if_pos (by omega)] | rw [if_neg (by omega)])) <;> (try rfl))
      · refine ⟨none, 0, _, ?_, ?_, AnsR.n⟩
        · unfold fX_paid
          simp only [sI_1, sI_2, sJ_1, sJ_2, sA_1, sA_2, fa_lt, fa_le, fa_eq, nI_1, nI_sub1, nmx, bnd_e, bn1_e, btW_n, btW_s, btR_n, btR_s, btO_n, btO_s, outside_e, reqE_e, reqP_e, btO_i, btR_i, mIsPerson_e, mFail_e, chk, inb, Int32.reduceToInt, Nat.reduceEqDiff, ite_01, ite_10, eq_self, true_and, and_true, false_and, and_self, reduceIte, not_false_eq_true, not_true_eq_false, or_true, true_or, or_false, false_or, and_false, Int.reduceEq, Int.reduceLT, Int.reduceLE, Nat.reduceLT, Nat.reduceLeDiff, Nat.reduceAdd, Nat.reduceMul, mrg1, mrg2, mrg3, mrg4, h1, em, ej, cj]
          ((repeat (first | rw [if_pos (by omega)] | rw [if_neg (by omega)])) <;> (try rfl))
        · unfold fM_paid fM_paid_22
          simp only [sI_1, sI_2, sJ_1, sJ_2, sA_1, sA_2, fa_lt, fa_le, fa_eq, nI_1, nI_sub1, nmx, bnd_e, bn1_e, btW_n, btW_s, btR_n, btR_s, btO_n, btO_s, outside_e, reqE_e, reqP_e, btO_i, btR_i, mIsPerson_e, mFail_e, chk, inb, Int32.reduceToInt, Nat.reduceEqDiff, ite_01, ite_10, eq_self, true_and, and_true, false_and, and_self, reduceIte, not_false_eq_true, not_true_eq_false, or_true, true_or, or_false, false_or, and_false, Int.reduceEq, Int.reduceLT, Int.reduceLE, Nat.reduceLT, Nat.reduceLeDiff, Nat.reduceAdd, Nat.reduceMul, mrg1, mrg2, mrg3, mrg4, h2, em, ej, cj]
          ((repeat (first | rw [if_pos (by omega)] | rw [if_neg (by omega)])) <;> (try rfl))
  · refine ⟨none, 0, _, ?_, ?_, AnsR.n⟩
    · unfold fX_paid
      simp only [sI_1, sI_2, sJ_1, sJ_2, sA_1, sA_2, fa_lt, fa_le, fa_eq, nI_1, nI_sub1, nmx, bnd_e, bn1_e, btW_n, btW_s, btR_n, btR_s, btO_n, btO_s, outside_e, reqE_e, reqP_e, btO_i, btR_i, mIsPerson_e, mFail_e, chk, inb, Int32.reduceToInt, Nat.reduceEqDiff, ite_01, ite_10, eq_self, true_and, and_true, false_and, and_self, reduceIte, not_false_eq_true, not_true_eq_false, or_true, true_or, or_false, false_or, and_false, Int.reduceEq, Int.reduceLT, Int.reduceLE, Nat.reduceLT, Nat.reduceLeDiff, Nat.reduceAdd, Nat.reduceMul, mrg1, mrg2, mrg3, mrg4, h1, em]
      ((repeat (first | rw [if_pos (by omega)] | rw [if_neg (by omega)])) <;> (try rfl))
    · unfold fM_paid fM_paid_22
      simp only [sI_1, sI_2, sJ_1, sJ_2, sA_1, sA_2, fa_lt, fa_le, fa_eq, nI_1, nI_sub1, nmx, bnd_e, bn1_e, btW_n, btW_s, btR_n, btR_s, btO_n, btO_s, outside_e, reqE_e, reqP_e, btO_i, btR_i, mIsPerson_e, mFail_e, chk, inb, Int32.reduceToInt, Nat.reduceEqDiff, ite_01, ite_10, eq_self, true_and, and_true, false_and, and_self, reduceIte, not_false_eq_true, not_true_eq_false, or_true, true_or, or_false, false_or, and_false, Int.reduceEq, Int.reduceLT, Int.reduceLE, Nat.reduceLT, Nat.reduceLeDiff, Nat.reduceAdd, Nat.reduceMul, mrg1, mrg2, mrg3, mrg4, h2, em]
      ((repeat (first | rw [if_pos (by omega)] | rw [if_neg (by omega)])) <;> (try rfl))
