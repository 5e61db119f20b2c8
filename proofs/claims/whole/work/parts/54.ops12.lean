/-! what is only read -/
def AnsR (q : Option Int32) (b : Int32) (μ μ' : St) : Prop := (q = none ∧ b = 0 ∧ μ' = sI (sI μ 204 0 0 0 0) 204 0 0 0 1) ∨ (q = some b ∧ μ' = sI μ 204 0 0 0 0)
theorem AnsR.n {μ : St} : AnsR none 0 μ (sI (sI μ 204 0 0 0 0) 204 0 0 0 1) := Or.inl ⟨rfl, rfl, rfl⟩
theorem AnsR.s {μ : St} {b : Int32} : AnsR (some b) b μ (sI μ 204 0 0 0 0) := Or.inr ⟨rfl, rfl⟩
theorem e_offerOf {N : Nat} {σ μ : St} (hE : Eq1 σ μ) (hR : Rng μ) (hS : ∀ o m : Nat, μ.1 317 0 0 0 = nI m → o < m → m ≤ 60 → μ.1 324 0 0 o = if μ.1 327 0 0 o = -1 then 1 else 0) (a1 a2 : Int32) :
    ∃ q b μ', fX_offerOf N a1 a2 σ = some q ∧ fM_offerOf N a1 a2 μ = some (b, μ') ∧ AnsR q b μ μ' := by
  obtain ⟨m, h2, em, cm, -, hm⟩ := hR.n (g := 317) (lo := 0) (hi := 60) 0 (by decide) (by decide)
  have h1 : σ.1 107 0 0 0 = nI m := (hE (107, 317) (by decide) 0).trans h2
  by_cases g : 0 ≤ a1.toInt ∧ a1.toInt < m
  · obtain ⟨j, rfl, ej, cj⟩ := argN g.1
    rw [ej] at g
    have hj : j < 60 := by omega
    have h3 : σ.1 103 0 0 j = μ.1 325 0 0 j := hE (103, 325) (by decide) j
    have h4 : σ.1 104 0 0 j = μ.1 326 0 0 j := hE (104, 326) (by decide) j
    have h5 : σ.1 105 0 0 j = μ.1 327 0 0 j := hE (105, 327) (by decide) j
    have h6 : σ.1 106 0 0 j = μ.1 328 0 0 j := hE (106, 328) (by decide) j
    have h7 := hS j m h2 (by omega) (by omega)
    have lt : nI j < nI m := nI_lt (by omega) (by omega)
    have ge : ¬ nI j < 0 := nI_pos (by omega)
    have ib := chk_t (α := Option Int32) (k := none) (inb_n hj (by decide))
    unfold fX_offerOf fM_offerOf
    rw [reqE_e, btO_i, h1, if_neg (fun z => z.elim ge (Int32.not_le.mpr lt)), nmx, sI_o (by decide), h2, if_neg ge, if_pos lt]
    simp only [cj, chk_t (inb_n hj (by decide)), h3, h4, h5, h6, sI_o (show 325 ≠ 204 by decide), sI_o (show 326 ≠ 204 by decide), sI_o (show 324 ≠ 204 by decide), sI_o (show 327 ≠ 204 by decide), sI_o (show 328 ≠ 204 by decide), h7, mFail_e, bnd_e]
    by_cases z0 : a2 = 0
    · rw [if_pos z0, if_pos z0]; exact ⟨_, _, _, rfl, rfl, AnsR.s⟩
    rw [if_neg z0, if_neg z0]
    by_cases z1 : a2 = 1
    · rw [if_pos z1, if_pos z1]; exact ⟨_, _, _, rfl, rfl, AnsR.s⟩
    rw [if_neg z1, if_neg z1]
    by_cases z2 : a2 = 2
    · rw [if_pos z2, if_pos z2]
      by_cases y : μ.1 327 0 0 j = -1
      · rw [if_pos y, if_pos y, if_neg (by decide)]; exact ⟨_, _, _, rfl, rfl, AnsR.s⟩
      · rw [if_neg y, if_neg y, if_pos rfl]; exact ⟨_, _, _, rfl, rfl, AnsR.s⟩
    rw [if_neg z2, if_neg z2]
    by_cases z3 : a2 = 3
    · rw [if_pos z3, if_pos z3]; exact ⟨_, _, _, rfl, rfl, AnsR.s⟩
    rw [if_neg z3, if_neg z3]
    by_cases z4 : a2 = 4
    · rw [if_pos z4, if_pos z4]; exact ⟨_, _, _, rfl, rfl, AnsR.s⟩
    rw [if_neg z4, if_neg z4]
    exact ⟨_, _, _, rfl, rfl, AnsR.n⟩
  · refine ⟨none, 0, _, ?_, ?_, AnsR.n⟩
    · unfold fX_offerOf
      simp only [sI_1, sI_2, sJ_1, sJ_2, sA_1, sA_2, fa_lt, fa_le, fa_eq, nI_1, nI_sub1, nmx, bnd_e, bn1_e, btW_n, btW_s, btR_n, btR_s, btO_n, btO_s, outside_e, reqE_e, reqP_e, btO_i, btR_i, mIsPerson_e, mFail_e, chk, inb, Int32.reduceToInt, Nat.reduceEqDiff, ite_01, ite_10, eq_self, true_and, and_true, false_and, and_self, reduceIte, not_false_eq_true, not_true_eq_false, or_true, true_or, or_false, false_or, and_false, Int.reduceEq, Int.reduceLT, Int.reduceLE, Nat.reduceLT, Nat.reduceLeDiff, Nat.reduceAdd, Nat.reduceMul, mrg1, mrg2, mrg3, mrg4, h1, em]
      ((repeat (first | rw [if_pos (by omega)] | rw [if_neg (by omega)])) <;> (try rfl))
    · unfold fM_offerOf fM_offerOf_17
      simp only [sI_1, sI_2, sJ_1, sJ_2, sA_1, sA_2, fa_lt, fa_le, fa_eq, nI_1, nI_sub1, nmx, bnd_e, bn1_e, btW_n, btW_s, btR_n, btR_s, btO_n, btO_s, outside_e, reqE_e, reqP_e, btO_i, btR_i, mIsPerson_e, mFail_e, chk, inb, Int32.reduceToInt, Nat.reduceEqDiff, ite_01, ite_10, eq_self, true_and, and_true, false_and, and_self, reduceIte, not_false_eq_true, not_true_eq_false, or_true, true_or, or_false, false_or, and_false, Int.reduceEq, Int.reduceLT, Int.reduceLE, Nat.reduceLT, Nat.reduceLeDiff, Nat.reduceAdd, Nat.reduceMul, mrg1, mrg2, mrg3, mrg4, h2, em]
      ((repeat (first | rw [if_pos (by omega)] | rw [if_neg (by omega)])) <;> (try rfl))
theorem e_sent {N : Nat} {σ μ : St} (hE : Eq1 σ μ) (hR : Rng μ) (hS : ∀ p, p < 20 → σ.1 123 0 0 p = if μ.1 333 0 0 0 = 0 then -1 else μ.1 330 0 0 p) (a1 : Int32) :
    ∃ q b μ', fX_sent N a1 σ = some q ∧ fM_sent N a1 μ = some (b, μ') ∧ AnsR q b μ μ' := by
  obtain ⟨p, h2, ep, cp, -, hp⟩ := hR.n (g := 208) (lo := 0) (hi := 20) 0 (by decide) (by decide)
  have h1 : σ.1 52 0 0 0 = nI p := (hE (52, 208) (by decide) 0).trans h2
  by_cases g : 0 ≤ a1.toInt ∧ a1.toInt < p
  · obtain ⟨j, rfl, ej, cj⟩ := argN g.1
    rw [ej] at g
    have h3 := hS j (by omega)
    refine ⟨some (if μ.1 333 0 0 0 = 0 then -1 else μ.1 330 0 0 j), _, _, ?_, ?_, AnsR.s⟩
    · unfold fX_sent
      simp only [sI_1, sI_2, sJ_1, sJ_2, sA_1, sA_2, fa_lt, fa_le, fa_eq, nI_1, nI_sub1, nmx, bnd_e, bn1_e, btW_n, btW_s, btR_n, btR_s, btO_n, btO_s, outside_e, reqE_e, reqP_e, btO_i, btR_i, mIsPerson_e, mFail_e, chk, inb, Int32.reduceToInt, Nat.reduceEqDiff, ite_01, ite_10, eq_self, true_and, and_true, false_and, and_self, reduceIte, not_false_eq_true, not_true_eq_false, or_true, true_or, or_false, false_or, and_false, Int.reduceEq, Int.reduceLT, Int.reduceLE, Nat.reduceLT, Nat.reduceLeDiff, Nat.reduceAdd, Nat.reduceMul, mrg1, mrg2, mrg3, mrg4, h1, ep, ej, cj, h3]
      ((repeat (first | rw [if_pos (by omega)] | rw [if_neg (by omega)])) <;> (try rfl))
    · unfold fM_sent
      rw [nmx, mIsPerson_e, bn1_e, sI_o (by decide), h2, if_neg (show ¬ (nI j < 0 ∨ nI p ≤ nI j) from fun z => z.elim (nI_pos (by omega)) (nI_ge (by omega) (by omega))), if_neg (show ¬ (1 : Int32) = 0 by decide), sI_o (by decide), chk_t (inb_n (by omega) (by decide)), cj, sI_o (by decide)]
      by_cases y : μ.1 333 0 0 0 = 0
      · rw [if_pos y, if_pos y]
      · rw [if_neg y, if_neg y]
  · refine ⟨none, 0, _, ?_, ?_, AnsR.n⟩
    · unfold fX_sent
      simp only [sI_1, sI_2, sJ_1, sJ_2, sA_1, sA_2, fa_lt, fa_le, fa_eq, nI_1, nI_sub1, nmx, bnd_e, bn1_e, btW_n, btW_s, btR_n, btR_s, btO_n, btO_s, outside_e, reqE_e, reqP_e, btO_i, btR_i, mIsPerson_e, mFail_e, chk, inb, Int32.reduceToInt, Nat.reduceEqDiff, ite_01, ite_10, eq_self, true_and, and_true, false_and, and_self, reduceIte, not_false_eq_true, not_true_eq_false, or_true, true_or, or_false, false_or, and_false, Int.reduceEq, Int.reduceLT, Int.reduceLE, Nat.reduceLT, Nat.reduceLeDiff, Nat.reduceAdd, Nat.reduceMul, mrg1, mrg2, mrg3, mrg4, h1, ep]
      ((repeat (first | rw [if_pos (by omega)] | rw [if_neg (by omega)])) <;> (try rfl))
    · unfold fM_sent
      simp only [sI_1, sI_2, sJ_1, sJ_2, sA_1, sA_2, fa_lt, fa_le, fa_eq, nI_1, nI_sub1, nmx, bnd_e, bn1_e, btW_n, btW_s, btR_n, btR_s, btO_n, btO_s, outside_e, reqE_e, reqP_e, btO_i, btR_i, mIsPerson_e, mFail_e, chk, inb, Int32.reduceToInt, Nat.reduceEqDiff, ite_01, ite_10, eq_self, true_and, and_true, false_and, and_self, reduceIte, not_false_eq_true, not_true_eq_false, or_true, true_or, or_false, false_or, and_false, Int.reduceEq, Int.reduceLT, Int.reduceLE, Nat.reduceLT, Nat.reduceLeDiff, Nat.reduceAdd, Nat.reduceMul, mrg1, mrg2, mrg3, mrg4, h2, ep]
      ((repeat (first | rw [if_pos (by omega)] | rw [if_neg (by omega)])) <;> (try rfl))
theorem e_fund {N : Nat} {σ μ : St} (h0 : σ.1 56 0 0 0 = (μ.2 312 0 0 0).toInt32) (h1 : σ.1 57 0 0 0 = (μ.2 313 0 0 0).toInt32) (h2 : σ.1 58 0 0 0 = (μ.2 314 0 0 0).toInt32)
    (h3 : ∃ r, fLand_lasts N σ = some r ∧ fM_lasts N (sI μ 204 0 0 0 0) = some r) (a1 : Int32) :
    ∃ q b μ', fX_fund N a1 σ = some q ∧ fM_fund N a1 μ = some (b, μ') ∧ AnsR q b μ μ' := by
  obtain ⟨r, g1, g2⟩ := h3
  unfold fX_fund fM_fund fM_toInt
  rw [nmx, h0, h1, h2, g1, g2, bn1_e, bn1_e, bn1_e, bn1_e, bn1_e, mFail_e, bnd_e]
  by_cases z0 : a1 = 0
  · rw [if_pos z0, if_pos z0]; exact ⟨_, _, _, rfl, rfl, AnsR.s⟩
  rw [if_neg z0, if_neg z0]
  by_cases z1 : a1 = 1
  · rw [if_pos z1, if_pos z1]; exact ⟨_, _, _, rfl, rfl, AnsR.s⟩
  rw [if_neg z1, if_neg z1]
  by_cases z2 : a1 = 2
  · rw [if_pos z2, if_pos z2]; exact ⟨_, _, _, rfl, rfl, AnsR.s⟩
  rw [if_neg z2, if_neg z2]
  by_cases z3 : a1 = 3
  · rw [if_pos z3, if_pos z3]; exact ⟨_, _, _, rfl, rfl, AnsR.s⟩
  rw [if_neg z3, if_neg z3]
  exact ⟨_, _, _, rfl, rfl, AnsR.n⟩
