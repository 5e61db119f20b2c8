/-! vacancies, prices, miles -/
theorem e_addVacancy {N n : Nat} {σ : St} (a1 a2 a3 a4 a5 : Int32) (h1 : σ.1 102 0 0 0 = nI n) (en : (nI n).toInt = (n : Int)) (cn : (nI n).toNatClampNeg = n) (hn : n < 24) : fMarket_addVacancy N a1 a2 a3 a4 a5 σ = some (nI n, sI (sI (sI (sI (sI (sI σ 96 0 0 n a1) 97 0 0 n a2) 98 0 0 n a3) 99 0 0 n a4) 100 0 0 n a5) 102 0 0 0 (nI (n + 1))) := by
  unfold fMarket_addVacancy
  simp only [sI_1, sI_2, sJ_1, sJ_2, sA_1, sA_2, fa_lt, fa_le, fa_eq, nI_1, nI_sub1, nmx, bnd_e, bn1_e, btW_n, btW_s, btR_n, btR_s, btO_n, btO_s, outside_e, reqE_e, reqP_e, btO_i, btR_i, mIsPerson_e, mFail_e, chk, inb, Int32.reduceToInt, Nat.reduceEqDiff, ite_01, ite_10, eq_self, true_and, and_true, false_and, and_self, reduceIte, not_false_eq_true, not_true_eq_false, or_true, true_or, or_false, false_or, and_false, Int.reduceEq, Int.reduceLT, Int.reduceLE, Nat.reduceLT, Nat.reduceLeDiff, Nat.reduceAdd, Nat.reduceMul, mrg1, mrg2, mrg3, mrg4, h1, en, cn]
  ((repeat (first | rw [if_pos (by omega)] | rw [if_neg (by omega)])) <;> (try rfl))
theorem e_vacancy {N : Nat} {σ μ : St} (hE : Eq1 σ μ) (hR : Rng μ) (a1 a2 a3 a4 : Int32) :
    (fX_vacancy N a1 a2 a3 a4 σ = some (-1, σ) ∧ fM_vacancy N a1 a2 a3 a4 μ = some (-1, sI μ 204 0 0 0 0)) ∨
    (∃ n o : Nat, n < 24 ∧ μ.1 316 0 0 0 = nI n ∧ μ.1 207 0 0 0 = nI o ∧ o ≤ 8 ∧ (0 ≤ a1.toInt ∧ a1.toInt < o ∧ 0 ≤ a2.toInt ∧ a2.toInt ≤ 7 ∧ 1 ≤ a3.toInt ∧ a3.toInt ≤ 999 ∧ 0 ≤ a4.toInt ∧ a4.toInt ≤ 999) ∧
      fX_vacancy N a1 a2 a3 a4 σ = some (nI n, sI (sI (sI (sI (sI (sI σ 96 0 0 n a1) 97 0 0 n a2) 98 0 0 n a3) 99 0 0 n a4) 100 0 0 n (μ.1 205 0 0 0)) 102 0 0 0 (nI (n + 1))) ∧
      fM_vacancy N a1 a2 a3 a4 μ = some (nI n, sI (sI (sI (sI (sI (sI (sI μ 204 0 0 0 0) 318 0 0 n a1) 319 0 0 n a2) 320 0 0 n a3) 321 0 0 n a4) 322 0 0 n (μ.1 205 0 0 0)) 316 0 0 0 (nI (n + 1)))) := by
  obtain ⟨n, h2, en, cn, -, hn⟩ := hR.n (g := 316) (lo := 0) (hi := 24) 0 (by decide) (by decide)
  obtain ⟨o, h4, eo, co, -, ho⟩ := hR.n (g := 207) (lo := 0) (hi := 8) 0 (by decide) (by decide)
  have h1 : σ.1 102 0 0 0 = nI n := (hE (102, 316) (by decide) 0).trans h2
  have h3 : σ.1 46 0 0 0 = nI o := (hE (46, 207) (by decide) 0).trans h4
  have h5 : σ.1 162 0 0 0 = μ.1 205 0 0 0 := hE (162, 205) (by decide) 0
  have eo1 : (nI o - 1).toInt = (o : Int) - 1 := nI_m1 (by omega)
  have m : ∀ s0 : Int32, fM_vacancy_57 N a1 a2 a3 a4 s0 (sI μ 204 0 0 0 0) = if n = 24 ∨ s0.toInt = 0 then some (-1, sI μ 204 0 0 0 0) else some (nI n, sI (sI (sI (sI (sI (sI (sI μ 204 0 0 0 0) 318 0 0 n a1) 319 0 0 n a2) 320 0 0 n a3) 321 0 0 n a4) 322 0 0 n (μ.1 205 0 0 0)) 316 0 0 0 (nI (n + 1))) := by
    intro s0
    unfold fM_vacancy_57
    simp only [sI_1, sI_2, sJ_1, sJ_2, sA_1, sA_2, fa_lt, fa_le, fa_eq, nI_1, nI_sub1, nmx, bnd_e, bn1_e, btW_n, btW_s, btR_n, btR_s, btO_n, btO_s, outside_e, reqE_e, reqP_e, btO_i, btR_i, mIsPerson_e, mFail_e, chk, inb, Int32.reduceToInt, Nat.reduceEqDiff, ite_01, ite_10, eq_self, true_and, and_true, false_and, and_self, reduceIte, not_false_eq_true, not_true_eq_false, or_true, true_or, or_false, false_or, and_false, Int.reduceEq, Int.reduceLT, Int.reduceLE, Nat.reduceLT, Nat.reduceLeDiff, Nat.reduceAdd, Nat.reduceMul, mrg1, mrg2, mrg3, mrg4, h2, en, cn]
    by_cases hc : n = 24 ∨ s0.toInt = 0
    · ((repeat (first | rw [if_pos (by omega)] | rw [if_neg (by omega)])) <;> (try rfl))
    · ((repeat (first | rw [if_pos (by omega)] | rw [if_neg (by omega)])) <;> (try rfl))
  by_cases h : n < 24 ∧ (0 ≤ a1.toInt ∧ a1.toInt < o ∧ 0 ≤ a2.toInt ∧ a2.toInt ≤ 7 ∧ 1 ≤ a3.toInt ∧ a3.toInt ≤ 999 ∧ 0 ≤ a4.toInt ∧ a4.toInt ≤ 999)
  · refine Or.inr ⟨n, o, h.1, h2, h4, by omega, h.2, ?_, ?_⟩
    · unfold fX_vacancy
      simp only [sI_1, sI_2, sJ_1, sJ_2, sA_1, sA_2, fa_lt, fa_le, fa_eq, nI_1, nI_sub1, nmx, bnd_e, bn1_e, btW_n, btW_s, btR_n, btR_s, btO_n, btO_s, outside_e, reqE_e, reqP_e, btO_i, btR_i, mIsPerson_e, mFail_e, chk, inb, Int32.reduceToInt, Nat.reduceEqDiff, ite_01, ite_10, eq_self, true_and, and_true, false_and, and_self, reduceIte, not_false_eq_true, not_true_eq_false, or_true, true_or, or_false, false_or, and_false, Int.reduceEq, Int.reduceLT, Int.reduceLE, Nat.reduceLT, Nat.reduceLeDiff, Nat.reduceAdd, Nat.reduceMul, mrg1, mrg2, mrg3, mrg4, h1, h3, h5, eo1, en, e_addVacancy (N := N) a1 a2 a3 a4 (μ.1 205 0 0 0) h1 en cn h.1]
      ((repeat (first | rw [if_pos (by omega)] | rw [if_neg (by omega)])) <;> (try rfl))
    · unfold fM_vacancy
      simp only [sI_1, sI_2, sJ_1, sJ_2, sA_1, sA_2, fa_lt, fa_le, fa_eq, nI_1, nI_sub1, nmx, bnd_e, bn1_e, btW_n, btW_s, btR_n, btR_s, btO_n, btO_s, outside_e, reqE_e, reqP_e, btO_i, btR_i, mIsPerson_e, mFail_e, chk, inb, Int32.reduceToInt, Nat.reduceEqDiff, ite_01, ite_10, eq_self, true_and, and_true, false_and, and_self, reduceIte, not_false_eq_true, not_true_eq_false, or_true, true_or, or_false, false_or, and_false, Int.reduceEq, Int.reduceLT, Int.reduceLE, Nat.reduceLT, Nat.reduceLeDiff, Nat.reduceAdd, Nat.reduceMul, mrg1, mrg2, mrg3, mrg4, h2, h4, eo, en, fM_vacancy_56, m]
      ((repeat (first | rw [if_pos (by omega)] | rw [if_neg (by omega)])) <;> (try rfl))
  · refine Or.inl ⟨?_, ?_⟩
    · unfold fX_vacancy
      simp only [sI_1, sI_2, sJ_1, sJ_2, sA_1, sA_2, fa_lt, fa_le, fa_eq, nI_1, nI_sub1, nmx, bnd_e, bn1_e, btW_n, btW_s, btR_n, btR_s, btO_n, btO_s, outside_e, reqE_e, reqP_e, btO_i, btR_i, mIsPerson_e, mFail_e, chk, inb, Int32.reduceToInt, Nat.reduceEqDiff, ite_01, ite_10, eq_self, true_and, and_true, false_and, and_self, reduceIte, not_false_eq_true, not_true_eq_false, or_true, true_or, or_false, false_or, and_false, Int.reduceEq, Int.reduceLT, Int.reduceLE, Nat.reduceLT, Nat.reduceLeDiff, Nat.reduceAdd, Nat.reduceMul, mrg1, mrg2, mrg3, mrg4, h1, h3, h5, eo1, en]
      ((repeat (first | rw [if_pos (by omega)] | rw [if_neg (by omega)])) <;> (try rfl))
    · unfold fM_vacancy
      simp only [sI_1, sI_2, sJ_1, sJ_2, sA_1, sA_2, fa_lt, fa_le, fa_eq, nI_1, nI_sub1, nmx, bnd_e, bn1_e, btW_n, btW_s, btR_n, btR_s, btO_n, btO_s, outside_e, reqE_e, reqP_e, btO_i, btR_i, mIsPerson_e, mFail_e, chk, inb, Int32.reduceToInt, Nat.reduceEqDiff, ite_01, ite_10, eq_self, true_and, and_true, false_and, and_self, reduceIte, not_false_eq_true, not_true_eq_false, or_true, true_or, or_false, false_or, and_false, Int.reduceEq, Int.reduceLT, Int.reduceLE, Nat.reduceLT, Nat.reduceLeDiff, Nat.reduceAdd, Nat.reduceMul, mrg1, mrg2, mrg3, mrg4, h2, h4, eo, en, fM_vacancy_56, m]
      ((repeat (first | rw [if_pos (by omega)] | rw [if_neg (by omega)])) <;> (try rfl))
theorem mIsVac_e (N : Nat) (x : Int32) (σ : St) : fM_isVacancy N x σ = some (if x < 0 ∨ σ.1 316 0 0 0 ≤ x then 0 else 1) := by
  unfold fM_isVacancy
  by_cases h1 : x < 0
  · rw [if_pos h1, if_pos (Or.inl h1)]
  · rw [if_neg h1]
    by_cases h2 : σ.1 316 0 0 0 ≤ x
    · rw [if_pos h2, if_pos (Or.inr h2)]
    · rw [if_neg h2, if_neg (fun h => h.elim h1 h2)]
theorem e_price {N : Nat} {σ μ : St} (hE : Eq1 σ μ) (hR : Rng μ) (a1 a2 a3 : Int32) :
    (fX_price N a1 a2 a3 σ = some (0, σ) ∧ fM_price N a1 a2 a3 μ = some (0, sI μ 204 0 0 0 0)) ∨
    (∃ j : Nat, j < 24 ∧ (0 ≤ a3.toInt ∧ a3.toInt ≤ 9999) ∧
      ((fX_price N a1 a2 a3 σ = some (1, sI σ 108 0 0 j a3) ∧ fM_price N a1 a2 a3 μ = some (1, sI (sI μ 204 0 0 0 0) 331 0 0 j a3)) ∨
       (fX_price N a1 a2 a3 σ = some (1, sI σ 109 0 0 j a3) ∧ fM_price N a1 a2 a3 μ = some (1, sI (sI μ 204 0 0 0 0) 332 0 0 j a3)))) := by
  obtain ⟨p, h2, ep, cp, -, hp⟩ := hR.n (g := 208) (lo := 0) (hi := 20) 0 (by decide) (by decide)
  obtain ⟨n, h4, en, cn, -, hn⟩ := hR.n (g := 316) (lo := 0) (hi := 24) 0 (by decide) (by decide)
  have h1 : σ.1 52 0 0 0 = nI p := (hE (52, 208) (by decide) 0).trans h2
  have h3 : σ.1 102 0 0 0 = nI n := (hE (102, 316) (by decide) 0).trans h4
  have ep1 : (nI p - 1).toInt = (p : Int) - 1 := nI_m1 (by omega)
  have en1 : (nI n - 1).toInt = (n : Int) - 1 := nI_m1 (by omega)
  by_cases h : (a1.toInt = 0 ∧ 0 ≤ a2.toInt ∧ a2.toInt < p ∨ a1.toInt = 1 ∧ 0 ≤ a2.toInt ∧ a2.toInt < n) ∧ 0 ≤ a3.toInt ∧ a3.toInt ≤ 9999
  · obtain ⟨j, rfl, ej, cj⟩ := argN (x := a2) (by omega)
    rw [ej] at h
    refine Or.inr ⟨j, by omega, h.2, ?_⟩
    rcases h.1 with hc | hc
    · refine Or.inl ⟨?_, ?_⟩
      · unfold fX_price fX_price_45
        simp only [sI_1, sI_2, sJ_1, sJ_2, sA_1, sA_2, fa_lt, fa_le, fa_eq, nI_1, nI_sub1, nmx, bnd_e, bn1_e, btW_n, btW_s, btR_n, btR_s, btO_n, btO_s, outside_e, reqE_e, reqP_e, btO_i, btR_i, mIsPerson_e, mFail_e, chk, inb, Int32.reduceToInt, Nat.reduceEqDiff, ite_01, ite_10, eq_self, true_and, and_true, false_and, and_self, reduceIte, not_false_eq_true, not_true_eq_false, or_true, true_or, or_false, false_or, and_false, Int.reduceEq, Int.reduceLT, Int.reduceLE, Nat.reduceLT, Nat.reduceLeDiff, Nat.reduceAdd, Nat.reduceMul, mrg1, mrg2, mrg3, mrg4, h1, h3, ep1, en1, ej, cj]
        ((repeat (first | rw [if_pos (by omega)] | rw [if_neg (by omega)])) <;> (try rfl))
      · unfold fM_price fM_price_34 fM_price_35
        simp only [sI_1, sI_2, sJ_1, sJ_2, sA_1, sA_2, fa_lt, fa_le, fa_eq, nI_1, nI_sub1, nmx, bnd_e, bn1_e, btW_n, btW_s, btR_n, btR_s, btO_n, btO_s, outside_e, reqE_e, reqP_e, btO_i, btR_i, mIsPerson_e, mFail_e, chk, inb, Int32.reduceToInt, Nat.reduceEqDiff, ite_01, ite_10, eq_self, true_and, and_true, false_and, and_self, reduceIte, not_false_eq_true, not_true_eq_false, or_true, true_or, or_false, false_or, and_false, Int.reduceEq, Int.reduceLT, Int.reduceLE, Nat.reduceLT, Nat.reduceLeDiff, Nat.reduceAdd, Nat.reduceMul, mrg1, mrg2, mrg3, mrg4, h2, h4, ep, en, ej, cj, mIsVac_e]
        ((repeat (first | rw [if_pos (by omega)] | rw [if_neg (by omega)])) <;> (try rfl))
    · refine Or.inr ⟨?_, ?_⟩
      · unfold fX_price fX_price_45
        simp only [sI_1, sI_2, sJ_1, sJ_2, sA_1, sA_2, fa_lt, fa_le, fa_eq, nI_1, nI_sub1, nmx, bnd_e, bn1_e, btW_n, btW_s, btR_n, btR_s, btO_n, btO_s, outside_e, reqE_e, reqP_e, btO_i, btR_i, mIsPerson_e, mFail_e, chk, inb, Int32.reduceToInt, Nat.reduceEqDiff, ite_01, ite_10, eq_self, true_and, and_true, false_and, and_self, reduceIte, not_false_eq_true, not_true_eq_false, or_true, true_or, or_false, false_or, and_false, Int.reduceEq, Int.reduceLT, Int.reduceLE, Nat.reduceLT, Nat.reduceLeDiff, Nat.reduceAdd, Nat.reduceMul, mrg1, mrg2, mrg3, mrg4, h1, h3, ep1, en1, ej, cj]
        ((repeat (first | rw [if_pos (by omega)] | rw [if_neg (by omega)])) <;> (try rfl))
      · unfold fM_price fM_price_34 fM_price_35
        simp only [sI_1, sI_2, sJ_1, sJ_2, sA_1, sA_2, fa_lt, fa_le, fa_eq, nI_1, nI_sub1, nmx, bnd_e, bn1_e, btW_n, btW_s, btR_n, btR_s, btO_n, btO_s, outside_e, reqE_e, reqP_e, btO_i, btR_i, mIsPerson_e, mFail_e, chk, inb, Int32.reduceToInt, Nat.reduceEqDiff, ite_01, ite_10, eq_self, true_and, and_true, false_and, and_self, reduceIte, not_false_eq_true, not_true_eq_false, or_true, true_or, or_false, false_or, and_false, Int.reduceEq, Int.reduceLT, Int.reduceLE, Nat.reduceLT, Nat.reduceLeDiff, Nat.reduceAdd, Nat.reduceMul, mrg1, mrg2, mrg3, mrg4, h2, h4, ep, en, ej, cj, mIsVac_e]
        ((repeat (first | rw [if_pos (by omega)] | rw [if_neg (by omega)])) <;> (try rfl))
  · refine Or.inl ⟨?_, ?_⟩
    · unfold fX_price fX_price_45
      simp only [sI_1, sI_2, sJ_1, sJ_2, sA_1, sA_2, fa_lt, fa_le, fa_eq, nI_1, nI_sub1, nmx, bnd_e, bn1_e, btW_n, btW_s, btR_n, btR_s, btO_n, btO_s, outside_e, reqE_e, reqP_e, btO_i, btR_i, mIsPerson_e, mFail_e, chk, inb, Int32.reduceToInt, Nat.reduceEqDiff, ite_01, ite_10, eq_self, true_and, and_true, false_and, and_self, reduceIte, not_false_eq_true, not_true_eq_false, or_true, true_or, or_false, false_or, and_false, Int.reduceEq, Int.reduceLT, Int.reduceLE, Nat.reduceLT, Nat.reduceLeDiff, Nat.reduceAdd, Nat.reduceMul, mrg1, mrg2, mrg3, mrg4, h1, h3, ep1, en1]
      ((repeat' split) <;> first | rfl | (exfalso; omega))
    · unfold fM_price fM_price_34 fM_price_35
      simp only [sI_1, sI_2, sJ_1, sJ_2, sA_1, sA_2, fa_lt, fa_le, fa_eq, nI_1, nI_sub1, nmx, bnd_e, bn1_e, btW_n, btW_s, btR_n, btR_s, btO_n, btO_s, outside_e, reqE_e, reqP_e, btO_i, btR_i, mIsPerson_e, mFail_e, chk, inb, Int32.reduceToInt, Nat.reduceEqDiff, ite_01, ite_10, eq_self, true_and, and_true, false_and, and_self, reduceIte, not_false_eq_true, not_true_eq_false, or_true, true_or, or_false, false_or, and_false, Int.reduceEq, Int.reduceLT, Int.reduceLE, Nat.reduceLT, Nat.reduceLeDiff, Nat.reduceAdd, Nat.reduceMul, mrg1, mrg2, mrg3, mrg4, h2, h4, ep, en, mIsVac_e]
      ((repeat' split) <;> first | rfl | (exfalso; omega))
/-- miles -/
def mi (μ : St) (a b : Nat) : Int := ((μ.1 209 0 0 a).toInt - (μ.1 209 0 0 b).toInt).natAbs + ((μ.1 210 0 0 a).toInt - (μ.1 210 0 0 b).toInt).natAbs
theorem sub_i {x y : Int32} (h : -2147483648 ≤ x.toInt - y.toInt) (h2 : x.toInt - y.toInt ≤ 2147483647) : (x - y).toInt = x.toInt - y.toInt := by
  rw [Int32.toInt_sub]
  exact Int.bmod_eq_of_le (by omega) (by omega)
theorem add_i {x y : Int32} (h : -2147483648 ≤ x.toInt + y.toInt) (h2 : x.toInt + y.toInt ≤ 2147483647) : (x + y).toInt = x.toInt + y.toInt := by
  rw [Int32.toInt_add]
  exact Int.bmod_eq_of_le (by omega) (by omega)
theorem neg_i {x : Int32} (h : -2147483648 < x.toInt) : (-x).toInt = -x.toInt := by
  rw [Int32.toInt_neg]
  have := Int32.toInt_lt x
  exact Int.bmod_eq_of_le (by omega) (by omega)
theorem eq_i {x : Int32} {n : Nat} (h : x.toInt = n) (hn : n < 2 ^ 31) : x = nI n := by
  rw [← Int32.toInt_inj, h, nI_toInt hn]
theorem abs_e (N : Nat) (σ : St) {x : Int32} (h : -2147483648 < x.toInt) : ∃ r, fMath_abs_I N x σ = some r ∧ r.toInt = x.toInt.natAbs := by
  unfold fMath_abs_I
  by_cases h0 : 0 ≤ x
  · rw [if_pos h0]
    rw [Int32.le_iff_toInt_le, Int32.toInt_zero] at h0
    exact ⟨x, rfl, by omega⟩
  · rw [if_neg h0]
    rw [Int32.le_iff_toInt_le, Int32.toInt_zero] at h0
    exact ⟨-x, rfl, by rw [neg_i h]; omega⟩
theorem e_milesM {N a b : Nat} {μ : St} (hR : Rng μ) (ha : a < 8) (hb : b < 8) : ∃ n : Nat, (n : Int) = mi μ a b ∧ n ≤ 198 ∧ fM_milesOf N (nI a) (nI b) μ = some (nI n) := by
  have ea := nI_toInt (n := a) (by omega)
  have eb := nI_toInt (n := b) (by omega)
  have ca := nI_clamp (n := a) (by omega)
  have cb := nI_clamp (n := b) (by omega)
  have x1 := hR (209, 0, 99) (by decide) a
  have x2 := hR (209, 0, 99) (by decide) b
  have y1 := hR (210, 0, 99) (by decide) a
  have y2 := hR (210, 0, 99) (by decide) b
  dsimp only at x1 x2 y1 y2
  have dx := sub_i (x := μ.1 209 0 0 a) (y := μ.1 209 0 0 b) (by omega) (by omega)
  have dy := sub_i (x := μ.1 210 0 0 a) (y := μ.1 210 0 0 b) (by omega) (by omega)
  obtain ⟨r1, g1, g2⟩ := abs_e N μ (x := μ.1 209 0 0 a - μ.1 209 0 0 b) (by omega)
  obtain ⟨r2, g3, g4⟩ := abs_e N μ (x := μ.1 210 0 0 a - μ.1 210 0 0 b) (by omega)
  rw [dx] at g2
  rw [dy] at g4
  refine ⟨((μ.1 209 0 0 a).toInt - (μ.1 209 0 0 b).toInt).natAbs + ((μ.1 210 0 0 a).toInt - (μ.1 210 0 0 b).toInt).natAbs, ?_, by omega, ?_⟩
  · unfold mi
    omega
  · unfold fM_milesOf
    simp only [sI_1, sI_2, sJ_1, sJ_2, sA_1, sA_2, fa_lt, fa_le, fa_eq, nI_1, nI_sub1, nmx, bnd_e, bn1_e, btW_n, btW_s, btR_n, btR_s, btO_n, btO_s, outside_e, reqE_e, reqP_e, btO_i, btR_i, mIsPerson_e, mFail_e, chk, inb, Int32.reduceToInt, Nat.reduceEqDiff, ite_01, ite_10, eq_self, true_and, and_true, false_and, and_self, reduceIte, not_false_eq_true, not_true_eq_false, or_true, true_or, or_false, false_or, and_false, Int.reduceEq, Int.reduceLT, Int.reduceLE, Nat.reduceLT, Nat.reduceLeDiff, Nat.reduceAdd, Nat.reduceMul, mrg1, mrg2, mrg3, mrg4, ea, eb, ca, cb, g1, g3]
    rw [if_pos (by omega)]
    refine congrArg some (eq_i ?_ (by omega))
    rw [add_i (by omega) (by omega)]
    omega
theorem e_milesX {N a b : Nat} {σ μ : St} (hE : Eq1 σ μ) (hR : Rng μ) (ha : a < 8) (hb : b < 8) : fLand_miles N (nI a) (nI b) σ = fM_milesOf N (nI a) (nI b) μ := by
  have ca := nI_clamp (n := a) (by omega)
  have cb := nI_clamp (n := b) (by omega)
  have x1 : σ.1 44 0 0 a = μ.1 209 0 0 a := hE (44, 209) (by decide) a
  have x2 : σ.1 44 0 0 b = μ.1 209 0 0 b := hE (44, 209) (by decide) b
  have y1 : σ.1 45 0 0 a = μ.1 210 0 0 a := hE (45, 210) (by decide) a
  have y2 : σ.1 45 0 0 b = μ.1 210 0 0 b := hE (45, 210) (by decide) b
  unfold fLand_miles fM_milesOf
  simp only [ca, cb, x1, x2, y1, y2]
  rfl
/-- the day from which a vacancy is known in an office -/
def kf (μ : St) (v o : Nat) : Int := (μ.1 322 0 0 v).toInt + (mi μ (μ.1 318 0 0 v).toNatClampNeg o + 49) / 50
theorem div50 {n : Nat} (h : n ≤ 198) : ((nI n + 49) / 50) = nI ((n + 49) / 50) := by
  have : ∀ n, n ≤ 198 → ((nI n + 49) / 50) = nI ((n + 49) / 50) := by decide +kernel
  exact this n h
theorem e_knownM {N v o : Nat} {μ : St} (hR : Rng μ) (hv : v < 24) (ho : o < 8) : ∃ n : Nat, (n : Int) = kf μ v o ∧ n ≤ 1000 ∧ fM_knownFrom N (nI v) (nI o) μ = some (nI n) := by
  have ev := nI_toInt (n := v) (by omega)
  have cv := nI_clamp (n := v) (by omega)
  obtain ⟨q, h1, eq, cq, -, hq⟩ := hR.n (g := 318) (lo := 0) (hi := 7) v (by decide) (by decide)
  obtain ⟨t, h2, et, ct, -, ht⟩ := hR.n (g := 322) (lo := 0) (hi := 935) v (by decide) (by decide)
  obtain ⟨m, hm, hm2, hm3⟩ := e_milesM (N := N) hR (show q < 8 by omega) ho
  refine ⟨t + (m + 49) / 50, ?_, by omega, ?_⟩
  · unfold kf
    rw [h1, h2, et, cq, ← hm]
    omega
  · unfold fM_knownFrom
    simp only [sI_1, sI_2, sJ_1, sJ_2, sA_1, sA_2, fa_lt, fa_le, fa_eq, nI_1, nI_sub1, nmx, bnd_e, bn1_e, btW_n, btW_s, btR_n, btR_s, btO_n, btO_s, outside_e, reqE_e, reqP_e, btO_i, btR_i, mIsPerson_e, mFail_e, chk, inb, Int32.reduceToInt, Nat.reduceEqDiff, ite_01, ite_10, eq_self, true_and, and_true, false_and, and_self, reduceIte, not_false_eq_true, not_true_eq_false, or_true, true_or, or_false, false_or, and_false, Int.reduceEq, Int.reduceLT, Int.reduceLE, Nat.reduceLT, Nat.reduceLeDiff, Nat.reduceAdd, Nat.reduceMul, mrg1, mrg2, mrg3, mrg4, ev, cv, h1, h2, hm3]
    rw [if_pos (by omega), div50 hm2, nI_add]
theorem e_knownX {N v o : Nat} {σ μ : St} (hE : Eq1 σ μ) (hR : Rng μ) (hv : v < 24) (ho : o < 8) : fMarket_knownFrom N (nI v) (nI o) σ = fM_knownFrom N (nI v) (nI o) μ := by
  have ev := nI_toInt (n := v) (by omega)
  have cv := nI_clamp (n := v) (by omega)
  obtain ⟨q, h1, eq, cq, -, hq⟩ := hR.n (g := 318) (lo := 0) (hi := 7) v (by decide) (by decide)
  have h3 : σ.1 96 0 0 v = nI q := (hE (96, 318) (by decide) v).trans h1
  have h4 : σ.1 100 0 0 v = μ.1 322 0 0 v := hE (100, 322) (by decide) v
  obtain ⟨m, hm, hm2, hm3⟩ := e_milesM (N := N) hR (show q < 8 by omega) ho
  have e49 : nI m + 50 - 1 = nI m + 49 := by
    have : ∀ n, n ≤ 198 → nI n + 50 - 1 = nI n + 49 := by decide +kernel
    exact this m hm2
  unfold fMarket_knownFrom fM_knownFrom
  simp only [sI_1, sI_2, sJ_1, sJ_2, sA_1, sA_2, fa_lt, fa_le, fa_eq, nI_1, nI_sub1, nmx, bnd_e, bn1_e, btW_n, btW_s, btR_n, btR_s, btO_n, btO_s, outside_e, reqE_e, reqP_e, btO_i, btR_i, mIsPerson_e, mFail_e, chk, inb, Int32.reduceToInt, Nat.reduceEqDiff, ite_01, ite_10, eq_self, true_and, and_true, false_and, and_self, reduceIte, not_false_eq_true, not_true_eq_false, or_true, true_or, or_false, false_or, and_false, Int.reduceEq, Int.reduceLT, Int.reduceLE, Nat.reduceLT, Nat.reduceLeDiff, Nat.reduceAdd, Nat.reduceMul, mrg1, mrg2, mrg3, mrg4, ev, cv, h1, h3, h4, hm3, e_milesX (N := N) hE hR (show q < 8 by omega) ho, e49]
theorem e_known {N : Nat} {σ μ : St} (hE : Eq1 σ μ) (hR : Rng μ) (a1 a2 : Int32) :
    (fX_known N a1 a2 σ = some none ∧ fM_known N a1 a2 μ = some (0, sI (sI μ 204 0 0 0 0) 204 0 0 0 1)) ∨
    (∃ r, fX_known N a1 a2 σ = some (some r) ∧ fM_known N a1 a2 μ = some (r, sI μ 204 0 0 0 0)) := by
  obtain ⟨n, h2, en, cn, -, hn⟩ := hR.n (g := 316) (lo := 0) (hi := 24) 0 (by decide) (by decide)
  obtain ⟨o, h4, eo, co, -, ho⟩ := hR.n (g := 207) (lo := 0) (hi := 8) 0 (by decide) (by decide)
  have h1 : σ.1 102 0 0 0 = nI n := (hE (102, 316) (by decide) 0).trans h2
  have h3 : σ.1 46 0 0 0 = nI o := (hE (46, 207) (by decide) 0).trans h4
  by_cases h : 0 ≤ a1.toInt ∧ a1.toInt < n ∧ 0 ≤ a2.toInt ∧ a2.toInt < o
  · obtain ⟨v, rfl, ev, cv⟩ := argN h.1
    obtain ⟨q, rfl, eq, cq⟩ := argN h.2.2.1
    rw [ev, eq] at h
    obtain ⟨r, -, -, hr⟩ := e_knownM (N := N) (v := v) (o := q) (μ := sI μ 204 0 0 0 0) (hR.o (by decide)) (by omega) (by omega)
    have hx := e_knownX (N := N) (v := v) (o := q) (hE.r (g := 204) (a := 0) (b := 0) (i := 0) (x := 0) (by decide)) (hR.o (by decide)) (by omega) (by omega)
    refine Or.inr ⟨nI r, ?_, ?_⟩
    · unfold fX_known
      simp only [sI_1, sI_2, sJ_1, sJ_2, sA_1, sA_2, fa_lt, fa_le, fa_eq, nI_1, nI_sub1, nmx, bnd_e, bn1_e, btW_n, btW_s, btR_n, btR_s, btO_n, btO_s, outside_e, reqE_e, reqP_e, btO_i, btR_i, mIsPerson_e, mFail_e, chk, inb, Int32.reduceToInt, Nat.reduceEqDiff, ite_01, ite_10, eq_self, true_and, and_true, false_and, and_self, reduceIte, not_false_eq_true, not_true_eq_false, or_true, true_or, or_false, false_or, and_false, Int.reduceEq, Int.reduceLT, Int.reduceLE, Nat.reduceLT, Nat.reduceLeDiff, Nat.reduceAdd, Nat.reduceMul, mrg1, mrg2, mrg3, mrg4, h1, h3, en, eo, ev, eq, hx, hr]
      ((repeat (first | rw [if_pos (by omega)] | rw [if_neg (by omega)])) <;> (try rfl))
    · unfold fM_known
      rw [nmx]
      simp only [sI_1, sI_2, sJ_1, sJ_2, sA_1, sA_2, fa_lt, fa_le, fa_eq, nI_1, nI_sub1, nmx, bnd_e, bn1_e, btW_n, btW_s, btR_n, btR_s, btO_n, btO_s, outside_e, reqE_e, reqP_e, btO_i, btR_i, mIsPerson_e, mFail_e, chk, inb, Int32.reduceToInt, Nat.reduceEqDiff, ite_01, ite_10, eq_self, true_and, and_true, false_and, and_self, reduceIte, not_false_eq_true, not_true_eq_false, or_true, true_or, or_false, false_or, and_false, Int.reduceEq, Int.reduceLT, Int.reduceLE, Nat.reduceLT, Nat.reduceLeDiff, Nat.reduceAdd, Nat.reduceMul, mrg1, mrg2, mrg3, mrg4, h2, h4, en, eo, ev, eq, hr, mIsVac_e]
      ((repeat (first | rw [if_pos (by omega)] | rw [if_neg (by omega)])) <;> (try rfl))
  · refine Or.inl ⟨?_, ?_⟩
    · unfold fX_known
      simp only [sI_1, sI_2, sJ_1, sJ_2, sA_1, sA_2, fa_lt, fa_le, fa_eq, nI_1, nI_sub1, nmx, bnd_e, bn1_e, btW_n, btW_s, btR_n, btR_s, btO_n, btO_s, outside_e, reqE_e, reqP_e, btO_i, btR_i, mIsPerson_e, mFail_e, chk, inb, Int32.reduceToInt, Nat.reduceEqDiff, ite_01, ite_10, eq_self, true_and, and_true, false_and, and_self, reduceIte, not_false_eq_true, not_true_eq_false, or_true, true_or, or_false, false_or, and_false, Int.reduceEq, Int.reduceLT, Int.reduceLE, Nat.reduceLT, Nat.reduceLeDiff, Nat.reduceAdd, Nat.reduceMul, mrg1, mrg2, mrg3, mrg4, h1, h3, en, eo]
      ((repeat' split) <;> first | rfl | (exfalso; omega))
    · unfold fM_known fM_known_34
      simp only [sI_1, sI_2, sJ_1, sJ_2, sA_1, sA_2, fa_lt, fa_le, fa_eq, nI_1, nI_sub1, nmx, bnd_e, bn1_e, btW_n, btW_s, btR_n, btR_s, btO_n, btO_s, outside_e, reqE_e, reqP_e, btO_i, btR_i, mIsPerson_e, mFail_e, chk, inb, Int32.reduceToInt, Nat.reduceEqDiff, ite_01, ite_10, eq_self, true_and, and_true, false_and, and_self, reduceIte, not_false_eq_true, not_true_eq_false, or_true, true_or, or_false, false_or, and_false, Int.reduceEq, Int.reduceLT, Int.reduceLE, Nat.reduceLT, Nat.reduceLeDiff, Nat.reduceAdd, Nat.reduceMul, mrg1, mrg2, mrg3, mrg4, h2, h4, en, eo, mIsVac_e]
      ((repeat' split) <;> first | rfl | (exfalso; omega))
