/-! an offer answered -/
theorem e_answer {N : Nat} {σ μ : St} (hE : Eq1 σ μ) (hR : Rng μ) (a1 a2 : Int32) (hz : a2 = 0 ∨ a2 = 1) :
    (fX_answer N a1 a2 σ = some (none, σ) ∧ fM_answer N a1 a2 μ = some (0, sI (sI μ 204 0 0 0 0) 204 0 0 0 1)) ∨
    (fX_answer N a1 a2 σ = some (some (-1), σ) ∧ fM_answer N a1 a2 μ = some (-1, sI μ 204 0 0 0 0)) ∨
    (∃ m j n v p : Nat, m ≤ 60 ∧ j < m ∧ μ.1 317 0 0 0 = nI m ∧ a1 = nI j ∧ n < 160 ∧ μ.1 218 0 0 0 = nI n ∧ μ.1 326 0 0 j = nI v ∧ v < 24 ∧ μ.1 325 0 0 j = nI p ∧ p < 20 ∧ μ.1 328 0 0 j = 0 ∧
      ((a2 = 0 ∧
        fX_answer N a1 a2 σ = some (some (nI n), xTell (sI σ 106 0 0 j 2) n p 7 (nI j) (μ.1 205 0 0 0) (μ.1 205 0 0 0)) ∧
        fM_answer N a1 a2 μ = some (nI n, mNote (sI (sI μ 204 0 0 0 0) 328 0 0 j 2) n 7 (nI p) (nI j) (μ.1 205 0 0 0) (μ.1 205 0 0 0))) ∨
       (a2 = 1 ∧ μ.1 323 0 0 v = 0 ∧
        fX_answer N a1 a2 σ = some (some (nI n), xTell (sI (sI σ 106 0 0 j 1) 101 0 0 v 1) n p 1 (μ.1 320 0 0 v) (μ.1 205 0 0 0) (μ.1 205 0 0 0)) ∧
        fM_answer N a1 a2 μ = some (nI n, mNote (sI (sI (sI μ 204 0 0 0 0) 328 0 0 j 1) 323 0 0 v 1) n 1 (nI p) (μ.1 320 0 0 v) (μ.1 205 0 0 0) (μ.1 205 0 0 0))))) := by
  obtain ⟨m, h2, em, cm, -, hm⟩ := hR.n (g := 317) (lo := 0) (hi := 60) 0 (by decide) (by decide)
  obtain ⟨n, h4, en, cn, -, hn⟩ := hR.n (g := 218) (lo := 0) (hi := 160) 0 (by decide) (by decide)
  have h1 : σ.1 107 0 0 0 = nI m := (hE (107, 317) (by decide) 0).trans h2
  have h3 : σ.1 43 0 0 0 = nI n := (hE (43, 218) (by decide) 0).trans h4
  have h5 : σ.1 162 0 0 0 = μ.1 205 0 0 0 := hE (162, 205) (by decide) 0
  have z11 : (1 : Int32) &&& 1 = 1 := by decide
  have c160 : (nI n < 160) = (n < 160) := propext (nI_ltI (b := 160) (by omega) (by decide))
  have d160 : (nI n = 160) = (n = 160) := propext (nI_eq (b := 160) (by omega) (by decide))
  by_cases g : 0 ≤ a1.toInt ∧ a1.toInt < m
  · obtain ⟨j, rfl, ej, cj⟩ := argN g.1
    rw [ej] at g
    have hj : j < 60 := by omega
    obtain ⟨v, h6, ev, cv, -, hv⟩ := hR.n (g := 326) (lo := 0) (hi := 23) j (by decide) (by decide)
    have h7 : σ.1 104 0 0 j = nI v := (hE (104, 326) (by decide) j).trans h6
    obtain ⟨p, h8, ep, cp, -, hp⟩ := hR.n (g := 325) (lo := 0) (hi := 19) j (by decide) (by decide)
    have h9 : σ.1 103 0 0 j = nI p := (hE (103, 325) (by decide) j).trans h8
    have h10 : σ.1 106 0 0 j = μ.1 328 0 0 j := hE (106, 328) (by decide) j
    have h11 : σ.1 101 0 0 v = μ.1 323 0 0 v := hE (101, 323) (by decide) v
    have h12 : σ.1 98 0 0 v = μ.1 320 0 0 v := hE (98, 320) (by decide) v
    have eX : ∀ a2 : Int32, fX_answer N (nI j) a2 σ = if μ.1 328 0 0 j = 0 then (if n < 160 then (if a2 = 0 then fX_answer_66 N (nI j) a2 (nI v) σ else if μ.1 323 0 0 v = 0 then fX_answer_66 N (nI j) a2 (nI v) σ else some (some (-1), σ)) else some (some (-1), σ)) else some (some (-1), σ) := by
      intro a2
      unfold fX_answer
      rw [reqE_e, btR_i, if_neg (by rw [fa_lt, fa_le, h1, em, ej, Int32.toInt_zero]; omega), chk_t (inb_n hj (by decide)), cj, h7, nmx, h10, h3, chk_t (inb_n (by omega) (by decide)), cv, h11]
      simp only [c160]
    have eM : ∀ a2 : Int32, fM_answer N (nI j) a2 μ = if μ.1 328 0 0 j = 0 then (if a2 = 0 then fM_answer_51 N (nI j) a2 (nI v) (sI μ 204 0 0 0 0) else if μ.1 323 0 0 v = 0 then fM_answer_51 N (nI j) a2 (nI v) (sI μ 204 0 0 0 0) else some (-1, sI μ 204 0 0 0 0)) else some (-1, sI μ 204 0 0 0 0) := by
      intro a2
      unfold fM_answer
      rw [nmx, sI_o (by decide), sI_o (by decide), sI_o (by decide), h2, if_neg (nI_pos (by omega)), if_pos (nI_lt (by omega) (by omega)), chk_t (inb_n hj (by decide)), cj, h6, nmx, chk_t (inb_n (by omega) (by decide)), cv, sI_o (by decide)]
    rw [eX, eM]
    by_cases q0 : μ.1 328 0 0 j = 0
    · rw [if_pos q0, if_pos q0]
      have e160 : fM_answer_51 N (nI j) a2 (nI v) (sI μ 204 0 0 0 0) = if n = 160 then some (-1, sI μ 204 0 0 0 0) else (if a2 = 0 then fM_answer_77 N (nI j) a2 (nI v) (nI j) 2 (sI μ 204 0 0 0 0) else fM_answer_77 N (nI j) a2 (nI v) (nI j) 1 (sI μ 204 0 0 0 0)) := by
        unfold fM_answer_51
        rw [sI_o (by decide), h4]
        simp only [d160]
      by_cases q1 : n < 160
      · rw [if_pos q1]
        rcases hz with rfl | rfl
        · rw [if_pos rfl, if_pos rfl, e160, if_neg (by omega), if_pos rfl]
          refine Or.inr (Or.inr ⟨m, j, n, v, p, by omega, by omega, h2, rfl, q1, h4, h6, by omega, h8, by omega, q0, Or.inl ⟨rfl, ?_, ?_⟩⟩)
          · unfold fX_answer_66
            have t := e_tell (N := N) (σ := sI σ 106 0 0 j 2) 7 (nI j) (μ.1 205 0 0 0) (show (sI σ 106 0 0 j 2).1 43 0 0 0 = nI n from h3) en cn q1 ep cp (show p < 20 by omega)
            rw [show (sI σ 106 0 0 j 2).1 162 0 0 0 = μ.1 205 0 0 0 from h5] at t
            simp only [sI_1, sI_2, sJ_1, sJ_2, sA_1, sA_2, fa_lt, fa_le, fa_eq, nI_1, nI_sub1, nmx, bnd_e, bn1_e, btW_n, btW_s, btR_n, btR_s, btO_n, btO_s, outside_e, reqE_e, reqP_e, btO_i, btR_i, mIsPerson_e, mFail_e, chk, inb, Int32.reduceToInt, Nat.reduceEqDiff, ite_01, ite_10, eq_self, true_and, and_true, false_and, and_self, reduceIte, not_false_eq_true, not_true_eq_false, or_true, true_or, or_false, false_or, and_false, Int.reduceEq, Int.reduceLT, Int.reduceLE, Nat.reduceLT, Nat.reduceLeDiff, Nat.reduceAdd, Nat.reduceMul, mrg1, mrg2, mrg3, mrg4, ej, cj, h9, h5, t]
            ((repeat (first | rw [if_pos (by omega)] | rw [if_neg (by omega)])) <;> (try rfl))
          · unfold fM_answer_77 fM_answer_89
            have t := e_mnote (N := N) (μ := sI (sI μ 204 0 0 0 0) 328 0 0 j 2) 7 (nI p) (nI j) (μ.1 205 0 0 0) (show (sI (sI μ 204 0 0 0 0) 328 0 0 j 2).1 218 0 0 0 = nI n from h4) en cn q1
            rw [show (sI (sI μ 204 0 0 0 0) 328 0 0 j 2).1 205 0 0 0 = μ.1 205 0 0 0 from rfl] at t
            simp only [sI_1, sI_2, sJ_1, sJ_2, sA_1, sA_2, fa_lt, fa_le, fa_eq, nI_1, nI_sub1, nmx, bnd_e, bn1_e, btW_n, btW_s, btR_n, btR_s, btO_n, btO_s, outside_e, reqE_e, reqP_e, btO_i, btR_i, mIsPerson_e, mFail_e, chk, inb, Int32.reduceToInt, Nat.reduceEqDiff, ite_01, ite_10, eq_self, true_and, and_true, false_and, and_self, reduceIte, not_false_eq_true, not_true_eq_false, or_true, true_or, or_false, false_or, and_false, Int.reduceEq, Int.reduceLT, Int.reduceLE, Nat.reduceLT, Nat.reduceLeDiff, Nat.reduceAdd, Nat.reduceMul, mrg1, mrg2, mrg3, mrg4, ej, cj, h8, t]
            ((repeat (first | rw [if_pos (by omega)] | rw [if_neg (by omega)])) <;> (try rfl))
        · rw [if_neg (show ¬ (1 : Int32) = 0 by decide), if_neg (show ¬ (1 : Int32) = 0 by decide)]
          by_cases q2 : μ.1 323 0 0 v = 0
          · rw [if_pos q2, if_pos q2, e160, if_neg (by omega), if_neg (by decide)]
            refine Or.inr (Or.inr ⟨m, j, n, v, p, by omega, by omega, h2, rfl, q1, h4, h6, by omega, h8, by omega, q0, Or.inr ⟨rfl, q2, ?_, ?_⟩⟩)
            · unfold fX_answer_66
              have t := e_tell (N := N) (σ := sI (sI σ 106 0 0 j 1) 101 0 0 v 1) 1 (μ.1 320 0 0 v) (μ.1 205 0 0 0) (show (sI (sI σ 106 0 0 j 1) 101 0 0 v 1).1 43 0 0 0 = nI n from h3) en cn q1 ep cp (show p < 20 by omega)
              rw [show (sI (sI σ 106 0 0 j 1) 101 0 0 v 1).1 162 0 0 0 = μ.1 205 0 0 0 from h5] at t
              simp only [sI_1, sI_2, sJ_1, sJ_2, sA_1, sA_2, fa_lt, fa_le, fa_eq, nI_1, nI_sub1, nmx, bnd_e, bn1_e, btW_n, btW_s, btR_n, btR_s, btO_n, btO_s, outside_e, reqE_e, reqP_e, btO_i, btR_i, mIsPerson_e, mFail_e, chk, inb, Int32.reduceToInt, Nat.reduceEqDiff, ite_01, ite_10, eq_self, true_and, and_true, false_and, and_self, reduceIte, not_false_eq_true, not_true_eq_false, or_true, true_or, or_false, false_or, and_false, Int.reduceEq, Int.reduceLT, Int.reduceLE, Nat.reduceLT, Nat.reduceLeDiff, Nat.reduceAdd, Nat.reduceMul, mrg1, mrg2, mrg3, mrg4, ej, cj, ev, cv, h9, h12, h5, z11, t]
              ((repeat (first | rw [if_pos (by omega)] | rw [if_neg (by omega)])) <;> (try rfl))
            · unfold fM_answer_77 fM_answer_89
              have t := e_mnote (N := N) (μ := sI (sI (sI μ 204 0 0 0 0) 328 0 0 j 1) 323 0 0 v 1) 1 (nI p) (μ.1 320 0 0 v) (μ.1 205 0 0 0) (show (sI (sI (sI μ 204 0 0 0 0) 328 0 0 j 1) 323 0 0 v 1).1 218 0 0 0 = nI n from h4) en cn q1
              rw [show (sI (sI (sI μ 204 0 0 0 0) 328 0 0 j 1) 323 0 0 v 1).1 205 0 0 0 = μ.1 205 0 0 0 from rfl] at t
              simp only [sI_1, sI_2, sJ_1, sJ_2, sA_1, sA_2, fa_lt, fa_le, fa_eq, nI_1, nI_sub1, nmx, bnd_e, bn1_e, btW_n, btW_s, btR_n, btR_s, btO_n, btO_s, outside_e, reqE_e, reqP_e, btO_i, btR_i, mIsPerson_e, mFail_e, chk, inb, Int32.reduceToInt, Nat.reduceEqDiff, ite_01, ite_10, eq_self, true_and, and_true, false_and, and_self, reduceIte, not_false_eq_true, not_true_eq_false, or_true, true_or, or_false, false_or, and_false, Int.reduceEq, Int.reduceLT, Int.reduceLE, Nat.reduceLT, Nat.reduceLeDiff, Nat.reduceAdd, Nat.reduceMul, mrg1, mrg2, mrg3, mrg4, ej, cj, ev, cv, h8, z11, t]
              ((repeat (first | rw [if_pos (by omega)] | rw [if_neg (by omega)])) <;> (try rfl))
          · rw [if_neg q2, if_neg q2]
            exact Or.inr (Or.inl ⟨rfl, rfl⟩)
      · have n160 : n = 160 := by omega
        rw [if_neg q1, e160, if_pos n160]
        refine Or.inr (Or.inl ⟨rfl, ?_⟩)
        repeat' split
        all_goals rfl
    · rw [if_neg q0, if_neg q0]
      exact Or.inr (Or.inl ⟨rfl, rfl⟩)
  · refine Or.inl ⟨?_, ?_⟩
    · unfold fX_answer
      simp only [sI_1, sI_2, sJ_1, sJ_2, sA_1, sA_2, fa_lt, fa_le, fa_eq, nI_1, nI_sub1, nmx, bnd_e, bn1_e, btW_n, btW_s, btR_n, btR_s, btO_n, btO_s, outside_e, reqE_e, reqP_e, btO_i, btR_i, mIsPerson_e, mFail_e, chk, inb, Int32.reduceToInt, Nat.reduceEqDiff, ite_01, ite_10, eq_self, true_and, and_true, false_and, and_self, reduceIte, not_false_eq_true, not_true_eq_false, or_true, true_or, or_false, false_or, and_false, Int.reduceEq, Int.reduceLT, Int.reduceLE, Nat.reduceLT, Nat.reduceLeDiff, Nat.reduceAdd, Nat.reduceMul, mrg1, mrg2, mrg3, mrg4, h1, em]
      ((repeat (first | rw [if_pos (by omega)] | rw [if_neg (by omega)])) <;> (try rfl))
    · unfold fM_answer fM_answer_17
      simp only [sI_1, sI_2, sJ_1, sJ_2, sA_1, sA_2, fa_lt, fa_le, fa_eq, nI_1, nI_sub1, nmx, bnd_e, bn1_e, btW_n, btW_s, btR_n, btR_s, btO_n, btO_s, outside_e, reqE_e, reqP_e, btO_i, btR_i, mIsPerson_e, mFail_e, chk, inb, Int32.reduceToInt, Nat.reduceEqDiff, ite_01, ite_10, eq_self, true_and, and_true, false_and, and_self, reduceIte, not_false_eq_true, not_true_eq_false, or_true, true_or, or_false, false_or, and_false, Int.reduceEq, Int.reduceLT, Int.reduceLE, Nat.reduceLT, Nat.reduceLeDiff, Nat.reduceAdd, Nat.reduceMul, mrg1, mrg2, mrg3, mrg4, h2, em]
      ((repeat (first | rw [if_pos (by omega)] | rw [if_neg (by omega)])) <;> (try rfl))
