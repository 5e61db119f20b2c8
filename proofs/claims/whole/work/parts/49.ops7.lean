def xRow (σ : St) (r : Nat) (p y n t : Int32) : St := sI (sI (sI (sI σ 17 0 0 r p) 18 0 0 r y) 19 0 0 r n) 20 0 0 r t
def mRow (μ : St) (r : Nat) (p y n t : Int32) : St := sI (sI (sI (sI μ 220 0 0 r p) 221 0 0 r y) 222 0 0 r n) 223 0 0 r t
/-- what a page that isn't taken away writes -/
def xPage (σ : St) (r : Nat) (p y t : Int32) (L : Nat) : St := sI (sI (foldW 16 (xRow σ r p y (nI L) t) (52 * r) ((List.range' 0 L).map (fun q => clv (σ.1 110 0 0 q)))) 21 0 0 0 (nI (r + 1))) 111 0 0 0 0
def mPage (μ : St) (r : Nat) (p y t : Int32) (L : Nat) : St := sI (sI (sI (foldW 224 (mRow μ r p y (nI L) t) (52 * r) ((List.range' 0 L).map (fun q => stv (μ.1 246 0 0 q)))) 247 0 0 0 0) 216 0 0 0 (nI (r + 1))) 273 0 0 0 0
theorem e_addRow {N r : Nat} {σ : St} (p y t a : Int32) (hN : 60 ≤ N) (h1 : σ.1 21 0 0 0 = nI r) (hr : r < 60) : fBooks_addRow N p y a t σ = fBooks_addRow_44 N N a 0 (xRow σ r p y a t) := by
  have er := nI_toInt (n := r) (by omega)
  have cr := nI_clamp (n := r) (by omega)
  unfold fBooks_addRow xRow
  simp only [sI_1, sI_2, sJ_1, sJ_2, sA_1, sA_2, fa_lt, fa_le, fa_eq, nI_1, nI_sub1, nmx, bnd_e, bn1_e, btW_n, btW_s, btR_n, btR_s, btO_n, btO_s, outside_e, reqE_e, reqP_e, btO_i, btR_i, mIsPerson_e, mFail_e, chk, inb, Int32.reduceToInt, Nat.reduceEqDiff, ite_01, ite_10, eq_self, true_and, and_true, false_and, and_self, reduceIte, not_false_eq_true, not_true_eq_false, or_true, true_or, or_false, false_or, and_false, Int.reduceEq, Int.reduceLT, Int.reduceLE, Nat.reduceLT, Nat.reduceLeDiff, Nat.reduceAdd, Nat.reduceMul, mrg1, mrg2, mrg3, mrg4, h1, er, cr]
  ((repeat (first | rw [if_pos (by omega)] | rw [if_neg (by omega)])) <;> (try rfl))
theorem e_book {N : Nat} {σ μ : St} (hN : 60 ≤ N) (hE : Eq1 σ μ) (hR : Rng μ) (a1 a2 a3 : Int32) :
    (fX_book N a1 a2 a3 σ = some (none, σ) ∧ fM_book N a1 a2 a3 μ = some (0, sI (sI μ 204 0 0 0 0) 204 0 0 0 1)) ∨
    (fX_book N a1 a2 a3 σ = some (some 0, σ) ∧ fM_book N a1 a2 a3 μ = some (0, sI μ 204 0 0 0 0)) ∨
    (∃ r p j : Nat, r < 60 ∧ μ.1 216 0 0 0 = nI r ∧ μ.1 208 0 0 0 = nI p ∧ p ≤ 20 ∧ a1 = nI j ∧ j < p ∧ (0 ≤ a2.toInt ∧ a2.toInt ≤ 2) ∧
      ((a3 = -1 ∧
        fX_book N a1 a2 a3 σ = some (some 1, sI (sI (xRow σ r (nI j) a2 a3 (μ.1 205 0 0 0)) 21 0 0 0 (nI (r + 1))) 53 0 0 j (σ.1 53 0 0 j + 1)) ∧
        fM_book N a1 a2 a3 μ = some (1, sI (sI (mRow (sI μ 204 0 0 0 0) r (nI j) a2 a3 (μ.1 205 0 0 0)) 216 0 0 0 (nI (r + 1))) 273 0 0 0 0)) ∨
       (∃ L s : Nat, L ≤ 52 ∧ a3 = nI L ∧ L ≤ s ∧ s ≤ 600 ∧ μ.1 247 0 0 0 = nI s ∧
        fX_book N a1 a2 a3 σ = some (some 1, sI (xPage σ r (nI j) a2 (μ.1 205 0 0 0) L) 53 0 0 j (σ.1 53 0 0 j + 1)) ∧
        fM_book N a1 a2 a3 μ = some (1, mPage (sI μ 204 0 0 0 0) r (nI j) a2 (μ.1 205 0 0 0) L)))) := by
  obtain ⟨r, h2, er, cr, -, hr⟩ := hR.n (g := 216) (lo := 0) (hi := 60) 0 (by decide) (by decide)
  obtain ⟨p, h4, ep, cp, -, hp⟩ := hR.n (g := 208) (lo := 0) (hi := 20) 0 (by decide) (by decide)
  obtain ⟨s, h6, es, cs, -, hs⟩ := hR.n (g := 247) (lo := 0) (hi := 600) 0 (by decide) (by decide)
  have h1 : σ.1 21 0 0 0 = nI r := (hE (21, 216) (by decide) 0).trans h2
  have h3 : σ.1 52 0 0 0 = nI p := (hE (52, 208) (by decide) 0).trans h4
  have h7 : σ.1 111 0 0 0 = nI s := (hE (111, 247) (by decide) 0).trans h6
  have h5 : σ.1 162 0 0 0 = μ.1 205 0 0 0 := hE (162, 205) (by decide) 0
  by_cases g : 0 ≤ a1.toInt ∧ a1.toInt < p
  · obtain ⟨j, rfl, ej, cj⟩ := argN g.1
    rw [ej] at g
    by_cases h : r < 60 ∧ (0 ≤ a2.toInt ∧ a2.toInt ≤ 2) ∧ -1 ≤ a3.toInt ∧ a3.toInt ≤ 52 ∧ a3.toInt ≤ s
    · refine Or.inr (Or.inr ⟨r, p, j, h.1, h2, h4, by omega, rfl, by omega, h.2.1, ?_⟩)
      by_cases hm : a3.toInt = -1
      · obtain rfl : a3 = -1 := (fa_eq _ _).mpr hm
        refine Or.inl ⟨rfl, ?_, ?_⟩
        · have t := e_note (N := N) (σ := sI (xRow σ r (nI j) a2 (-1) (μ.1 205 0 0 0)) 21 0 0 0 (nI (r + 1))) ej cj (show j < 20 by omega)
          have u : fBooks_addRow N (nI j) a2 (-1) (μ.1 205 0 0 0) σ = some (sI (xRow σ r (nI j) a2 (-1) (μ.1 205 0 0 0)) 21 0 0 0 (nI (r + 1))) := by
            rw [e_addRow (nI j) a2 _ (-1) hN h1 h.1]
            obtain ⟨n, rfl⟩ : ∃ n, N = n + 1 := ⟨N - 1, by omega⟩
            show (if (-1 : Int32) ≤ 0 then fBooks_addRow_94 _ _ else _) = _
            rw [if_pos (by decide)]
            unfold fBooks_addRow_94
            rw [nmx, show (xRow σ r (nI j) a2 (-1) (μ.1 205 0 0 0)).1 21 0 0 0 = nI r from h1, nI_1]
          unfold fX_book fX_book_84
          simp only [sI_1, sI_2, sJ_1, sJ_2, sA_1, sA_2, fa_lt, fa_le, fa_eq, nI_1, nI_sub1, nmx, bnd_e, bn1_e, btW_n, btW_s, btR_n, btR_s, btO_n, btO_s, outside_e, reqE_e, reqP_e, btO_i, btR_i, mIsPerson_e, mFail_e, chk, inb, Int32.reduceToInt, Nat.reduceEqDiff, ite_01, ite_10, eq_self, true_and, and_true, false_and, and_self, reduceIte, not_false_eq_true, not_true_eq_false, or_true, true_or, or_false, false_or, and_false, Int.reduceEq, Int.reduceLT, Int.reduceLE, Nat.reduceLT, Nat.reduceLeDiff, Nat.reduceAdd, Nat.reduceMul, mrg1, mrg2, mrg3, mrg4, h1, h3, h5, h7, er, ep, es, ej, u, t]
          ((repeat (first | rw [if_pos (by omega)] | rw [if_neg (by omega)])) <;> (try rfl))
        · have u : fM_book_105 N N (-1) 0 (mRow (sI μ 204 0 0 0 0) r (nI j) a2 (-1) (μ.1 205 0 0 0)) = some (1, sI (sI (mRow (sI μ 204 0 0 0 0) r (nI j) a2 (-1) (μ.1 205 0 0 0)) 216 0 0 0 (nI (r + 1))) 273 0 0 0 0) := by
            obtain ⟨n, rfl⟩ : ∃ n, N = n + 1 := ⟨N - 1, by omega⟩
            show (if (-1 : Int32) ≤ 0 then (if (-1 : Int32) = -1 then fM_book_174 _ _ else _) else _) = _
            rw [if_pos (by decide), if_pos rfl]
            unfold fM_book_174
            rw [nmx, nmx, show (mRow (sI μ 204 0 0 0 0) r (nI j) a2 (-1) (μ.1 205 0 0 0)).1 216 0 0 0 = nI r from h2, nI_1]
          unfold mRow at u ⊢
          unfold fM_book
          simp only [sI_1, sI_2, sJ_1, sJ_2, sA_1, sA_2, fa_lt, fa_le, fa_eq, nI_1, nI_sub1, nmx, bnd_e, bn1_e, btW_n, btW_s, btR_n, btR_s, btO_n, btO_s, outside_e, reqE_e, reqP_e, btO_i, btR_i, mIsPerson_e, mFail_e, chk, inb, Int32.reduceToInt, Nat.reduceEqDiff, ite_01, ite_10, eq_self, true_and, and_true, false_and, and_self, reduceIte, not_false_eq_true, not_true_eq_false, or_true, true_or, or_false, false_or, and_false, Int.reduceEq, Int.reduceLT, Int.reduceLE, Nat.reduceLT, Nat.reduceLeDiff, Nat.reduceAdd, Nat.reduceMul, mrg1, mrg2, mrg3, mrg4, h2, h4, h6, er, cr, ep, es, ej]
          rw [if_neg (by omega), if_neg (by omega), if_pos (by omega)]
          exact u
      · obtain ⟨L, rfl, eL, cL⟩ := argN (x := a3) (by omega)
        rw [eL] at h
        refine Or.inr ⟨L, s, by omega, rfl, by omega, by omega, h6, ?_, ?_⟩
        · have u := (e_addRow (nI j) a2 (μ.1 205 0 0 0) (nI L) hN h1 h.1).trans (rowX_all (N := N) (r := r) (L := L) h.1 (by omega) L 0 N (xRow σ r (nI j) a2 (nI L) (μ.1 205 0 0 0)) (by omega) (by omega) h1)
          have t := e_note (N := N) (σ := xPage σ r (nI j) a2 (μ.1 205 0 0 0) L) ej cj (show j < 20 by omega)
          have tc : (xPage σ r (nI j) a2 (μ.1 205 0 0 0) L).1 53 0 0 j = σ.1 53 0 0 j := by
            unfold xPage
            rw [sI_o (by decide), sI_o (by decide), foldW_o _ _ _ (by decide)]
            rfl
          rw [tc] at t
          unfold fX_book fX_book_84 fReader_clear
          simp only [sI_1, sI_2, sJ_1, sJ_2, sA_1, sA_2, fa_lt, fa_le, fa_eq, nI_1, nI_sub1, nmx, bnd_e, bn1_e, btW_n, btW_s, btR_n, btR_s, btO_n, btO_s, outside_e, reqE_e, reqP_e, btO_i, btR_i, mIsPerson_e, mFail_e, chk, inb, Int32.reduceToInt, Nat.reduceEqDiff, ite_01, ite_10, eq_self, true_and, and_true, false_and, and_self, reduceIte, not_false_eq_true, not_true_eq_false, or_true, true_or, or_false, false_or, and_false, Int.reduceEq, Int.reduceLT, Int.reduceLE, Nat.reduceLT, Nat.reduceLeDiff, Nat.reduceAdd, Nat.reduceMul, mrg1, mrg2, mrg3, mrg4, h1, h3, h5, h7, er, ep, es, ej, eL, u]
          rw [if_neg (by omega), if_pos (by omega), if_neg (by omega)]
          unfold xPage at t ⊢
          exact (congrArg (fun z => bn1 z fun σ1 => some (some 1, σ1)) t).trans rfl
        · have u := rowM_all (N := N) (r := r) (L := L) h.1 (by omega) L 0 N (mRow (sI μ 204 0 0 0 0) r (nI j) a2 (nI L) (μ.1 205 0 0 0)) (by omega) (by omega) h2
          unfold fM_book
          simp only [sI_1, sI_2, sJ_1, sJ_2, sA_1, sA_2, fa_lt, fa_le, fa_eq, nI_1, nI_sub1, nmx, bnd_e, bn1_e, btW_n, btW_s, btR_n, btR_s, btO_n, btO_s, outside_e, reqE_e, reqP_e, btO_i, btR_i, mIsPerson_e, mFail_e, chk, inb, Int32.reduceToInt, Nat.reduceEqDiff, ite_01, ite_10, eq_self, true_and, and_true, false_and, and_self, reduceIte, not_false_eq_true, not_true_eq_false, or_true, true_or, or_false, false_or, and_false, Int.reduceEq, Int.reduceLT, Int.reduceLE, Nat.reduceLT, Nat.reduceLeDiff, Nat.reduceAdd, Nat.reduceMul, mrg1, mrg2, mrg3, mrg4, h2, h4, h6, er, cr, ep, es, ej, eL]
          rw [if_neg (by omega), if_neg (by omega), if_pos (by omega)]
          exact u
    · refine Or.inr (Or.inl ⟨?_, ?_⟩)
      · unfold fX_book
        simp only [sI_1, sI_2, sJ_1, sJ_2, sA_1, sA_2, fa_lt, fa_le, fa_eq, nI_1, nI_sub1, nmx, bnd_e, bn1_e, btW_n, btW_s, btR_n, btR_s, btO_n, btO_s, outside_e, reqE_e, reqP_e, btO_i, btR_i, mIsPerson_e, mFail_e, chk, inb, Int32.reduceToInt, Nat.reduceEqDiff, ite_01, ite_10, eq_self, true_and, and_true, false_and, and_self, reduceIte, not_false_eq_true, not_true_eq_false, or_true, true_or, or_false, false_or, and_false, Int.reduceEq, Int.reduceLT, Int.reduceLE, Nat.reduceLT, Nat.reduceLeDiff, Nat.reduceAdd, Nat.reduceMul, mrg1, mrg2, mrg3, mrg4, h1, h3, h5, h7, er, ep, es, ej]
        ((repeat (first | rw [if_pos (by omega)] | rw [if_neg (by omega)])) <;> (try rfl))
      · unfold fM_book
        simp only [sI_1, sI_2, sJ_1, sJ_2, sA_1, sA_2, fa_lt, fa_le, fa_eq, nI_1, nI_sub1, nmx, bnd_e, bn1_e, btW_n, btW_s, btR_n, btR_s, btO_n, btO_s, outside_e, reqE_e, reqP_e, btO_i, btR_i, mIsPerson_e, mFail_e, chk, inb, Int32.reduceToInt, Nat.reduceEqDiff, ite_01, ite_10, eq_self, true_and, and_true, false_and, and_self, reduceIte, not_false_eq_true, not_true_eq_false, or_true, true_or, or_false, false_or, and_false, Int.reduceEq, Int.reduceLT, Int.reduceLE, Nat.reduceLT, Nat.reduceLeDiff, Nat.reduceAdd, Nat.reduceMul, mrg1, mrg2, mrg3, mrg4, h2, h4, h6, er, cr, ep, es, ej]
        ((repeat (first | rw [if_pos (by omega)] | rw [if_neg (by omega)])) <;> (try rfl))
  · refine Or.inl ⟨?_, ?_⟩
    · unfold fX_book
      simp only [sI_1, sI_2, sJ_1, sJ_2, sA_1, sA_2, fa_lt, fa_le, fa_eq, nI_1, nI_sub1, nmx, bnd_e, bn1_e, btW_n, btW_s, btR_n, btR_s, btO_n, btO_s, outside_e, reqE_e, reqP_e, btO_i, btR_i, mIsPerson_e, mFail_e, chk, inb, Int32.reduceToInt, Nat.reduceEqDiff, ite_01, ite_10, eq_self, true_and, and_true, false_and, and_self, reduceIte, not_false_eq_true, not_true_eq_false, or_true, true_or, or_false, false_or, and_false, Int.reduceEq, Int.reduceLT, Int.reduceLE, Nat.reduceLT, Nat.reduceLeDiff, Nat.reduceAdd, Nat.reduceMul, mrg1, mrg2, mrg3, mrg4, h1, h3, ep]
      ((repeat (first | rw [if_pos (by omega)] | rw [if_neg (by omega)])) <;> (try rfl))
    · unfold fM_book
      simp only [sI_1, sI_2, sJ_1, sJ_2, sA_1, sA_2, fa_lt, fa_le, fa_eq, nI_1, nI_sub1, nmx, bnd_e, bn1_e, btW_n, btW_s, btR_n, btR_s, btO_n, btO_s, outside_e, reqE_e, reqP_e, btO_i, btR_i, mIsPerson_e, mFail_e, chk, inb, Int32.reduceToInt, Nat.reduceEqDiff, ite_01, ite_10, eq_self, true_and, and_true, false_and, and_self, reduceIte, not_false_eq_true, not_true_eq_false, or_true, true_or, or_false, false_or, and_false, Int.reduceEq, Int.reduceLT, Int.reduceLE, Nat.reduceLT, Nat.reduceLeDiff, Nat.reduceAdd, Nat.reduceMul, mrg1, mrg2, mrg3, mrg4, h2, h4, ep]
      ((repeat (first | rw [if_pos (by omega)] | rw [if_neg (by omega)])) <;> (try rfl))
