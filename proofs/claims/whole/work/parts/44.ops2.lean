/-! events told, taken back; the day looked at -/
def xAdd (σ : St) (n : Nat) (k p v d t : Int32) : St := sI (sI (sI (sI (sI (sI (sI σ 37 0 0 n k) 38 0 0 n p) 39 0 0 n v) 40 0 0 n d) 41 0 0 n t) 42 0 0 n (-1)) 43 0 0 0 (nI (n + 1))
def xTell (σ : St) (n j : Nat) (k v d t : Int32) : St := xAdd (sI σ 53 0 0 j (σ.1 53 0 0 j + 1)) n k (nI j) v d t
def mNote (μ : St) (n : Nat) (k p v d t : Int32) : St := sI (sI (sI (sI (sI (sI (sI (sI μ 229 0 0 n k) 230 0 0 n p) 231 0 0 n v) 232 0 0 n d) 233 0 0 n t) 234 0 0 n (-1)) 218 0 0 0 (nI (n + 1))) 273 0 0 0 0
theorem e_add {N n : Nat} {σ : St} (k p v d t : Int32) (h1 : σ.1 43 0 0 0 = nI n) (en : (nI n).toInt = (n : Int)) (cn : (nI n).toNatClampNeg = n) (hn : n < 160) : fEvents_add N k p v d t σ = some (nI n, xAdd σ n k p v d t) := by
  unfold fEvents_add xAdd
  simp only [sI_1, sI_2, sJ_1, sJ_2, sA_1, sA_2, fa_lt, fa_le, fa_eq, nI_1, nI_sub1, nmx, bnd_e, bn1_e, btW_n, btW_s, btR_n, btR_s, btO_n, btO_s, outside_e, reqE_e, reqP_e, btO_i, btR_i, mIsPerson_e, mFail_e, chk, inb, Int32.reduceToInt, Nat.reduceEqDiff, ite_01, ite_10, eq_self, true_and, and_true, false_and, and_self, reduceIte, not_false_eq_true, not_true_eq_false, or_true, true_or, or_false, false_or, and_false, Int.reduceEq, Int.reduceLT, Int.reduceLE, Nat.reduceLT, Nat.reduceLeDiff, Nat.reduceAdd, Nat.reduceMul, mrg1, mrg2, mrg3, mrg4, h1, en, cn]
  ((repeat (first | rw [if_pos (by omega)] | rw [if_neg (by omega)])) <;> (try rfl))
theorem e_tell {N n j : Nat} {σ : St} (k v d : Int32) (h1 : σ.1 43 0 0 0 = nI n) (en : (nI n).toInt = (n : Int)) (cn : (nI n).toNatClampNeg = n) (hn : n < 160) (ej : (nI j).toInt = (j : Int)) (cj : (nI j).toNatClampNeg = j) (hj : j < 20) : fX_tell N k (nI j) v d σ = some (nI n, xTell σ n j k v d (σ.1 162 0 0 0)) := by
  unfold fX_tell xTell
  rw [e_note (N := N) ej cj hj, bn1_e, e_add (n := n) k (nI j) v d _ (by rw [sI_o (by decide)]; exact h1) en cn hn, bnd_e]
  rw [sI_o (by decide)]
theorem e_mnote {N n : Nat} {μ : St} (k p v d : Int32) (h1 : μ.1 218 0 0 0 = nI n) (en : (nI n).toInt = (n : Int)) (cn : (nI n).toNatClampNeg = n) (hn : n < 160) : fM_note N k p v d μ = some (nI n, mNote μ n k p v d (μ.1 205 0 0 0)) := by
  unfold fM_note mNote
  simp only [sI_1, sI_2, sJ_1, sJ_2, sA_1, sA_2, fa_lt, fa_le, fa_eq, nI_1, nI_sub1, nmx, bnd_e, bn1_e, btW_n, btW_s, btR_n, btR_s, btO_n, btO_s, outside_e, reqE_e, reqP_e, btO_i, btR_i, mIsPerson_e, mFail_e, chk, inb, Int32.reduceToInt, Nat.reduceEqDiff, ite_01, ite_10, eq_self, true_and, and_true, false_and, and_self, reduceIte, not_false_eq_true, not_true_eq_false, or_true, true_or, or_false, false_or, and_false, Int.reduceEq, Int.reduceLT, Int.reduceLE, Nat.reduceLT, Nat.reduceLeDiff, Nat.reduceAdd, Nat.reduceMul, mrg1, mrg2, mrg3, mrg4, h1, en, cn]
  ((repeat (first | rw [if_pos (by omega)] | rw [if_neg (by omega)])) <;> (try rfl))
def nOk (k : Nat) (v : Int) : Prop := (k = 0 ∧ 0 ≤ v ∧ v ≤ 3) ∨ (k = 1 ∧ 1 ≤ v ∧ v ≤ 999) ∨ (k = 5 ∧ 0 ≤ v ∧ v ≤ 9999) ∨ (k = 6 ∧ 1 ≤ v ∧ v ≤ 6) ∨ ((k = 2 ∨ k = 3 ∨ k = 4) ∧ v = 0)
theorem e_num (N : Nat) {k : Nat} (hk : k ≤ 6) (v : Int32) (σ μ : St) : ∃ lo hi : Int32, fEvents_leastNumber N (nI k) σ = some lo ∧ fEvents_mostNumber N (nI k) σ = some hi ∧ (v < lo ∨ hi < v ↔ ¬ nOk k v.toInt) ∧ ∃ r : Int32, fM_isNumber N (nI k) v μ = some r ∧ (r.toInt = 0 ↔ ¬ nOk k v.toInt) := by
  have hc : k = 0 ∨ k = 1 ∨ k = 2 ∨ k = 3 ∨ k = 4 ∨ k = 5 ∨ k = 6 := by omega
  rcases hc with rfl | rfl | rfl | rfl | rfl | rfl | rfl
  · refine ⟨0, 3, rfl, rfl, ?_, ?_⟩
    · rw [fa_lt, fa_lt]
      simp only [sI_1, sI_2, sJ_1, sJ_2, sA_1, sA_2, fa_lt, fa_le, fa_eq, nI_1, nI_sub1, nmx, bnd_e, bn1_e, btW_n, btW_s, btR_n, btR_s, btO_n, btO_s, outside_e, reqE_e, reqP_e, btO_i, btR_i, mIsPerson_e, mFail_e, chk, inb, Int32.reduceToInt, Nat.reduceEqDiff, ite_01, ite_10, eq_self, true_and, and_true, false_and, and_self, reduceIte, not_false_eq_true, not_true_eq_false, or_true, true_or, or_false, false_or, and_false, Int.reduceEq, Int.reduceLT, Int.reduceLE, Nat.reduceLT, Nat.reduceLeDiff, Nat.reduceAdd, Nat.reduceMul, mrg1, mrg2, mrg3, mrg4]
      unfold nOk
      omega
    · refine ⟨if v.toInt < 0 ∨ 3 < v.toInt then 0 else 1, ?_, ?_⟩
      · have ek : (nI 0).toInt = ((0 : Nat) : Int) := nI_toInt (by decide)
        unfold fM_isNumber
        simp only [sI_1, sI_2, sJ_1, sJ_2, sA_1, sA_2, fa_lt, fa_le, fa_eq, nI_1, nI_sub1, nmx, bnd_e, bn1_e, btW_n, btW_s, btR_n, btR_s, btO_n, btO_s, outside_e, reqE_e, reqP_e, btO_i, btR_i, mIsPerson_e, mFail_e, chk, inb, Int32.reduceToInt, Nat.reduceEqDiff, ite_01, ite_10, eq_self, true_and, and_true, false_and, and_self, reduceIte, not_false_eq_true, not_true_eq_false, or_true, true_or, or_false, false_or, and_false, Int.reduceEq, Int.reduceLT, Int.reduceLE, Nat.reduceLT, Nat.reduceLeDiff, Nat.reduceAdd, Nat.reduceMul, mrg1, mrg2, mrg3, mrg4, ek]
        by_cases h : v.toInt < 0 ∨ 3 < v.toInt
        · ((repeat (first | rw [if_pos (by omega)] | rw [if_neg (by omega)])) <;> (try rfl))
        · ((repeat (first | rw [if_pos (by omega)] | rw [if_neg (by omega)])) <;> (try rfl))
      · rw [ite_10]
        unfold nOk
        omega
  · refine ⟨1, 999, rfl, rfl, ?_, ?_⟩
    · rw [fa_lt, fa_lt]
      simp only [sI_1, sI_2, sJ_1, sJ_2, sA_1, sA_2, fa_lt, fa_le, fa_eq, nI_1, nI_sub1, nmx, bnd_e, bn1_e, btW_n, btW_s, btR_n, btR_s, btO_n, btO_s, outside_e, reqE_e, reqP_e, btO_i, btR_i, mIsPerson_e, mFail_e, chk, inb, Int32.reduceToInt, Nat.reduceEqDiff, ite_01, ite_10, eq_self, true_and, and_true, false_and, and_self, reduceIte, not_false_eq_true, not_true_eq_false, or_true, true_or, or_false, false_or, and_false, Int.reduceEq, Int.reduceLT, Int.reduceLE, Nat.reduceLT, Nat.reduceLeDiff, Nat.reduceAdd, Nat.reduceMul, mrg1, mrg2, mrg3, mrg4]
      unfold nOk
      omega
    · refine ⟨if v.toInt < 1 ∨ 999 < v.toInt then 0 else 1, ?_, ?_⟩
      · have ek : (nI 1).toInt = ((1 : Nat) : Int) := nI_toInt (by decide)
        unfold fM_isNumber
        simp only [sI_1, sI_2, sJ_1, sJ_2, sA_1, sA_2, fa_lt, fa_le, fa_eq, nI_1, nI_sub1, nmx, bnd_e, bn1_e, btW_n, btW_s, btR_n, btR_s, btO_n, btO_s, outside_e, reqE_e, reqP_e, btO_i, btR_i, mIsPerson_e, mFail_e, chk, inb, Int32.reduceToInt, Nat.reduceEqDiff, ite_01, ite_10, eq_self, true_and, and_true, false_and, and_self, reduceIte, not_false_eq_true, not_true_eq_false, or_true, true_or, or_false, false_or, and_false, Int.reduceEq, Int.reduceLT, Int.reduceLE, Nat.reduceLT, Nat.reduceLeDiff, Nat.reduceAdd, Nat.reduceMul, mrg1, mrg2, mrg3, mrg4, ek]
        by_cases h : v.toInt < 1 ∨ 999 < v.toInt
        · ((repeat (first | rw [if_pos (by omega)] | rw [if_neg (by omega)])) <;> (try rfl))
        · ((repeat (first | rw [if_pos (by omega)] | rw [if_neg (by omega)])) <;> (try rfl))
      · rw [ite_10]
        unfold nOk
        omega
  · refine ⟨0, 0, rfl, rfl, ?_, ?_⟩
    · rw [fa_lt, fa_lt]
      simp only [sI_1, sI_2, sJ_1, sJ_2, sA_1, sA_2, fa_lt, fa_le, fa_eq, nI_1, nI_sub1, nmx, bnd_e, bn1_e, btW_n, btW_s, btR_n, btR_s, btO_n, btO_s, outside_e, reqE_e, reqP_e, btO_i, btR_i, mIsPerson_e, mFail_e, chk, inb, Int32.reduceToInt, Nat.reduceEqDiff, ite_01, ite_10, eq_self, true_and, and_true, false_and, and_self, reduceIte, not_false_eq_true, not_true_eq_false, or_true, true_or, or_false, false_or, and_false, Int.reduceEq, Int.reduceLT, Int.reduceLE, Nat.reduceLT, Nat.reduceLeDiff, Nat.reduceAdd, Nat.reduceMul, mrg1, mrg2, mrg3, mrg4]
      unfold nOk
      omega
    · refine ⟨if v.toInt < 0 ∨ 0 < v.toInt then 0 else 1, ?_, ?_⟩
      · have ek : (nI 2).toInt = ((2 : Nat) : Int) := nI_toInt (by decide)
        unfold fM_isNumber
        simp only [sI_1, sI_2, sJ_1, sJ_2, sA_1, sA_2, fa_lt, fa_le, fa_eq, nI_1, nI_sub1, nmx, bnd_e, bn1_e, btW_n, btW_s, btR_n, btR_s, btO_n, btO_s, outside_e, reqE_e, reqP_e, btO_i, btR_i, mIsPerson_e, mFail_e, chk, inb, Int32.reduceToInt, Nat.reduceEqDiff, ite_01, ite_10, eq_self, true_and, and_true, false_and, and_self, reduceIte, not_false_eq_true, not_true_eq_false, or_true, true_or, or_false, false_or, and_false, Int.reduceEq, Int.reduceLT, Int.reduceLE, Nat.reduceLT, Nat.reduceLeDiff, Nat.reduceAdd, Nat.reduceMul, mrg1, mrg2, mrg3, mrg4, ek]
        by_cases h : v.toInt < 0 ∨ 0 < v.toInt
        · ((repeat (first | rw [if_pos (by omega)] | rw [if_neg (by omega)])) <;> (try rfl))
        · ((repeat (first | rw [if_pos (by omega)] | rw [if_neg (by omega)])) <;> (try rfl))
      · rw [ite_10]
        unfold nOk
        omega
  · refine ⟨0, 0, rfl, rfl, ?_, ?_⟩
    · rw [fa_lt, fa_lt]
      simp only [sI_1, sI_2, sJ_1, sJ_2, sA_1, sA_2, fa_lt, fa_le, fa_eq, nI_1, nI_sub1, nmx, bnd_e, bn1_e, btW_n, btW_s, btR_n, btR_s, btO_n, btO_s, outside_e, reqE_e, reqP_e, btO_i, btR_i, mIsPerson_e, mFail_e, chk, inb, Int32.reduceToInt, Nat.reduceEqDiff, ite_01, ite_10, eq_self, true_and, and_true, false_and, and_self, reduceIte, not_false_eq_true, not_true_eq_false, or_true, true_or, or_false, false_or, and_false, Int.reduceEq, Int.reduceLT, Int.reduceLE, Nat.reduceLT, Nat.reduceLeDiff, Nat.reduceAdd, Nat.reduceMul, mrg1, mrg2, mrg3, mrg4]
      unfold nOk
      omega
    · refine ⟨if v.toInt < 0 ∨ 0 < v.toInt then 0 else 1, ?_, ?_⟩
      · have ek : (nI 3).toInt = ((3 : Nat) : Int) := nI_toInt (by decide)
        unfold fM_isNumber
        simp only [sI_1, sI_2, sJ_1, sJ_2, sA_1, sA_2, fa_lt, fa_le, fa_eq, nI_1, nI_sub1, nmx, bnd_e, bn1_e, btW_n, btW_s, btR_n, btR_s, btO_n, btO_s, outside_e, reqE_e, reqP_e, btO_i, btR_i, mIsPerson_e, mFail_e, chk, inb, Int32.reduceToInt, Nat.reduceEqDiff, ite_01, ite_10, eq_self, true_and, and_true, false_and, and_self, reduceIte, not_false_eq_true, not_true_eq_false, or_true, true_or, or_false, false_or, and_false, Int.reduceEq, Int.reduceLT, Int.reduceLE, Nat.reduceLT, Nat.reduceLeDiff, Nat.reduceAdd, Nat.reduceMul, mrg1, mrg2, mrg3, mrg4, ek]
        by_cases h : v.toInt < 0 ∨ 0 < v.toInt
        · ((repeat (first | rw [if_pos (by omega)] | rw [if_neg (by omega)])) <;> (try rfl))
        · ((repeat (first | rw [if_pos (by omega)] | rw [if_neg (by omega)])) <;> (try rfl))
      · rw [ite_10]
        unfold nOk
        omega
  · refine ⟨0, 0, rfl, rfl, ?_, ?_⟩
    · rw [fa_lt, fa_lt]
      simp only [sI_1, sI_2, sJ_1, sJ_2, sA_1, sA_2, fa_lt, fa_le, fa_eq, nI_1, nI_sub1, nmx, bnd_e, bn1_e, btW_n, btW_s, btR_n, btR_s, btO_n, btO_s, outside_e, reqE_e, reqP_e, btO_i, btR_i, mIsPerson_e, mFail_e, chk, inb, Int32.reduceToInt, Nat.reduceEqDiff, ite_01, ite_10, eq_self, true_and, and_true, false_and, and_self, reduceIte, not_false_eq_true, not_true_eq_false, or_true, true_or, or_false, false_or, and_false, Int.reduceEq, Int.reduceLT, Int.reduceLE, Nat.reduceLT, Nat.reduceLeDiff, Nat.reduceAdd, Nat.reduceMul, mrg1, mrg2, mrg3, mrg4]
      unfold nOk
      omega
    · refine ⟨if v.toInt < 0 ∨ 0 < v.toInt then 0 else 1, ?_, ?_⟩
      · have ek : (nI 4).toInt = ((4 : Nat) : Int) := nI_toInt (by decide)
        unfold fM_isNumber
        simp only [sI_1, sI_2, sJ_1, sJ_2, sA_1, sA_2, fa_lt, fa_le, fa_eq, nI_1, nI_sub1, nmx, bnd_e, bn1_e, btW_n, btW_s, btR_n, btR_s, btO_n, btO_s, outside_e, reqE_e, reqP_e, btO_i, btR_i, mIsPerson_e, mFail_e, chk, inb, Int32.reduceToInt, Nat.reduceEqDiff, ite_01, ite_10, eq_self, true_and, and_true, false_and, and_self, reduceIte, not_false_eq_true, not_true_eq_false, or_true, true_or, or_false, false_or, and_false, Int.reduceEq, Int.reduceLT, Int.reduceLE, Nat.reduceLT, Nat.reduceLeDiff, Nat.reduceAdd, Nat.reduceMul, mrg1, mrg2, mrg3, mrg4, ek]
        by_cases h : v.toInt < 0 ∨ 0 < v.toInt
        · ((repeat (first | rw [if_pos (by omega)] | rw [if_neg (by omega)])) <;> (try rfl))
        · ((repeat (first | rw [if_pos (by omega)] | rw [if_neg (by omega)])) <;> (try rfl))
      · rw [ite_10]
        unfold nOk
        omega
  · refine ⟨0, 9999, rfl, rfl, ?_, ?_⟩
    · rw [fa_lt, fa_lt]
      simp only [sI_1, sI_2, sJ_1, sJ_2, sA_1, sA_2, fa_lt, fa_le, fa_eq, nI_1, nI_sub1, nmx, bnd_e, bn1_e, btW_n, btW_s, btR_n, btR_s, btO_n, btO_s, outside_e, reqE_e, reqP_e, btO_i, btR_i, mIsPerson_e, mFail_e, chk, inb, Int32.reduceToInt, Nat.reduceEqDiff, ite_01, ite_10, eq_self, true_and, and_true, false_and, and_self, reduceIte, not_false_eq_true, not_true_eq_false, or_true, true_or, or_false, false_or, and_false, Int.reduceEq, Int.reduceLT, Int.reduceLE, Nat.reduceLT, Nat.reduceLeDiff, Nat.reduceAdd, Nat.reduceMul, mrg1, mrg2, mrg3, mrg4]
      unfold nOk
      omega
    · refine ⟨if v.toInt < 0 ∨ 9999 < v.toInt then 0 else 1, ?_, ?_⟩
      · have ek : (nI 5).toInt = ((5 : Nat) : Int) := nI_toInt (by decide)
        unfold fM_isNumber
        simp only [sI_1, sI_2, sJ_1, sJ_2, sA_1, sA_2, fa_lt, fa_le, fa_eq, nI_1, nI_sub1, nmx, bnd_e, bn1_e, btW_n, btW_s, btR_n, btR_s, btO_n, btO_s, outside_e, reqE_e, reqP_e, btO_i, btR_i, mIsPerson_e, mFail_e, chk, inb, Int32.reduceToInt, Nat.reduceEqDiff, ite_01, ite_10, eq_self, true_and, and_true, false_and, and_self, reduceIte, not_false_eq_true, not_true_eq_false, or_true, true_or, or_false, false_or, and_false, Int.reduceEq, Int.reduceLT, Int.reduceLE, Nat.reduceLT, Nat.reduceLeDiff, Nat.reduceAdd, Nat.reduceMul, mrg1, mrg2, mrg3, mrg4, ek]
        by_cases h : v.toInt < 0 ∨ 9999 < v.toInt
        · ((repeat (first | rw [if_pos (by omega)] | rw [if_neg (by omega)])) <;> (try rfl))
        · ((repeat (first | rw [if_pos (by omega)] | rw [if_neg (by omega)])) <;> (try rfl))
      · rw [ite_10]
        unfold nOk
        omega
  · refine ⟨1, 6, rfl, rfl, ?_, ?_⟩
    · rw [fa_lt, fa_lt]
      simp only [sI_1, sI_2, sJ_1, sJ_2, sA_1, sA_2, fa_lt, fa_le, fa_eq, nI_1, nI_sub1, nmx, bnd_e, bn1_e, btW_n, btW_s, btR_n, btR_s, btO_n, btO_s, outside_e, reqE_e, reqP_e, btO_i, btR_i, mIsPerson_e, mFail_e, chk, inb, Int32.reduceToInt, Nat.reduceEqDiff, ite_01, ite_10, eq_self, true_and, and_true, false_and, and_self, reduceIte, not_false_eq_true, not_true_eq_false, or_true, true_or, or_false, false_or, and_false, Int.reduceEq, Int.reduceLT, Int.reduceLE, Nat.reduceLT, Nat.reduceLeDiff, Nat.reduceAdd, Nat.reduceMul, mrg1, mrg2, mrg3, mrg4]
      unfold nOk
      omega
    · refine ⟨if v.toInt < 1 ∨ 6 < v.toInt then 0 else 1, ?_, ?_⟩
      · have ek : (nI 6).toInt = ((6 : Nat) : Int) := nI_toInt (by decide)
        unfold fM_isNumber
        simp only [sI_1, sI_2, sJ_1, sJ_2, sA_1, sA_2, fa_lt, fa_le, fa_eq, nI_1, nI_sub1, nmx, bnd_e, bn1_e, btW_n, btW_s, btR_n, btR_s, btO_n, btO_s, outside_e, reqE_e, reqP_e, btO_i, btR_i, mIsPerson_e, mFail_e, chk, inb, Int32.reduceToInt, Nat.reduceEqDiff, ite_01, ite_10, eq_self, true_and, and_true, false_and, and_self, reduceIte, not_false_eq_true, not_true_eq_false, or_true, true_or, or_false, false_or, and_false, Int.reduceEq, Int.reduceLT, Int.reduceLE, Nat.reduceLT, Nat.reduceLeDiff, Nat.reduceAdd, Nat.reduceMul, mrg1, mrg2, mrg3, mrg4, ek]
        by_cases h : v.toInt < 1 ∨ 6 < v.toInt
        · ((repeat (first | rw [if_pos (by omega)] | rw [if_neg (by omega)])) <;> (try rfl))
        · ((repeat (first | rw [if_pos (by omega)] | rw [if_neg (by omega)])) <;> (try rfl))
      · rw [ite_10]
        unfold nOk
        omega
theorem e_event {N : Nat} {σ μ : St} (hE : Eq1 σ μ) (hR : Rng μ) (a1 a2 a3 a4 : Int32) :
    (fX_event N a1 a2 a3 a4 σ = some (none, σ) ∧ fM_event N a1 a2 a3 a4 μ = some (0, sI (sI μ 204 0 0 0 0) 204 0 0 0 1)) ∨
    (fX_event N a1 a2 a3 a4 σ = some (some (-1), σ) ∧ fM_event N a1 a2 a3 a4 μ = some (-1, sI μ 204 0 0 0 0)) ∨
    (∃ n p j k : Nat, n < 160 ∧ μ.1 218 0 0 0 = nI n ∧ μ.1 208 0 0 0 = nI p ∧ p ≤ 20 ∧ j < p ∧ k ≤ 6 ∧ a2 = nI j ∧ a1 = nI k ∧ nOk k a3.toInt ∧ 312 ≤ a4.toInt ∧ a4.toInt ≤ (μ.1 205 0 0 0).toInt ∧
      fX_event N a1 a2 a3 a4 σ = some (some (nI n), xTell σ n j a1 a3 a4 (μ.1 205 0 0 0)) ∧
      fM_event N a1 a2 a3 a4 μ = some (nI n, mNote (sI μ 204 0 0 0 0) n a1 (nI j) a3 a4 (μ.1 205 0 0 0))) := by
  obtain ⟨n, h2, en, cn, -, hn⟩ := hR.n (g := 218) (lo := 0) (hi := 160) 0 (by decide) (by decide)
  obtain ⟨p, h4, ep, cp, -, hp⟩ := hR.n (g := 208) (lo := 0) (hi := 20) 0 (by decide) (by decide)
  have h1 : σ.1 43 0 0 0 = nI n := (hE (43, 218) (by decide) 0).trans h2
  have h3 : σ.1 52 0 0 0 = nI p := (hE (52, 208) (by decide) 0).trans h4
  have h5 : σ.1 162 0 0 0 = μ.1 205 0 0 0 := hE (162, 205) (by decide) 0
  by_cases g : 0 ≤ a2.toInt ∧ a2.toInt < p ∧ 0 ≤ a1.toInt ∧ a1.toInt ≤ 6
  · obtain ⟨j, rfl, ej, cj⟩ := argN g.1
    obtain ⟨k, rfl, ek, ck⟩ := argN g.2.2.1
    rw [ej, ek] at g
    obtain ⟨lo, hi, l1, l2, l3, r, l4, l5⟩ := e_num N (show k ≤ 6 by omega) a3 σ (sI μ 204 0 0 0 0)
    rw [fa_lt, fa_lt] at l3
    by_cases h : n < 160 ∧ nOk k a3.toInt ∧ 312 ≤ a4.toInt ∧ a4.toInt ≤ (μ.1 205 0 0 0).toInt
    · obtain ⟨g1, g2, g3, g4⟩ := h
      have l3' : ¬ (a3.toInt < lo.toInt ∨ hi.toInt < a3.toInt) := fun z => l3.mp z g2
      have l5' : ¬ r.toInt = 0 := fun z => l5.mp z g2
      refine Or.inr (Or.inr ⟨n, p, j, k, g1, h2, h4, by omega, by omega, by omega, rfl, rfl, g2, g3, g4, ?_, ?_⟩)
      · unfold fX_event
        simp only [sI_1, sI_2, sJ_1, sJ_2, sA_1, sA_2, fa_lt, fa_le, fa_eq, nI_1, nI_sub1, nmx, bnd_e, bn1_e, btW_n, btW_s, btR_n, btR_s, btO_n, btO_s, outside_e, reqE_e, reqP_e, btO_i, btR_i, mIsPerson_e, mFail_e, chk, inb, Int32.reduceToInt, Nat.reduceEqDiff, ite_01, ite_10, eq_self, true_and, and_true, false_and, and_self, reduceIte, not_false_eq_true, not_true_eq_false, or_true, true_or, or_false, false_or, and_false, Int.reduceEq, Int.reduceLT, Int.reduceLE, Nat.reduceLT, Nat.reduceLeDiff, Nat.reduceAdd, Nat.reduceMul, mrg1, mrg2, mrg3, mrg4, h1, h3, en, ep, ej, ek, h5, l1, l2, e_tell (N := N) (nI k) a3 a4 h1 en cn g1 ej cj (show j < 20 by omega)]
        ((repeat (first | rw [if_pos (by omega)] | rw [if_neg (by omega)])) <;> (try rfl))
      · unfold fM_event
        rw [nmx]
        simp only [sI_1, sI_2, sJ_1, sJ_2, sA_1, sA_2, fa_lt, fa_le, fa_eq, nI_1, nI_sub1, nmx, bnd_e, bn1_e, btW_n, btW_s, btR_n, btR_s, btO_n, btO_s, outside_e, reqE_e, reqP_e, btO_i, btR_i, mIsPerson_e, mFail_e, chk, inb, Int32.reduceToInt, Nat.reduceEqDiff, ite_01, ite_10, eq_self, true_and, and_true, false_and, and_self, reduceIte, not_false_eq_true, not_true_eq_false, or_true, true_or, or_false, false_or, and_false, Int.reduceEq, Int.reduceLT, Int.reduceLE, Nat.reduceLT, Nat.reduceLeDiff, Nat.reduceAdd, Nat.reduceMul, mrg1, mrg2, mrg3, mrg4, h2, h4, en, ep, ej, ek, l4, e_mnote (N := N) (μ := sI μ 204 0 0 0 0) (nI k) (nI j) a3 a4 (show (sI μ 204 0 0 0 0).1 218 0 0 0 = nI n from h2) en cn g1]
        ((repeat (first | rw [if_pos (by omega)] | rw [if_neg (by omega)])) <;> (try rfl))
    · by_cases g2 : nOk k a3.toInt
      · have h' : ¬ (n < 160 ∧ 312 ≤ a4.toInt ∧ a4.toInt ≤ (μ.1 205 0 0 0).toInt) := fun z => h ⟨z.1, g2, z.2.1, z.2.2⟩
        have l3' : ¬ (a3.toInt < lo.toInt ∨ hi.toInt < a3.toInt) := fun z => l3.mp z g2
        have l5' : ¬ r.toInt = 0 := fun z => l5.mp z g2
        refine Or.inr (Or.inl ⟨?_, ?_⟩)
        · unfold fX_event
          simp only [sI_1, sI_2, sJ_1, sJ_2, sA_1, sA_2, fa_lt, fa_le, fa_eq, nI_1, nI_sub1, nmx, bnd_e, bn1_e, btW_n, btW_s, btR_n, btR_s, btO_n, btO_s, outside_e, reqE_e, reqP_e, btO_i, btR_i, mIsPerson_e, mFail_e, chk, inb, Int32.reduceToInt, Nat.reduceEqDiff, ite_01, ite_10, eq_self, true_and, and_true, false_and, and_self, reduceIte, not_false_eq_true, not_true_eq_false, or_true, true_or, or_false, false_or, and_false, Int.reduceEq, Int.reduceLT, Int.reduceLE, Nat.reduceLT, Nat.reduceLeDiff, Nat.reduceAdd, Nat.reduceMul, mrg1, mrg2, mrg3, mrg4, h1, h3, en, ep, ej, ek, h5, l1, l2]
          ((repeat (first | rw [if_pos (by omega)] | rw [if_neg (by omega)])) <;> (try rfl))
        · unfold fM_event fM_event_63
          rw [nmx]
          simp only [sI_1, sI_2, sJ_1, sJ_2, sA_1, sA_2, fa_lt, fa_le, fa_eq, nI_1, nI_sub1, nmx, bnd_e, bn1_e, btW_n, btW_s, btR_n, btR_s, btO_n, btO_s, outside_e, reqE_e, reqP_e, btO_i, btR_i, mIsPerson_e, mFail_e, chk, inb, Int32.reduceToInt, Nat.reduceEqDiff, ite_01, ite_10, eq_self, true_and, and_true, false_and, and_self, reduceIte, not_false_eq_true, not_true_eq_false, or_true, true_or, or_false, false_or, and_false, Int.reduceEq, Int.reduceLT, Int.reduceLE, Nat.reduceLT, Nat.reduceLeDiff, Nat.reduceAdd, Nat.reduceMul, mrg1, mrg2, mrg3, mrg4, h2, h4, en, ep, ej, ek, l4]
          ((repeat (first | rw [if_pos (by omega)] | rw [if_neg (by omega)])) <;> (try rfl))
      · have l3' := l3.mpr g2
        have l5' := l5.mpr g2
        refine Or.inr (Or.inl ⟨?_, ?_⟩)
        · unfold fX_event
          simp only [sI_1, sI_2, sJ_1, sJ_2, sA_1, sA_2, fa_lt, fa_le, fa_eq, nI_1, nI_sub1, nmx, bnd_e, bn1_e, btW_n, btW_s, btR_n, btR_s, btO_n, btO_s, outside_e, reqE_e, reqP_e, btO_i, btR_i, mIsPerson_e, mFail_e, chk, inb, Int32.reduceToInt, Nat.reduceEqDiff, ite_01, ite_10, eq_self, true_and, and_true, false_and, and_self, reduceIte, not_false_eq_true, not_true_eq_false, or_true, true_or, or_false, false_or, and_false, Int.reduceEq, Int.reduceLT, Int.reduceLE, Nat.reduceLT, Nat.reduceLeDiff, Nat.reduceAdd, Nat.reduceMul, mrg1, mrg2, mrg3, mrg4, h1, h3, en, ep, ej, ek, h5, l1, l2]
          ((repeat (first | rw [if_pos (by omega)] | rw [if_neg (by omega)])) <;> (try rfl))
        · unfold fM_event fM_event_63
          rw [nmx]
          simp only [sI_1, sI_2, sJ_1, sJ_2, sA_1, sA_2, fa_lt, fa_le, fa_eq, nI_1, nI_sub1, nmx, bnd_e, bn1_e, btW_n, btW_s, btR_n, btR_s, btO_n, btO_s, outside_e, reqE_e, reqP_e, btO_i, btR_i, mIsPerson_e, mFail_e, chk, inb, Int32.reduceToInt, Nat.reduceEqDiff, ite_01, ite_10, eq_self, true_and, and_true, false_and, and_self, reduceIte, not_false_eq_true, not_true_eq_false, or_true, true_or, or_false, false_or, and_false, Int.reduceEq, Int.reduceLT, Int.reduceLE, Nat.reduceLT, Nat.reduceLeDiff, Nat.reduceAdd, Nat.reduceMul, mrg1, mrg2, mrg3, mrg4, h2, h4, en, ep, ej, ek, l4]
          ((repeat (first | rw [if_pos (by omega)] | rw [if_neg (by omega)])) <;> (try rfl))
  · refine Or.inl ⟨?_, ?_⟩
    · unfold fX_event
      simp only [sI_1, sI_2, sJ_1, sJ_2, sA_1, sA_2, fa_lt, fa_le, fa_eq, nI_1, nI_sub1, nmx, bnd_e, bn1_e, btW_n, btW_s, btR_n, btR_s, btO_n, btO_s, outside_e, reqE_e, reqP_e, btO_i, btR_i, mIsPerson_e, mFail_e, chk, inb, Int32.reduceToInt, Nat.reduceEqDiff, ite_01, ite_10, eq_self, true_and, and_true, false_and, and_self, reduceIte, not_false_eq_true, not_true_eq_false, or_true, true_or, or_false, false_or, and_false, Int.reduceEq, Int.reduceLT, Int.reduceLE, Nat.reduceLT, Nat.reduceLeDiff, Nat.reduceAdd, Nat.reduceMul, mrg1, mrg2, mrg3, mrg4, h1, h3, en, ep, h5]
      ((repeat (first | rw [if_pos (by omega)] | rw [if_neg (by omega)])) <;> (try rfl))
    · unfold fM_event fM_event_23
      simp only [sI_1, sI_2, sJ_1, sJ_2, sA_1, sA_2, fa_lt, fa_le, fa_eq, nI_1, nI_sub1, nmx, bnd_e, bn1_e, btW_n, btW_s, btR_n, btR_s, btO_n, btO_s, outside_e, reqE_e, reqP_e, btO_i, btR_i, mIsPerson_e, mFail_e, chk, inb, Int32.reduceToInt, Nat.reduceEqDiff, ite_01, ite_10, eq_self, true_and, and_true, false_and, and_self, reduceIte, not_false_eq_true, not_true_eq_false, or_true, true_or, or_false, false_or, and_false, Int.reduceEq, Int.reduceLT, Int.reduceLE, Nat.reduceLT, Nat.reduceLeDiff, Nat.reduceAdd, Nat.reduceMul, mrg1, mrg2, mrg3, mrg4, h2, h4, en, ep]
      ((repeat (first | rw [if_pos (by omega)] | rw [if_neg (by omega)])) <;> (try rfl))
theorem e_back {N : Nat} {σ μ : St} (hE : Eq1 σ μ) (hR : Rng μ) (a1 : Int32) :
    (fX_back N a1 σ = some (none, σ) ∧ fM_back N a1 μ = some (0, sI (sI μ 204 0 0 0 0) 204 0 0 0 1)) ∨
    (fX_back N a1 σ = some (some 0, σ) ∧ fM_back N a1 μ = some (0, sI μ 204 0 0 0 0)) ∨
    (∃ n j p : Nat, n ≤ 160 ∧ μ.1 218 0 0 0 = nI n ∧ j < n ∧ a1 = nI j ∧ μ.1 234 0 0 j = -1 ∧ μ.1 230 0 0 j = nI p ∧ p < 20 ∧
      fX_back N a1 σ = some (some 1, sI (sI σ 42 0 0 j (μ.1 205 0 0 0)) 53 0 0 p (σ.1 53 0 0 p + 1)) ∧
      fM_back N a1 μ = some (1, sI (sI (sI μ 204 0 0 0 0) 234 0 0 j (μ.1 205 0 0 0)) 273 0 0 0 0)) := by
  obtain ⟨n, h2, en, cn, -, hn⟩ := hR.n (g := 218) (lo := 0) (hi := 160) 0 (by decide) (by decide)
  have h1 : σ.1 43 0 0 0 = nI n := (hE (43, 218) (by decide) 0).trans h2
  have h5 : σ.1 162 0 0 0 = μ.1 205 0 0 0 := hE (162, 205) (by decide) 0
  by_cases g : 0 ≤ a1.toInt ∧ a1.toInt < n
  · obtain ⟨j, rfl, ej, cj⟩ := argN g.1
    rw [ej] at g
    have h6 : σ.1 42 0 0 j = μ.1 234 0 0 j := hE (42, 234) (by decide) j
    obtain ⟨p, h7, ep, cp, -, hp⟩ := hR.n (g := 230) (lo := 0) (hi := 19) j (by decide) (by decide)
    have h8 : σ.1 38 0 0 j = nI p := (hE (38, 230) (by decide) j).trans h7
    by_cases h : μ.1 234 0 0 j = -1
    · have h' := (fa_eq _ _).mp h
      refine Or.inr (Or.inr ⟨n, j, p, by omega, h2, by omega, rfl, h, h7, by omega, ?_, ?_⟩)
      · unfold fX_back
        simp only [sI_1, sI_2, sJ_1, sJ_2, sA_1, sA_2, fa_lt, fa_le, fa_eq, nI_1, nI_sub1, nmx, bnd_e, bn1_e, btW_n, btW_s, btR_n, btR_s, btO_n, btO_s, outside_e, reqE_e, reqP_e, btO_i, btR_i, mIsPerson_e, mFail_e, chk, inb, Int32.reduceToInt, Nat.reduceEqDiff, ite_01, ite_10, eq_self, true_and, and_true, false_and, and_self, reduceIte, not_false_eq_true, not_true_eq_false, or_true, true_or, or_false, false_or, and_false, Int.reduceEq, Int.reduceLT, Int.reduceLE, Nat.reduceLT, Nat.reduceLeDiff, Nat.reduceAdd, Nat.reduceMul, mrg1, mrg2, mrg3, mrg4, h1, en, ej, cj, h5, h6, h8, h', e_note (N := N) (σ := sI σ 42 0 0 j (μ.1 205 0 0 0)) ep cp (show p < 20 by omega)]
        ((repeat (first | rw [if_pos (by omega)] | rw [if_neg (by omega)])) <;> (try rfl))
      · unfold fM_back
        simp only [sI_1, sI_2, sJ_1, sJ_2, sA_1, sA_2, fa_lt, fa_le, fa_eq, nI_1, nI_sub1, nmx, bnd_e, bn1_e, btW_n, btW_s, btR_n, btR_s, btO_n, btO_s, outside_e, reqE_e, reqP_e, btO_i, btR_i, mIsPerson_e, mFail_e, chk, inb, Int32.reduceToInt, Nat.reduceEqDiff, ite_01, ite_10, eq_self, true_and, and_true, false_and, and_self, reduceIte, not_false_eq_true, not_true_eq_false, or_true, true_or, or_false, false_or, and_false, Int.reduceEq, Int.reduceLT, Int.reduceLE, Nat.reduceLT, Nat.reduceLeDiff, Nat.reduceAdd, Nat.reduceMul, mrg1, mrg2, mrg3, mrg4, h2, en, ej, cj, h']
        ((repeat (first | rw [if_pos (by omega)] | rw [if_neg (by omega)])) <;> (try rfl))
    · have h' : ¬ (μ.1 234 0 0 j).toInt = (-1 : Int32).toInt := fun z => h ((fa_eq _ _).mpr z)
      have h' : ¬ (μ.1 234 0 0 j).toInt = -1 := h'
      refine Or.inr (Or.inl ⟨?_, ?_⟩)
      · unfold fX_back
        simp only [sI_1, sI_2, sJ_1, sJ_2, sA_1, sA_2, fa_lt, fa_le, fa_eq, nI_1, nI_sub1, nmx, bnd_e, bn1_e, btW_n, btW_s, btR_n, btR_s, btO_n, btO_s, outside_e, reqE_e, reqP_e, btO_i, btR_i, mIsPerson_e, mFail_e, chk, inb, Int32.reduceToInt, Nat.reduceEqDiff, ite_01, ite_10, eq_self, true_and, and_true, false_and, and_self, reduceIte, not_false_eq_true, not_true_eq_false, or_true, true_or, or_false, false_or, and_false, Int.reduceEq, Int.reduceLT, Int.reduceLE, Nat.reduceLT, Nat.reduceLeDiff, Nat.reduceAdd, Nat.reduceMul, mrg1, mrg2, mrg3, mrg4, h1, en, ej, cj, h5, h6, h8]
        ((repeat (first | rw [if_pos (by omega)] | rw [if_neg (by omega)])) <;> (try rfl))
      · unfold fM_back
        simp only [sI_1, sI_2, sJ_1, sJ_2, sA_1, sA_2, fa_lt, fa_le, fa_eq, nI_1, nI_sub1, nmx, bnd_e, bn1_e, btW_n, btW_s, btR_n, btR_s, btO_n, btO_s, outside_e, reqE_e, reqP_e, btO_i, btR_i, mIsPerson_e, mFail_e, chk, inb, Int32.reduceToInt, Nat.reduceEqDiff, ite_01, ite_10, eq_self, true_and, and_true, false_and, and_self, reduceIte, not_false_eq_true, not_true_eq_false, or_true, true_or, or_false, false_or, and_false, Int.reduceEq, Int.reduceLT, Int.reduceLE, Nat.reduceLT, Nat.reduceLeDiff, Nat.reduceAdd, Nat.reduceMul, mrg1, mrg2, mrg3, mrg4, h2, en, ej, cj]
        ((repeat (first | rw [if_pos (by omega)] | rw [if_neg (by omega)])) <;> (try rfl))
  · refine Or.inl ⟨?_, ?_⟩
    · unfold fX_back
      simp only [sI_1, sI_2, sJ_1, sJ_2, sA_1, sA_2, fa_lt, fa_le, fa_eq, nI_1, nI_sub1, nmx, bnd_e, bn1_e, btW_n, btW_s, btR_n, btR_s, btO_n, btO_s, outside_e, reqE_e, reqP_e, btO_i, btR_i, mIsPerson_e, mFail_e, chk, inb, Int32.reduceToInt, Nat.reduceEqDiff, ite_01, ite_10, eq_self, true_and, and_true, false_and, and_self, reduceIte, not_false_eq_true, not_true_eq_false, or_true, true_or, or_false, false_or, and_false, Int.reduceEq, Int.reduceLT, Int.reduceLE, Nat.reduceLT, Nat.reduceLeDiff, Nat.reduceAdd, Nat.reduceMul, mrg1, mrg2, mrg3, mrg4, h1, en]
      ((repeat (first | rw [if_pos (by omega)] | rw [if_neg (by omega)])) <;> (try rfl))
    · unfold fM_back fM_back_17
      simp only [sI_1, sI_2, sJ_1, sJ_2, sA_1, sA_2, fa_lt, fa_le, fa_eq, nI_1, nI_sub1, nmx, bnd_e, bn1_e, btW_n, btW_s, btR_n, btR_s, btO_n, btO_s, outside_e, reqE_e, reqP_e, btO_i, btR_i, mIsPerson_e, mFail_e, chk, inb, Int32.reduceToInt, Nat.reduceEqDiff, ite_01, ite_10, eq_self, true_and, and_true, false_and, and_self, reduceIte, not_false_eq_true, not_true_eq_false, or_true, true_or, or_false, false_or, and_false, Int.reduceEq, Int.reduceLT, Int.reduceLE, Nat.reduceLT, Nat.reduceLeDiff, Nat.reduceAdd, Nat.reduceMul, mrg1, mrg2, mrg3, mrg4, h2, en]
      ((repeat (first | rw [if_pos (by omega)] | rw [if_neg (by omega)])) <;> (try rfl))
theorem e_look {N : Nat} {σ μ : St} (hE : Eq1 σ μ) (a1 : Int32) :
    (fX_look N a1 σ = some (none, σ) ∧ fM_look N a1 μ = some (0, sI (sI μ 204 0 0 0 0) 204 0 0 0 1)) ∨
    ((a1.toInt = -1 ∨ 312 ≤ a1.toInt ∧ a1.toInt ≤ (μ.1 205 0 0 0).toInt) ∧
      fX_look N a1 σ = some (some (μ.1 206 0 0 0), sI σ 163 0 0 0 a1) ∧ fM_look N a1 μ = some (μ.1 206 0 0 0, sI (sI μ 204 0 0 0 0) 206 0 0 0 a1)) := by
  have h5 : σ.1 162 0 0 0 = μ.1 205 0 0 0 := hE (162, 205) (by decide) 0
  have h6 : σ.1 163 0 0 0 = μ.1 206 0 0 0 := hE (163, 206) (by decide) 0
  by_cases g : a1.toInt = -1 ∨ 312 ≤ a1.toInt ∧ a1.toInt ≤ (μ.1 205 0 0 0).toInt
  · refine Or.inr ⟨g, ?_, ?_⟩
    · unfold fX_look fX_look_27
      simp only [sI_1, sI_2, sJ_1, sJ_2, sA_1, sA_2, fa_lt, fa_le, fa_eq, nI_1, nI_sub1, nmx, bnd_e, bn1_e, btW_n, btW_s, btR_n, btR_s, btO_n, btO_s, outside_e, reqE_e, reqP_e, btO_i, btR_i, mIsPerson_e, mFail_e, chk, inb, Int32.reduceToInt, Nat.reduceEqDiff, ite_01, ite_10, eq_self, true_and, and_true, false_and, and_self, reduceIte, not_false_eq_true, not_true_eq_false, or_true, true_or, or_false, false_or, and_false, Int.reduceEq, Int.reduceLT, Int.reduceLE, Nat.reduceLT, Nat.reduceLeDiff, Nat.reduceAdd, Nat.reduceMul, mrg1, mrg2, mrg3, mrg4, h5, h6]
      ((repeat (first | rw [if_pos (by omega)] | rw [if_neg (by omega)])) <;> (try rfl))
    · unfold fM_look fM_look_30
      simp only [sI_1, sI_2, sJ_1, sJ_2, sA_1, sA_2, fa_lt, fa_le, fa_eq, nI_1, nI_sub1, nmx, bnd_e, bn1_e, btW_n, btW_s, btR_n, btR_s, btO_n, btO_s, outside_e, reqE_e, reqP_e, btO_i, btR_i, mIsPerson_e, mFail_e, chk, inb, Int32.reduceToInt, Nat.reduceEqDiff, ite_01, ite_10, eq_self, true_and, and_true, false_and, and_self, reduceIte, not_false_eq_true, not_true_eq_false, or_true, true_or, or_false, false_or, and_false, Int.reduceEq, Int.reduceLT, Int.reduceLE, Nat.reduceLT, Nat.reduceLeDiff, Nat.reduceAdd, Nat.reduceMul, mrg1, mrg2, mrg3, mrg4]
      ((repeat (first | rw [if_pos (by omega)] | rw [if_neg (by omega)])) <;> (try rfl))
  · refine Or.inl ⟨?_, ?_⟩
    · unfold fX_look fX_look_27
      simp only [sI_1, sI_2, sJ_1, sJ_2, sA_1, sA_2, fa_lt, fa_le, fa_eq, nI_1, nI_sub1, nmx, bnd_e, bn1_e, btW_n, btW_s, btR_n, btR_s, btO_n, btO_s, outside_e, reqE_e, reqP_e, btO_i, btR_i, mIsPerson_e, mFail_e, chk, inb, Int32.reduceToInt, Nat.reduceEqDiff, ite_01, ite_10, eq_self, true_and, and_true, false_and, and_self, reduceIte, not_false_eq_true, not_true_eq_false, or_true, true_or, or_false, false_or, and_false, Int.reduceEq, Int.reduceLT, Int.reduceLE, Nat.reduceLT, Nat.reduceLeDiff, Nat.reduceAdd, Nat.reduceMul, mrg1, mrg2, mrg3, mrg4, h5, h6]
      ((repeat (first | rw [if_pos (by omega)] | rw [if_neg (by omega)])) <;> (try rfl))
    · unfold fM_look fM_look_25 fM_look_30
      simp only [sI_1, sI_2, sJ_1, sJ_2, sA_1, sA_2, fa_lt, fa_le, fa_eq, nI_1, nI_sub1, nmx, bnd_e, bn1_e, btW_n, btW_s, btR_n, btR_s, btO_n, btO_s, outside_e, reqE_e, reqP_e, btO_i, btR_i, mIsPerson_e, mFail_e, chk, inb, Int32.reduceToInt, Nat.reduceEqDiff, ite_01, ite_10, eq_self, true_and, and_true, false_and, and_self, reduceIte, not_false_eq_true, not_true_eq_false, or_true, true_or, or_false, false_or, and_false, Int.reduceEq, Int.reduceLT, Int.reduceLE, Nat.reduceLT, Nat.reduceLeDiff, Nat.reduceAdd, Nat.reduceMul, mrg1, mrg2, mrg3, mrg4]
      ((repeat (first | rw [if_pos (by omega)] | rw [if_neg (by omega)])) <;> (try rfl))
