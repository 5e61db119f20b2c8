/-! counts, and what a try gave -/
def opn (μ : St) : Nat → Nat → Nat
  | _, 0 => 0
  | i, d + 1 => (if μ.1 323 0 0 i = 0 then 1 else 0) + opn μ (i + 1) d
theorem opn_le (μ : St) : ∀ (d i : Nat), opn μ i d ≤ d
  | 0, _ => Nat.le_refl 0
  | d + 1, i => by
    have := opn_le μ d (i + 1)
    unfold opn
    split <;> omega
theorem opn_X {N V : Nat} {σ μ : St} (hE : Eq1 σ μ) (h1 : σ.1 102 0 0 0 = nI V) (hV : V ≤ 24) : ∀ (d i n k : Nat), i + d = V → d < n → k ≤ i → fMarket_openVacancies_4 N n (nI k) (nI i) σ = some (nI (k + opn μ i d)) := by
  intro d
  induction d with
  | zero =>
    intro i n k hi hn hk
    obtain ⟨n, rfl⟩ : ∃ m, n = m + 1 := ⟨n - 1, by omega⟩
    show (if σ.1 102 0 0 0 ≤ nI i then _ else _) = _
    rw [h1, if_pos (nI_le (by omega) (by omega))]
    rfl
  | succ d ih =>
    intro i n k hi hn hk
    obtain ⟨n, rfl⟩ : ∃ m, n = m + 1 := ⟨n - 1, by omega⟩
    have hf : σ.1 101 0 0 i = μ.1 323 0 0 i := hE (101, 323) (by decide) i
    show (if σ.1 102 0 0 0 ≤ nI i then _ else chk (inb (nI i) 24) (if σ.1 101 0 0 (nI i).toNatClampNeg = 0 then nm (nI k + 1) (fun y1 => fMarket_openVacancies_4 N n y1 (nI i + 1) σ) else nm (nI k + 0) (fun y1 => fMarket_openVacancies_4 N n y1 (nI i + 1) σ))) = _
    rw [h1, if_neg (nI_ge (by omega) (by omega)), chk_t (inb_n (by omega) (by decide)), nI_clamp (by omega), hf, nmx, nmx, nI_1, nI_1, show nI k + 0 = nI (k + 0) from nI_add k 0]
    unfold opn
    by_cases q : μ.1 323 0 0 i = 0
    · rw [if_pos q, if_pos q, ih (i + 1) n (k + 1) (by omega) (by omega) (by omega)]
      congr 2
      omega
    · rw [if_neg q, if_neg q, ih (i + 1) n (k + 0) (by omega) (by omega) (by omega)]
      congr 2
      omega
theorem cnt_M {N V : Nat} {μ : St} {x1 : Int32} {R : Option (Int32 × St)} (h1 : μ.1 316 0 0 0 = nI V) (hV : V ≤ 24) : ∀ (d i n k : Nat), i + d = V → d < n → k ≤ i → (∀ n, fM_count_9 N (n + 1) x1 (nI (k + opn μ i d)) (nI V) μ = R) → fM_count_9 N n x1 (nI k) (nI i) μ = R := by
  intro d
  induction d with
  | zero =>
    intro i n k hi hn hk hR
    obtain ⟨n, rfl⟩ : ∃ m, n = m + 1 := ⟨n - 1, by omega⟩
    obtain rfl : i = V := by omega
    exact hR n
  | succ d ih =>
    intro i n k hi hn hk hR
    obtain ⟨n, rfl⟩ : ∃ m, n = m + 1 := ⟨n - 1, by omega⟩
    show (if μ.1 316 0 0 0 ≤ nI i then _ else chk (inb (nI i) 24) (if μ.1 323 0 0 (nI i).toNatClampNeg = 0 then nm (nI k + 1) (fun y1 => fM_count_9 N n x1 y1 (nI i + 1) μ) else nm (nI k + 0) (fun y1 => fM_count_9 N n x1 y1 (nI i + 1) μ))) = _
    rw [h1, if_neg (nI_ge (by omega) (by omega)), chk_t (inb_n (by omega) (by decide)), nI_clamp (by omega), nmx, nmx, nI_1, nI_1, show nI k + 0 = nI (k + 0) from nI_add k 0]
    unfold opn at hR
    by_cases q : μ.1 323 0 0 i = 0
    · rw [if_pos q]
      rw [if_pos q] at hR
      exact ih (i + 1) n (k + 1) (by omega) (by omega) (by omega) (fun n => by rw [← hR n]; congr 2; omega)
    · rw [if_neg q]
      rw [if_neg q] at hR
      exact ih (i + 1) n (k + 0) (by omega) (by omega) (by omega) (fun n => by rw [← hR n]; congr 2; omega)
theorem e_count {N : Nat} {σ μ : St} (hN : 30 ≤ N) (hE : Eq1 σ μ) (hR : Rng μ) (a1 : Int32) : ∃ q b μ', fX_count N a1 σ = some q ∧ fM_count N a1 μ = some (b, μ') ∧ AnsR q b μ μ' := by
  obtain ⟨V, h2, eV, cV, -, hV⟩ := hR.n (g := 316) (lo := 0) (hi := 24) 0 (by decide) (by decide)
  have h1 : σ.1 102 0 0 0 = nI V := (hE (102, 316) (by decide) 0).trans h2
  have ox := opn_X (N := N) hE h1 (by omega) V 0 N 0 (by omega) (by omega) (Nat.le_refl 0)
  have oc : ∀ i d, opn (sI μ 204 0 0 0 0) i d = opn μ i d := by
    intro i d
    induction d generalizing i with
    | zero => rfl
    | succ d ih => unfold opn; rw [ih, sI_o (by decide)]
  have k0 : σ.1 162 0 0 0 = μ.1 205 0 0 0 := hE (162, 205) (by decide) 0
  have k1 : σ.1 46 0 0 0 = μ.1 207 0 0 0 := hE (46, 207) (by decide) 0
  have k2 : σ.1 52 0 0 0 = μ.1 208 0 0 0 := hE (52, 208) (by decide) 0
  have k3 : σ.1 43 0 0 0 = μ.1 218 0 0 0 := hE (43, 218) (by decide) 0
  have k4 : σ.1 159 0 0 0 = μ.1 219 0 0 0 := hE (159, 219) (by decide) 0
  have k5 : σ.1 102 0 0 0 = μ.1 316 0 0 0 := hE (102, 316) (by decide) 0
  have k7 : σ.1 107 0 0 0 = μ.1 317 0 0 0 := hE (107, 317) (by decide) 0
  have k8 : σ.1 36 0 0 0 = μ.1 338 0 0 0 := hE (36, 338) (by decide) 0
  have k9 : σ.1 29 0 0 0 = μ.1 337 0 0 0 := hE (29, 337) (by decide) 0
  have k10 : σ.1 111 0 0 0 = μ.1 247 0 0 0 := hE (111, 247) (by decide) 0
  have cm := fun (R : Option (Int32 × St)) => cnt_M (N := N) (x1 := a1) (μ := sI μ 204 0 0 0 0) (R := R) h2 (by omega) V 0 N 0 (by omega) (by omega) (Nat.le_refl 0)
  have cs : ∀ R, (∀ n, fM_count_9 N (n + 1) a1 (nI (0 + opn μ 0 V)) (nI V) (sI μ 204 0 0 0 0) = R) → fM_count N a1 μ = R := fun R h => cm R (fun n => by rw [oc]; exact h n)
  have st : ∀ n, fM_count_9 N (n + 1) a1 (nI (0 + opn μ 0 V)) (nI V) (sI μ 204 0 0 0 0) = (if a1 = 0 then some (μ.1 205 0 0 0, sI μ 204 0 0 0 0) else if a1 = 1 then some (μ.1 207 0 0 0, sI μ 204 0 0 0 0) else if a1 = 2 then some (μ.1 208 0 0 0, sI μ 204 0 0 0 0) else if a1 = 3 then some (μ.1 218 0 0 0, sI μ 204 0 0 0 0) else if a1 = 4 then some (μ.1 219 0 0 0, sI μ 204 0 0 0 0) else if a1 = 5 then some (μ.1 316 0 0 0, sI μ 204 0 0 0 0) else if a1 = 6 then some (nI (0 + opn μ 0 V), sI μ 204 0 0 0 0) else if a1 = 7 then some (μ.1 317 0 0 0, sI μ 204 0 0 0 0) else if a1 = 8 then some (μ.1 338 0 0 0, sI μ 204 0 0 0 0) else if a1 = 9 then some (μ.1 337 0 0 0, sI μ 204 0 0 0 0) else if a1 = 10 then some (μ.1 247 0 0 0, sI μ 204 0 0 0 0) else some (0, sI (sI μ 204 0 0 0 0) 204 0 0 0 1)) := by
    intro n
    show (if (sI μ 204 0 0 0 0).1 316 0 0 0 ≤ nI V then _ else _) = _
    rw [if_pos (by rw [sI_o (by decide), h2]; exact Int32.le_refl _)]
    rfl
  rw [cs _ st]
  unfold fX_count fMarket_openVacancies
  rw [show fMarket_openVacancies_4 N N 0 0 σ = some (nI (0 + opn μ 0 V)) from ox, bn1_e]
  by_cases z0 : a1 = 0
  · rw [if_pos z0, if_pos z0, k0]; exact ⟨_, _, _, rfl, rfl, AnsR.s⟩
  rw [if_neg z0, if_neg z0]
  by_cases z1 : a1 = 1
  · rw [if_pos z1, if_pos z1, k1]; exact ⟨_, _, _, rfl, rfl, AnsR.s⟩
  rw [if_neg z1, if_neg z1]
  by_cases z2 : a1 = 2
  · rw [if_pos z2, if_pos z2, k2]; exact ⟨_, _, _, rfl, rfl, AnsR.s⟩
  rw [if_neg z2, if_neg z2]
  by_cases z3 : a1 = 3
  · rw [if_pos z3, if_pos z3, k3]; exact ⟨_, _, _, rfl, rfl, AnsR.s⟩
  rw [if_neg z3, if_neg z3]
  by_cases z4 : a1 = 4
  · rw [if_pos z4, if_pos z4, k4]; exact ⟨_, _, _, rfl, rfl, AnsR.s⟩
  rw [if_neg z4, if_neg z4]
  by_cases z5 : a1 = 5
  · rw [if_pos z5, if_pos z5, k5]; exact ⟨_, _, _, rfl, rfl, AnsR.s⟩
  rw [if_neg z5, if_neg z5]
  by_cases z6 : a1 = 6
  · rw [if_pos z6, if_pos z6]; exact ⟨_, _, _, rfl, rfl, AnsR.s⟩
  rw [if_neg z6, if_neg z6]
  by_cases z7 : a1 = 7
  · rw [if_pos z7, if_pos z7, k7]; exact ⟨_, _, _, rfl, rfl, AnsR.s⟩
  rw [if_neg z7, if_neg z7]
  by_cases z8 : a1 = 8
  · rw [if_pos z8, if_pos z8, k8]; exact ⟨_, _, _, rfl, rfl, AnsR.s⟩
  rw [if_neg z8, if_neg z8]
  by_cases z9 : a1 = 9
  · rw [if_pos z9, if_pos z9, k9]; exact ⟨_, _, _, rfl, rfl, AnsR.s⟩
  rw [if_neg z9, if_neg z9]
  by_cases z10 : a1 = 10
  · rw [if_pos z10, if_pos z10, k10]; exact ⟨_, _, _, rfl, rfl, AnsR.s⟩
  rw [if_neg z10, if_neg z10]
  exact ⟨_, _, _, rfl, rfl, AnsR.n⟩
theorem e_tried {N : Nat} {σ μ : St} (hE : Eq1 σ μ) (h0 : ∀ t, t < 9 → σ.1 158 0 0 (3 * t) = (μ.2 348 0 0 t).toInt32 ∧ σ.1 158 0 0 (3 * t + 1) = μ.1 349 0 0 t ∧ σ.1 158 0 0 (3 * t + 2) = μ.1 350 0 0 t) (a1 a2 : Int32) :
    ∃ q b μ', fX_tried N a1 a2 σ = some q ∧ fM_tried N a1 a2 μ = some (b, μ') ∧ AnsR q b μ μ' := by
  have h1 : σ.1 161 0 0 0 = μ.1 347 0 0 0 := hE (161, 347) (by decide) 0
  by_cases g : 0 ≤ a1.toInt ∧ a1.toInt ≤ 8 ∧ 0 ≤ a2.toInt ∧ a2.toInt ≤ 2 ∧ ¬ (μ.1 347 0 0 0).toInt = 0
  · obtain ⟨j, rfl, ej, cj⟩ := argN g.1
    obtain ⟨k, rfl, ek, ck⟩ := argN g.2.2.1
    rw [ej, ek] at g
    have hj : j < 9 := by omega
    obtain ⟨m0, m1, m2⟩ := h0 j hj
    have t3 : ∀ j, j < 9 → ∀ k, k < 3 → nI j * 3 + nI k = nI (3 * j + k) := by decide +kernel
    have t := t3 j hj k (by omega)
    have et := nI_toInt (n := 3 * j + k) (by omega)
    have ct := nI_clamp (n := 3 * j + k) (by omega)
    have hk : k = 0 ∨ k = 1 ∨ k = 2 := by omega
    refine ⟨some (σ.1 158 0 0 (3 * j + k)), _, _, ?_, ?_, AnsR.s⟩
    · unfold fX_tried
      simp only [sI_1, sI_2, sJ_1, sJ_2, sA_1, sA_2, fa_lt, fa_le, fa_eq, nI_1, nI_sub1, nmx, bnd_e, bn1_e, btW_n, btW_s, btR_n, btR_s, btO_n, btO_s, outside_e, reqE_e, reqP_e, btO_i, btR_i, mIsPerson_e, mFail_e, chk, inb, Int32.reduceToInt, Nat.reduceEqDiff, ite_01, ite_10, eq_self, true_and, and_true, false_and, and_self, reduceIte, not_false_eq_true, not_true_eq_false, or_true, true_or, or_false, false_or, and_false, Int.reduceEq, Int.reduceLT, Int.reduceLE, Nat.reduceLT, Nat.reduceLeDiff, Nat.reduceAdd, Nat.reduceMul, mrg1, mrg2, mrg3, mrg4, h1, ej, ek, t, et, ct]
      ((repeat (first | rw [if_pos (by omega)] | rw [if_neg (by omega)])) <;> (try rfl))
    · unfold fM_tried fM_toInt
      rcases hk with rfl | rfl | rfl
      · simp only [sI_1, sI_2, sJ_1, sJ_2, sA_1, sA_2, fa_lt, fa_le, fa_eq, nI_1, nI_sub1, nmx, bnd_e, bn1_e, btW_n, btW_s, btR_n, btR_s, btO_n, btO_s, outside_e, reqE_e, reqP_e, btO_i, btR_i, mIsPerson_e, mFail_e, chk, inb, Int32.reduceToInt, Nat.reduceEqDiff, ite_01, ite_10, eq_self, true_and, and_true, false_and, and_self, reduceIte, not_false_eq_true, not_true_eq_false, or_true, true_or, or_false, false_or, and_false, Int.reduceEq, Int.reduceLT, Int.reduceLE, Nat.reduceLT, Nat.reduceLeDiff, Nat.reduceAdd, Nat.reduceMul, mrg1, mrg2, mrg3, mrg4, ej, ek, cj, m0]
        ((repeat (first | rw [if_pos (by omega)] | rw [if_neg (by omega)])) <;> (try rfl))
        rw [show 3 * j + 0 = 3 * j from rfl, m0]
      · simp only [sI_1, sI_2, sJ_1, sJ_2, sA_1, sA_2, fa_lt, fa_le, fa_eq, nI_1, nI_sub1, nmx, bnd_e, bn1_e, btW_n, btW_s, btR_n, btR_s, btO_n, btO_s, outside_e, reqE_e, reqP_e, btO_i, btR_i, mIsPerson_e, mFail_e, chk, inb, Int32.reduceToInt, Nat.reduceEqDiff, ite_01, ite_10, eq_self, true_and, and_true, false_and, and_self, reduceIte, not_false_eq_true, not_true_eq_false, or_true, true_or, or_false, false_or, and_false, Int.reduceEq, Int.reduceLT, Int.reduceLE, Nat.reduceLT, Nat.reduceLeDiff, Nat.reduceAdd, Nat.reduceMul, mrg1, mrg2, mrg3, mrg4, ej, ek, cj, m1]
        ((repeat (first | rw [if_pos (by omega)] | rw [if_neg (by omega)])) <;> (try rfl))
      · simp only [sI_1, sI_2, sJ_1, sJ_2, sA_1, sA_2, fa_lt, fa_le, fa_eq, nI_1, nI_sub1, nmx, bnd_e, bn1_e, btW_n, btW_s, btR_n, btR_s, btO_n, btO_s, outside_e, reqE_e, reqP_e, btO_i, btR_i, mIsPerson_e, mFail_e, chk, inb, Int32.reduceToInt, Nat.reduceEqDiff, ite_01, ite_10, eq_self, true_and, and_true, false_and, and_self, reduceIte, not_false_eq_true, not_true_eq_false, or_true, true_or, or_false, false_or, and_false, Int.reduceEq, Int.reduceLT, Int.reduceLE, Nat.reduceLT, Nat.reduceLeDiff, Nat.reduceAdd, Nat.reduceMul, mrg1, mrg2, mrg3, mrg4, ej, ek, cj, m2]
        ((repeat (first | rw [if_pos (by omega)] | rw [if_neg (by omega)])) <;> (try rfl))
  · refine ⟨none, 0, _, ?_, ?_, AnsR.n⟩
    · unfold fX_tried
      simp only [sI_1, sI_2, sJ_1, sJ_2, sA_1, sA_2, fa_lt, fa_le, fa_eq, nI_1, nI_sub1, nmx, bnd_e, bn1_e, btW_n, btW_s, btR_n, btR_s, btO_n, btO_s, outside_e, reqE_e, reqP_e, btO_i, btR_i, mIsPerson_e, mFail_e, chk, inb, Int32.reduceToInt, Nat.reduceEqDiff, ite_01, ite_10, eq_self, true_and, and_true, false_and, and_self, reduceIte, not_false_eq_true, not_true_eq_false, or_true, true_or, or_false, false_or, and_false, Int.reduceEq, Int.reduceLT, Int.reduceLE, Nat.reduceLT, Nat.reduceLeDiff, Nat.reduceAdd, Nat.reduceMul, mrg1, mrg2, mrg3, mrg4, h1]
      ((repeat' split) <;> first | rfl | (exfalso; omega))
    · unfold fM_tried fM_tried_31
      simp only [sI_1, sI_2, sJ_1, sJ_2, sA_1, sA_2, fa_lt, fa_le, fa_eq, nI_1, nI_sub1, nmx, bnd_e, bn1_e, btW_n, btW_s, btR_n, btR_s, btO_n, btO_s, outside_e, reqE_e, reqP_e, btO_i, btR_i, mIsPerson_e, mFail_e, chk, inb, Int32.reduceToInt, Nat.reduceEqDiff, ite_01, ite_10, eq_self, true_and, and_true, false_and, and_self, reduceIte, not_false_eq_true, not_true_eq_false, or_true, true_or, or_false, false_or, and_false, Int.reduceEq, Int.reduceLT, Int.reduceLE, Nat.reduceLT, Nat.reduceLeDiff, Nat.reduceAdd, Nat.reduceMul, mrg1, mrg2, mrg3, mrg4]
      ((repeat' split) <;> first | rfl | (exfalso; omega))
