/-! the tape -/
def putX (σ : St) (s : Nat) (v : Int32) : St := sI (sI σ 110 0 0 s v) 111 0 0 0 (nI (s + 1))
def putM (μ : St) (s : Nat) (v : Int32) : St := sI (sI μ 246 0 0 s v) 247 0 0 0 (nI (s + 1))
def foldX : St → Nat → List Int32 → St
  | σ, _, [] => σ
  | σ, s, v :: l => foldX (putX σ s v) (s + 1) l
def foldM : St → Nat → List Int32 → St
  | μ, _, [] => μ
  | μ, s, v :: l => foldM (putM μ s v) (s + 1) l
theorem foldX_app : ∀ (l m : List Int32) (σ : St) (s : Nat), foldX σ s (l ++ m) = foldX (foldX σ s l) (s + l.length) m
  | [], m, σ, s => rfl
  | v :: l, m, σ, s => by
    show foldX (putX σ s v) (s + 1) (l ++ m) = foldX (foldX (putX σ s v) (s + 1) l) (s + (l.length + 1)) m
    rw [foldX_app l m, show s + (l.length + 1) = s + 1 + l.length by omega]
theorem foldX_size : ∀ (l : List Int32) (σ : St) (s : Nat), σ.1 111 0 0 0 = nI s → (foldX σ s l).1 111 0 0 0 = nI (s + l.length)
  | [], σ, s, h => h
  | v :: l, σ, s, _ => by
    show (foldX (putX σ s v) (s + 1) l).1 111 0 0 0 = nI (s + (l.length + 1))
    rw [foldX_size l (putX σ s v) (s + 1) (sI_s _ _ _ _ _ _), show s + (l.length + 1) = s + 1 + l.length by omega]
theorem foldM_size : ∀ (l : List Int32) (μ : St) (s : Nat), μ.1 247 0 0 0 = nI s → (foldM μ s l).1 247 0 0 0 = nI (s + l.length)
  | [], μ, s, h => h
  | v :: l, μ, s, _ => by
    show (foldM (putM μ s v) (s + 1) l).1 247 0 0 0 = nI (s + (l.length + 1))
    rw [foldM_size l (putM μ s v) (s + 1) (sI_s _ _ _ _ _ _), show s + (l.length + 1) = s + 1 + l.length by omega]
theorem putX_size (σ : St) (s : Nat) (v : Int32) : (putX σ s v).1 111 0 0 0 = nI (s + 1) := sI_s _ _ _ _ _ _
theorem putM_size (μ : St) (s : Nat) (v : Int32) : (putM μ s v).1 247 0 0 0 = nI (s + 1) := sI_s _ _ _ _ _ _
def bX (x k : Int32) : Int32 := (x >>> (k &&& 31)).toInt8.toInt32.toInt8.toInt32
def bM (x k : Int32) : Int32 := (x >>> (k &&& 31)) &&& 255
theorem bX_bM (x k : Int32) : bX x k = (bM x k).toInt8.toInt32 := by
  unfold bX bM
  rw [fa_byte_low]
  congr 1
  simp
theorem bM_rng (x k : Int32) : 0 ≤ (bM x k).toInt ∧ (bM x k).toInt ≤ 255 := by
  unfold bM
  generalize x >>> (k &&& 31) = y
  have h1 : (y &&& 255).toUInt32.toNat ≤ 255 := by
    have : (y &&& 255).toUInt32 = y.toUInt32 &&& 255 := rfl
    rw [this, UInt32.toNat_and]
    exact Nat.and_le_right
  have h2 : (y &&& 255).toInt = (y &&& 255).toUInt32.toNat := by
    show (y &&& 255).toBitVec.toInt = _
    rw [BitVec.toInt_eq_toNat_of_lt]
    · rfl
    · have : (y &&& 255).toBitVec.toNat = (y &&& 255).toUInt32.toNat := rfl
      omega
  omega
theorem app_one {N n s : Nat} {σ : St} {x k : Int32} (hs : σ.1 111 0 0 0 = nI s) (h : s < 600) (hk : ¬ k < 0) : fReader_append_3 N (n + 1) x k σ = fReader_append_3 N n x (k + (-8)) (putX σ s (bX x k)) := by
  have es := nI_toInt (n := s) (by omega)
  have cs := nI_clamp (n := s) (by omega)
  show (if k < 0 then _ else _) = _
  rw [if_neg hk]
  simp only [sI_1, sI_2, sJ_1, sJ_2, sA_1, sA_2, fa_lt, fa_le, fa_eq, nI_1, nI_sub1, nmx, bnd_e, bn1_e, btW_n, btW_s, btR_n, btR_s, btO_n, btO_s, outside_e, reqE_e, reqP_e, btO_i, btR_i, mIsPerson_e, mFail_e, chk, inb, Int32.reduceToInt, Nat.reduceEqDiff, ite_01, ite_10, eq_self, true_and, and_true, false_and, and_self, reduceIte, not_false_eq_true, not_true_eq_false, or_true, true_or, or_false, false_or, and_false, Int.reduceEq, Int.reduceLT, Int.reduceLE, Nat.reduceLT, Nat.reduceLeDiff, Nat.reduceAdd, Nat.reduceMul, mrg1, mrg2, mrg3, mrg4, hs, es, cs]
  ((repeat (first | rw [if_pos (by omega)] | rw [if_neg (by omega)])) <;> (try rfl))
theorem app_all {N s : Nat} {σ : St} (x : Int32) (hN : 5 ≤ N) (hs : σ.1 111 0 0 0 = nI s) (h : s + 4 ≤ 600) : fReader_append N x σ = some (foldX σ s [bX x 24, bX x 16, bX x 8, bX x 0]) := by
  obtain ⟨n, rfl⟩ : ∃ n, N = n + 5 := ⟨N - 5, by omega⟩
  unfold fReader_append
  rw [app_one (n := n + 4) hs (by omega) (by decide), show (24 : Int32) + (-8) = 16 by decide]
  rw [app_one (n := n + 3) (s := s + 1) (putX_size _ _ _) (by omega) (by decide), show (16 : Int32) + (-8) = 8 by decide]
  rw [app_one (n := n + 2) (s := s + 1 + 1) (putX_size _ _ _) (by omega) (by decide), show (8 : Int32) + (-8) = 0 by decide]
  rw [app_one (n := n + 1) (s := s + 1 + 1 + 1) (putX_size _ _ _) (by omega) (by decide), show (0 : Int32) + (-8) = -8 by decide]
  rfl
def bs20X (x1 x2 x3 x4 x5 : Int32) : List Int32 := [x1, x2, x3, x4, x5].flatMap (fun x => [bX x 24, bX x 16, bX x 8, bX x 0])
theorem e_feedX {N s : Nat} {σ : St} (x1 x2 x3 x4 x5 : Int32) (hN : 5 ≤ N) (hs : σ.1 111 0 0 0 = nI s) (h : s ≤ 580) : fX_feed N x1 x2 x3 x4 x5 σ = some (nI (s + 20), foldX σ s (bs20X x1 x2 x3 x4 x5)) := by
  have es := nI_toInt (n := s) (by omega)
  have k4 : ∀ (σ : St) (s : Nat) (x : Int32), σ.1 111 0 0 0 = nI s → (foldX σ s [bX x 24, bX x 16, bX x 8, bX x 0]).1 111 0 0 0 = nI (s + 4) := fun σ s x h => foldX_size [bX x 24, bX x 16, bX x 8, bX x 0] σ s h
  have g1 := k4 σ s x1 hs
  have g2 := k4 _ _ x2 g1
  have g3 := k4 _ _ x3 g2
  have g4 := k4 _ _ x4 g3
  have g5 := k4 _ _ x5 g4
  unfold fX_feed
  simp only [sI_1, sI_2, sJ_1, sJ_2, sA_1, sA_2, fa_lt, fa_le, fa_eq, nI_1, nI_sub1, nmx, bnd_e, bn1_e, btW_n, btW_s, btR_n, btR_s, btO_n, btO_s, outside_e, reqE_e, reqP_e, btO_i, btR_i, mIsPerson_e, mFail_e, chk, inb, Int32.reduceToInt, Nat.reduceEqDiff, ite_01, ite_10, eq_self, true_and, and_true, false_and, and_self, reduceIte, not_false_eq_true, not_true_eq_false, or_true, true_or, or_false, false_or, and_false, Int.reduceEq, Int.reduceLT, Int.reduceLE, Nat.reduceLT, Nat.reduceLeDiff, Nat.reduceAdd, Nat.reduceMul, mrg1, mrg2, mrg3, mrg4, hs, es]
  rw [if_pos (by omega), app_all x1 hN hs (by omega), bn1_e, app_all x2 hN g1 (by omega), bn1_e, app_all x3 hN g2 (by omega), bn1_e, app_all x4 hN g3 (by omega), bn1_e, app_all x5 hN g4 (by omega), bn1_e, g5]
  unfold bs20X
  simp only [List.flatMap_cons, List.flatMap_nil, List.append_nil]
  rw [foldX_app, foldX_app, foldX_app, foldX_app]
  rfl
def wk (x1 x2 x3 x4 x5 : Int32) (k : Nat) : Int32 := if k < 4 then x1 else if k < 8 then x2 else if k < 12 then x3 else if k < 16 then x4 else x5
def shM (k : Nat) : Int32 := 24 - 8 * irem (nI k) 4
theorem feed_one {N n s k : Nat} {μ : St} {x1 x2 x3 x4 x5 : Int32} (hs : μ.1 247 0 0 0 = nI s) (h : s < 600) (hk : k < 20) : fM_feed_23 N (n + 1) x1 x2 x3 x4 x5 (nI k) μ = fM_feed_23 N n x1 x2 x3 x4 x5 (nI (k + 1)) (putM μ s (bM (wk x1 x2 x3 x4 x5 k) (shM k))) := by
  have es := nI_toInt (n := s) (by omega)
  have cs := nI_clamp (n := s) (by omega)
  have ek := nI_toInt (n := k) (by omega)
  have st : ∀ w, fM_feed_76 N (fM_feed_23 N n) x1 x2 x3 x4 x5 (nI k) w μ = fM_feed_23 N n x1 x2 x3 x4 x5 (nI (k + 1)) (putM μ s (bM w (shM k))) := by
    intro w
    unfold fM_feed_76
    simp only [sI_1, sI_2, sJ_1, sJ_2, sA_1, sA_2, fa_lt, fa_le, fa_eq, nI_1, nI_sub1, nmx, bnd_e, bn1_e, btW_n, btW_s, btR_n, btR_s, btO_n, btO_s, outside_e, reqE_e, reqP_e, btO_i, btR_i, mIsPerson_e, mFail_e, chk, inb, Int32.reduceToInt, Nat.reduceEqDiff, ite_01, ite_10, eq_self, true_and, and_true, false_and, and_self, reduceIte, not_false_eq_true, not_true_eq_false, or_true, true_or, or_false, false_or, and_false, Int.reduceEq, Int.reduceLT, Int.reduceLE, Nat.reduceLT, Nat.reduceLeDiff, Nat.reduceAdd, Nat.reduceMul, mrg1, mrg2, mrg3, mrg4, hs, es, cs]
    ((repeat (first | rw [if_pos (by omega)] | rw [if_neg (by omega)])) <;> (try rfl))
  show (if (20 : Int32) ≤ nI k then _ else _) = _
  simp only [st]
  simp only [sI_1, sI_2, sJ_1, sJ_2, sA_1, sA_2, fa_lt, fa_le, fa_eq, nI_1, nI_sub1, nmx, bnd_e, bn1_e, btW_n, btW_s, btR_n, btR_s, btO_n, btO_s, outside_e, reqE_e, reqP_e, btO_i, btR_i, mIsPerson_e, mFail_e, chk, inb, Int32.reduceToInt, Nat.reduceEqDiff, ite_01, ite_10, eq_self, true_and, and_true, false_and, and_self, reduceIte, not_false_eq_true, not_true_eq_false, or_true, true_or, or_false, false_or, and_false, Int.reduceEq, Int.reduceLT, Int.reduceLE, Nat.reduceLT, Nat.reduceLeDiff, Nat.reduceAdd, Nat.reduceMul, mrg1, mrg2, mrg3, mrg4, ek]
  unfold wk
  ((repeat' split) <;> first | rfl | (exfalso; omega))
theorem feed_all {N : Nat} {x1 x2 x3 x4 x5 : Int32} : ∀ (d k n s : Nat) (μ : St), k + d = 20 → d < n → μ.1 247 0 0 0 = nI s → s + d ≤ 600 → fM_feed_23 N n x1 x2 x3 x4 x5 (nI k) μ = some (nI (s + d), foldM μ s ((List.range' k d).map (fun k => bM (wk x1 x2 x3 x4 x5 k) (shM k)))) := by
  intro d
  induction d with
  | zero =>
    intro k n s μ hk hn hs h
    obtain ⟨n, rfl⟩ : ∃ m, n = m + 1 := ⟨n - 1, by omega⟩
    obtain rfl : k = 20 := by omega
    show (if (20 : Int32) ≤ nI 20 then some (μ.1 247 0 0 0, μ) else _) = _
    rw [if_pos (by decide), hs]
    rfl
  | succ d ih =>
    intro k n s μ hk hn hs h
    obtain ⟨n, rfl⟩ : ∃ m, n = m + 1 := ⟨n - 1, by omega⟩
    rw [feed_one hs (by omega) (by omega), ih (k + 1) n (s + 1) _ (by omega) (by omega) (putM_size _ _ _) (by omega), show s + (d + 1) = s + 1 + d by omega, List.range'_succ]
    rfl
def bs20M (x1 x2 x3 x4 x5 : Int32) : List Int32 := (List.range' 0 20).map (fun k => bM (wk x1 x2 x3 x4 x5 k) (shM k))
theorem e_feedM {N s : Nat} {μ : St} (x1 x2 x3 x4 x5 : Int32) (hN : 21 ≤ N) (hs : μ.1 247 0 0 0 = nI s) (h : s ≤ 580) : fM_feed N x1 x2 x3 x4 x5 μ = some (nI (s + 20), foldM (sI μ 204 0 0 0 0) s (bs20M x1 x2 x3 x4 x5)) := by
  have es := nI_toInt (n := s) (by omega)
  have e20 : (nI s + 20).toInt = (s : Int) + 20 := by
    rw [show nI s + 20 = nI (s + 20) from nI_add s 20, nI_toInt (by omega)]
    omega
  have f := feed_all (N := N) (x1 := x1) (x2 := x2) (x3 := x3) (x4 := x4) (x5 := x5) 20 0 N s (sI μ 204 0 0 0 0) rfl (by omega) hs (by omega)
  unfold fM_feed
  rw [nmx]
  simp only [sI_1, sI_2, sJ_1, sJ_2, sA_1, sA_2, fa_lt, fa_le, fa_eq, nI_1, nI_sub1, nmx, bnd_e, bn1_e, btW_n, btW_s, btR_n, btR_s, btO_n, btO_s, outside_e, reqE_e, reqP_e, btO_i, btR_i, mIsPerson_e, mFail_e, chk, inb, Int32.reduceToInt, Nat.reduceEqDiff, ite_01, ite_10, eq_self, true_and, and_true, false_and, and_self, reduceIte, not_false_eq_true, not_true_eq_false, or_true, true_or, or_false, false_or, and_false, Int.reduceEq, Int.reduceLT, Int.reduceLE, Nat.reduceLT, Nat.reduceLeDiff, Nat.reduceAdd, Nat.reduceMul, mrg1, mrg2, mrg3, mrg4, hs, e20]
  rw [if_pos (by omega)]
  exact f
theorem bs20 (x1 x2 x3 x4 x5 : Int32) : bs20X x1 x2 x3 x4 x5 = (bs20M x1 x2 x3 x4 x5).map (fun w => w.toInt8.toInt32) := by
  have e : bs20M x1 x2 x3 x4 x5 = [x1, x2, x3, x4, x5].flatMap (fun x => [bM x 24, bM x 16, bM x 8, bM x 0]) := rfl
  rw [e]
  unfold bs20X
  simp only [List.flatMap_cons, List.flatMap_nil, List.map_append, List.map_cons, List.map_nil, bX_bM, List.append_nil]
theorem bs20_rng (x1 x2 x3 x4 x5 : Int32) : ∀ w ∈ bs20M x1 x2 x3 x4 x5, 0 ≤ w.toInt ∧ w.toInt ≤ 255 := by
  intro w hw
  obtain ⟨k, -, rfl⟩ := List.mem_map.mp hw
  exact bM_rng _ _
theorem joint_fold {P : St → St → Prop} (st : ∀ (σ μ : St) (s : Nat) (w : Int32), P σ μ → σ.1 111 0 0 0 = nI s → μ.1 247 0 0 0 = nI s → s < 600 → 0 ≤ w.toInt → w.toInt ≤ 255 → P (putX σ s w.toInt8.toInt32) (putM μ s w)) :
    ∀ (l : List Int32) (σ μ : St) (s : Nat), P σ μ → σ.1 111 0 0 0 = nI s → μ.1 247 0 0 0 = nI s → s + l.length ≤ 600 → (∀ w ∈ l, 0 ≤ w.toInt ∧ w.toInt ≤ 255) → P (foldX σ s (l.map (fun w => w.toInt8.toInt32))) (foldM μ s l)
  | [], σ, μ, s, h, _, _, _, _ => h
  | w :: l, σ, μ, s, h, h1, h2, h3, h4 => by
    have hl : (w :: l).length = l.length + 1 := rfl
    exact joint_fold st l _ _ (s + 1) (st σ μ s w h h1 h2 (by omega) (h4 w List.mem_cons_self).1 (h4 w List.mem_cons_self).2) (sI_s _ _ _ _ _ _) (sI_s _ _ _ _ _ _) (by omega) (fun v hv => h4 v (List.mem_cons_of_mem _ hv))
theorem e_feedNo {N : Nat} {σ μ : St} (hE : Eq1 σ μ) (hR : Rng μ) (x1 x2 x3 x4 x5 : Int32) : (∃ s : Nat, s ≤ 580 ∧ μ.1 247 0 0 0 = nI s ∧ σ.1 111 0 0 0 = nI s) ∨ (fX_feed N x1 x2 x3 x4 x5 σ = some (-1, σ) ∧ fM_feed N x1 x2 x3 x4 x5 μ = some (-1, sI μ 204 0 0 0 0)) := by
  obtain ⟨s, h2, es, cs, -, hs⟩ := hR.n (g := 247) (lo := 0) (hi := 600) 0 (by decide) (by decide)
  have h1 : σ.1 111 0 0 0 = nI s := (hE (111, 247) (by decide) 0).trans h2
  have e20 : (nI s + 20).toInt = (s : Int) + 20 := by
    rw [show nI s + 20 = nI (s + 20) from nI_add s 20, nI_toInt (by omega)]
    omega
  by_cases h : s ≤ 580
  · exact Or.inl ⟨s, h, h2, h1⟩
  · refine Or.inr ⟨?_, ?_⟩
    · unfold fX_feed
      simp only [sI_1, sI_2, sJ_1, sJ_2, sA_1, sA_2, fa_lt, fa_le, fa_eq, nI_1, nI_sub1, nmx, bnd_e, bn1_e, btW_n, btW_s, btR_n, btR_s, btO_n, btO_s, outside_e, reqE_e, reqP_e, btO_i, btR_i, mIsPerson_e, mFail_e, chk, inb, Int32.reduceToInt, Nat.reduceEqDiff, ite_01, ite_10, eq_self, true_and, and_true, false_and, and_self, reduceIte, not_false_eq_true, not_true_eq_false, or_true, true_or, or_false, false_or, and_false, Int.reduceEq, Int.reduceLT, Int.reduceLE, Nat.reduceLT, Nat.reduceLeDiff, Nat.reduceAdd, Nat.reduceMul, mrg1, mrg2, mrg3, mrg4, h1, es]
      ((repeat (first | rw [if_pos (by omega)] | rw [if_neg (by omega)])) <;> (try rfl))
    · unfold fM_feed
      simp only [sI_1, sI_2, sJ_1, sJ_2, sA_1, sA_2, fa_lt, fa_le, fa_eq, nI_1, nI_sub1, nmx, bnd_e, bn1_e, btW_n, btW_s, btR_n, btR_s, btO_n, btO_s, outside_e, reqE_e, reqP_e, btO_i, btR_i, mIsPerson_e, mFail_e, chk, inb, Int32.reduceToInt, Nat.reduceEqDiff, ite_01, ite_10, eq_self, true_and, and_true, false_and, and_self, reduceIte, not_false_eq_true, not_true_eq_false, or_true, true_or, or_false, false_or, and_false, Int.reduceEq, Int.reduceLT, Int.reduceLE, Nat.reduceLT, Nat.reduceLeDiff, Nat.reduceAdd, Nat.reduceMul, mrg1, mrg2, mrg3, mrg4, h2, e20]
      ((repeat (first | rw [if_pos (by omega)] | rw [if_neg (by omega)])) <;> (try rfl))
