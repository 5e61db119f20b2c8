/-! the class' life: a day passes -/
theorem kindC_e {N v p n d : Nat} {E : Env} {σ : St} (hE : EX v p n E σ) (hW : WL (sl v p σ)) (hd : d < 936) : fLife_kindOfClaim N v p (nI d) σ = some (kindC E d (sl v p σ)) := by
  obtain ⟨r1, r2⟩ := row_e (N := N) hW
  have f : ∀ g i, slr g → σ.1 g v p i = sl v p σ g i := fun g i q => (if_pos q).symm
  unfold fLife_kindOfClaim kindC
  rw [r1, bn1_e, mod6 hd, f _ _ (by decide), f _ _ (by decide), show nI (rw_ (sl v p σ)) + 2 = nI (rw_ (sl v p σ) + 2) from nI_add _ 2, show nI (rw_ (sl v p σ)) + 3 = nI (rw_ (sl v p σ) + 3) from nI_add _ 3, show nI (rw_ (sl v p σ)) + 4 = nI (rw_ (sl v p σ) + 4) from nI_add _ 4, nI_1, chk_t (inb_n (by omega) (by decide)), chk_t (inb_n (by omega) (by decide)), chk_t (inb_n (by omega) (by decide)), chk_t (inb_n (by omega) (by decide)), nI_clamp (by omega), nI_clamp (by omega), nI_clamp (by omega), nI_clamp (by omega), show fLaw_param N v 0 (nI d) σ = some ((E.sh d).par 0) from param_e (k := 0) hE (by decide) hd, show fLaw_param N v 5 (nI d) σ = some ((E.sh d).par 5) from param_e (k := 5) hE (by decide) hd, bn1_e, bn1_e, f _ _ (by decide), f _ _ (by decide), f _ _ (by decide), f _ _ (by decide)]
  (repeat' split) <;> rfl
theorem count_e {N v p k : Nat} {y : Int32} {σ : St} (hW : WL (sl v p σ)) (hk : k ≤ 9) : ∃ σ', fLife_countInClaim N v p (nI k) y σ = some σ' ∧ LfX v p σ σ' ∧ sl v p σ' = sCount (nI k) y (sl v p σ) := by
  obtain ⟨r1, r2⟩ := row_e (N := N) hW
  have e27 : ∀ τ : St, ∃ τ', fLife_countInClaim_27 N v p (nI k) y (nI (rw_ (sl v p σ))) τ = some τ' ∧ LfX v p τ τ' ∧ sl v p τ' = (fun s1 : Lfe => let s2 := uL (uL s1 79 (rw_ (sl v p σ) + 6) (s1 79 (rw_ (sl v p σ) + 6) + y)) 81 0 (s1 81 0 + y); if nI k < 3 then (if nI k = 0 then uL s2 81 2 (s2 81 2 + 1) else s2) else if 5 < nI k then (if nI k = 0 then uL s2 81 2 (s2 81 2 + 1) else s2) else uL s2 81 1 (s2 81 1 + 1)) (sl v p τ) := by
    intro τ
    unfold fLife_countInClaim_27 fLife_countInClaim_73
    rw [show nI (rw_ (sl v p σ)) + 6 = nI (rw_ (sl v p σ) + 6) from nI_add _ 6, chk_t (inb_n (by omega) (by decide)), nmx, nmx, nI_clamp (by omega)]
    dsimp only
    have l2 : LfX v p τ (sI (sI τ 79 v p (rw_ (sl v p σ) + 6) (τ.1 79 v p (rw_ (sl v p σ) + 6) + y)) 81 v p 0 ((sI τ 79 v p (rw_ (sl v p σ) + 6) (τ.1 79 v p (rw_ (sl v p σ) + 6) + y)).1 81 v p 0 + y)) := (LfX.s (by decide)).tr (LfX.s (by decide))
    have s2 : sl v p (sI (sI τ 79 v p (rw_ (sl v p σ) + 6) (τ.1 79 v p (rw_ (sl v p σ) + 6) + y)) 81 v p 0 ((sI τ 79 v p (rw_ (sl v p σ) + 6) (τ.1 79 v p (rw_ (sl v p σ) + 6) + y)).1 81 v p 0 + y)) = uL (uL (sl v p τ) 79 (rw_ (sl v p σ) + 6) (sl v p τ 79 (rw_ (sl v p σ) + 6) + y)) 81 0 (sl v p τ 81 0 + y) := by
      rw [sl_I (by decide), sl_I (by decide), sI_o (by decide)]
      rfl
    generalize sI (sI τ 79 v p (rw_ (sl v p σ) + 6) (τ.1 79 v p (rw_ (sl v p σ) + 6) + y)) 81 v p 0 ((sI τ 79 v p (rw_ (sl v p σ) + 6) (τ.1 79 v p (rw_ (sl v p σ) + 6) + y)).1 81 v p 0 + y) = τ2 at l2 s2
    rw [← s2]
    by_cases c1 : nI k < 3
    · rw [if_pos c1, if_pos c1]
      by_cases c0 : nI k = 0
      · rw [if_pos c0, if_pos c0, nmx]
        exact ⟨_, rfl, l2.tr (LfX.s (by decide)), by rw [sl_I (by decide)]; rfl⟩
      · rw [if_neg c0, if_neg c0]
        exact ⟨_, rfl, l2, rfl⟩
    · rw [if_neg c1, if_neg c1]
      by_cases c2 : 5 < nI k
      · rw [if_pos c2, if_pos c2]
        by_cases c0 : nI k = 0
        · rw [if_pos c0, if_pos c0, nmx]
          exact ⟨_, rfl, l2.tr (LfX.s (by decide)), by rw [sl_I (by decide)]; rfl⟩
        · rw [if_neg c0, if_neg c0]
          exact ⟨_, rfl, l2, rfl⟩
      · rw [if_neg c2, if_neg c2, nmx]
        exact ⟨_, rfl, l2.tr (LfX.s (by decide)), by rw [sl_I (by decide)]; rfl⟩
  unfold fLife_countInClaim sCount
  rw [r1, bn1_e]
  dsimp only
  by_cases c1 : nI k < 2
  · rw [if_pos c1, if_pos c1]
    exact e27 σ
  · rw [if_neg c1, if_neg c1]
    by_cases c2 : 5 < nI k
    · rw [if_pos c2, if_pos c2]
      exact e27 σ
    · have hk5 : k ≤ 5 := by
        have : ¬ 5 < k := fun q => c2 ((nI_ltI (a := 5) (b := k) (by omega) (by omega)).mpr q)
        omega
      rw [if_neg c2, if_neg c2, nI_add, chk_t (inb_n (by omega) (by decide)), nmx, nI_clamp (by omega), nI_clamp (by omega)]
      obtain ⟨σ', i1, i2, i3⟩ := e27 (sI σ 79 v p (rw_ (sl v p σ) + k) (σ.1 79 v p (rw_ (sl v p σ) + k) + 1))
      refine ⟨σ', i1, (LfX.s (by decide)).tr i2, ?_⟩
      rw [i3, sl_I (by decide)]
      rfl
theorem kindC_n (E : Env) (d : Nat) (s : Lfe) : ∃ k : Nat, 1 ≤ k ∧ k ≤ 6 ∧ kindC E d s = nI k := by
  unfold kindC
  (repeat' split) <;> first | exact ⟨1, by decide, by decide, rfl⟩ | exact ⟨2, by decide, by decide, rfl⟩ | exact ⟨3, by decide, by decide, rfl⟩ | exact ⟨4, by decide, by decide, rfl⟩ | exact ⟨5, by decide, by decide, rfl⟩ | exact ⟨6, by decide, by decide, rfl⟩
theorem pass132 {N v p d : Nat} {k y a c : Int32} {σ : St} (h1 : 312 ≤ d) (hd : d < 936) : fLife_pass_132 N v p (nI d) k y a c σ = some (sI (sI σ 78 v p (d - 312) (pck k y a c)) 83 v p 0 (nI d)) := by
  have e : nI d - 312 = nI (d - 312) := by
    have : nI d - 312 = nI (312 + (d - 312)) - nI 312 := by rw [show 312 + (d - 312) = d by omega]; rfl
    rw [this, nI_subl]
  unfold fLife_pass_132 pck
  rw [e, chk_t (inb_n (by omega) (by decide)), nmx, nmx, nI_clamp (by omega)]
theorem pass88 {N v p d k : Nat} {y a : Int32} {σ : St} (hW : WL (sl v p σ)) (h1 : 312 ≤ d) (hd : d < 936) (hk : k ≤ 9) : ∃ σ', fLife_pass_102 N v p (nI d) (nI k) y a σ = some σ' ∧ LfX v p σ σ' ∧ sl v p σ' = uL (uL (if sl v p σ 85 0 = 0 then sl v p σ else sCount (nI k) y (sl v p σ)) 78 (d - 312) (pck (nI k) y a (if sl v p σ 85 0 = 0 then -1 else sl v p σ 84 0 - 1))) 83 0 (nI d) := by
  have f : ∀ g i, slr g → σ.1 g v p i = sl v p σ g i := fun g i q => (if_pos q).symm
  unfold fLife_pass_102 fLife_pass_115
  rw [f _ _ (by decide)]
  by_cases c : sl v p σ 85 0 = 0
  · rw [if_pos c, if_pos c, if_pos c, if_pos c, pass132 h1 hd]
    exact ⟨_, rfl, (LfX.s (by decide)).tr (LfX.s (by decide)), by rw [sl_I (by decide), sl_I (by decide)]⟩
  · obtain ⟨σ1, i1, i2, i3⟩ := count_e (N := N) (y := y) hW hk
    have o1 : ∀ g, g ≠ 79 → g ≠ 81 → slr g → σ1.1 g v p 0 = sl v p σ g 0 := fun g q1 q2 q3 => by
      rw [show σ1.1 g v p 0 = sl v p σ1 g 0 from (if_pos q3).symm, i3]
      unfold sCount
      try dsimp only
      have u : ∀ (s : Lfe) f i x, f = 79 ∨ f = 81 → uL s f i x g 0 = s g 0 := fun s f i x q => uL_o (fun z => by rcases q with q | q <;> rw [q] at z; exact q1 z; exact q2 z)
      (repeat' split) <;> simp only [u _ _ _ _ (Or.inl rfl), u _ _ _ _ (Or.inr rfl)]
    rw [if_neg c, if_neg c, if_neg c, i1, bn1_e, o1 _ (by decide) (by decide) (by decide), if_neg c, o1 _ (by decide) (by decide) (by decide), pass132 h1 hd]
    exact ⟨_, rfl, (i2.tr (LfX.s (by decide))).tr (LfX.s (by decide)), by rw [sl_I (by decide), sl_I (by decide), i3]⟩
theorem pass_e {N v p n d : Nat} {E : Env} {σ : St} (hN : 700 ≤ N) (hE : EX v p n E σ) (hW : WL (sl v p σ)) (h1 : 312 ≤ d) (hd : d < 936) : ∃ σ', fLife_pass N v p (nI d) σ = some σ' ∧ LfX v p σ σ' ∧ sl v p σ' = sPass E d (sl v p σ) := by
  have f : ∀ g i, slr g → σ.1 g v p i = sl v p σ g i := fun g i q => (if_pos q).symm
  obtain ⟨k, hk9, hk⟩ : ∃ k : Nat, k ≤ 9 ∧ (if sl v p σ 85 0 = 0 then (if sl v p σ 88 0 = 0 then (if sl v p σ 87 0 = 0 then (9 : Int32) else 7) else 8) else kindC E d (sl v p σ)) = nI k := by
    split
    · split
      · split
        · exact ⟨9, by decide, rfl⟩
        · exact ⟨7, by decide, rfl⟩
      · exact ⟨8, by decide, rfl⟩
    · obtain ⟨k, -, k2, k3⟩ := kindC_n E d (sl v p σ)
      exact ⟨k, by omega, k3⟩
  have e41 : fLife_pass N v p (nI d) σ = fLife_pass_41 N v p (nI d) (nI k) σ := by
    unfold fLife_pass
    rw [f _ _ (by decide), f _ _ (by decide), f _ _ (by decide)]
    by_cases c : sl v p σ 85 0 = 0
    · rw [if_pos c] at hk ⊢
      by_cases c2 : sl v p σ 88 0 = 0
      · rw [if_pos c2] at hk ⊢
        by_cases c3 : sl v p σ 87 0 = 0
        · rw [if_pos c3] at hk ⊢
          rw [← hk]
        · rw [if_neg c3] at hk ⊢
          rw [← hk]
      · rw [if_neg c2] at hk ⊢
        rw [← hk]
    · rw [if_neg c] at hk ⊢
      rw [kindC_e hE hW hd, bn1_e, hk]
  rw [e41]
  unfold sPass dayK
  dsimp only
  rw [hk]
  by_cases cp : isPd (nI k) = true
  · rw [if_pos cp]
    have hk35 : k = 3 ∨ k = 4 ∨ k = 5 := by
      simp only [isPd, Bool.or_eq_true, decide_eq_true_eq] at cp
      rcases cp with (q | q) | q
      · exact Or.inl ((nI_eq (b := 3) (by omega) (by omega)).mp q)
      · exact Or.inr (Or.inl ((nI_eq (b := 4) (by omega) (by omega)).mp q))
      · exact Or.inr (Or.inr ((nI_eq (b := 5) (by omega) (by omega)).mp q))
    have e62 : fLife_pass_41 N v p (nI d) (nI k) σ = fLife_pass_62 N v p (nI d) (nI k) σ := by
      rcases hk35 with rfl | rfl | rfl <;> rfl
    obtain ⟨σ1, a1, a2, a3, a4⟩ := setOut_e (N := N) (by omega) hE hW h1 hd
    obtain ⟨σ2, b1, b2⟩ := pay_e (N := N) (k := nI k) hN (hE.lf a2) hd a4
    have hE2 := (hE.lf a2).lf (b2.lf (v := v) (p := p))
    have s2 : sl v p σ2 = sl v p σ := by unfold sl; rw [b2.1, a3]
    have W2 : WL (sl v p σ2) := by rw [s2]; exact hW
    rw [e62]
    unfold fLife_pass_62
    rw [a1, bn1_e, b1, bnd_e, payAct_e hE2 hd, bn1_e]
    unfold fLife_pass_88
    by_cases c5 : nI k = 5
    · rw [if_pos c5]
      by_cases c0 : payD E d (vS E d (sl v p σ)) (nI k) = 0
      · rw [if_pos c0, if_pos (And.intro c5 c0), c0]
        obtain ⟨σ3, i1, i2, i3⟩ := pass88 (N := N) (k := 0) (y := 0) (a := -1) W2 h1 hd (by decide)
        exact ⟨σ3, i1, (a2.tr b2.lf).tr i2, by rw [i3, s2]; rfl⟩
      · rw [if_neg c0, if_neg (show ¬ (nI k = 5 ∧ payD E d (vS E d (sl v p σ)) (nI k) = 0) from fun q => c0 q.2)]
        obtain ⟨σ3, i1, i2, i3⟩ := pass88 (N := N) (k := k) (y := payD E d (vS E d (sl v p σ)) (nI k)) (a := tI ((E.sh d).last (payW (nI k)))) W2 h1 hd hk9
        exact ⟨σ3, i1, (a2.tr b2.lf).tr i2, by rw [i3, s2]⟩
    · rw [if_neg c5, if_neg (show ¬ (nI k = 5 ∧ payD E d (vS E d (sl v p σ)) (nI k) = 0) from fun q => c5 q.1)]
      obtain ⟨σ3, i1, i2, i3⟩ := pass88 (N := N) (k := k) (y := payD E d (vS E d (sl v p σ)) (nI k)) (a := tI ((E.sh d).last (payW (nI k)))) W2 h1 hd hk9
      exact ⟨σ3, i1, (a2.tr b2.lf).tr i2, by rw [i3, s2]⟩
  · rw [if_neg cp]
    simp only [isPd, Bool.or_eq_true, decide_eq_true_eq, not_or] at cp
    obtain ⟨σ3, i1, i2, i3⟩ := pass88 (N := N) (k := k) (y := 0) (a := -1) hW h1 hd hk9
    refine ⟨σ3, ?_, i2, i3⟩
    unfold fLife_pass_41 fLife_pass_88
    rw [if_neg cp.1.1, if_neg cp.1.2, if_neg cp.2, if_neg cp.2, i1]
theorem WL.pass {E : Env} {d : Nat} {s : Lfe} (h : WL s) : WL (sPass E d s) := by
  have hc : ∀ k y, WL (sCount k y s) := fun k y => by
    unfold sCount
    dsimp only
    (repeat' split) <;> first | exact (((h.u (by decide)).u (by decide)).u (by decide)) | exact ((h.u (by decide)).u (by decide)) | exact ((((h.u (by decide)).u (by decide)).u (by decide)).u (by decide))
  unfold sPass
  dsimp only
  refine WL.u (WL.u ?_ (by decide)) (by decide)
  split
  · exact h
  · exact hc _ _
