/-! the class' life: all events, days -/
theorem signs_e {N v p n d : Nat} {E : Env} {e : Ev} {σ : St} {c : Nat} (hN : 700 ≤ N) (hE : EX v p n E σ) (hW : WL (sl v p σ)) (hc : sl v p σ 84 0 = nI c) (hc2 : c < 55) (h1 : 312 ≤ d) (hd : d < 936) (hk : e.k = 2) : ∃ σ', fLife_signs N v p (nI d) σ = some ((sMeet E d e (sl v p σ)).1, σ') ∧ LfX v p σ σ' ∧ sl v p σ' = (sMeet E d e (sl v p σ)).2 := by
  obtain ⟨-, -, -, hp, e6, e7, e8, -⟩ := id hE
  have e14 : fLife_signs N v p (nI d) σ = if σ.1 87 v p 0 = 0 ∨ σ.1 89 v p 0 ≠ 0 then fLife_signs_14 N v p (nI d) σ else some (0, σ) := by
    unfold fLife_signs
    by_cases c1 : σ.1 87 v p 0 = 0
    · rw [if_pos c1, if_pos (Or.inl c1)]
    · rw [if_neg c1]
      by_cases c2 : σ.1 89 v p 0 = 0
      · rw [if_pos c2, if_neg (by rintro (q | q); exact c1 q; exact q c2)]
      · rw [if_neg c2, if_pos (Or.inr c2)]
  have f : ∀ g i, slr g → σ.1 g v p i = sl v p σ g i := fun g i q => (if_pos q).symm
  rw [e14, sM_2 hk, f _ _ (by decide), f _ _ (by decide)]
  by_cases c1 : sl v p σ 87 0 = 0 ∨ sl v p σ 89 0 ≠ 0
  · rw [if_pos c1]
    unfold fLife_signs_14
    rw [f _ _ (by decide), f _ _ (by decide)]
    by_cases c2 : sl v p σ 88 0 = 0
    · rw [if_pos c2]
      by_cases c3 : sl v p σ 85 0 = 0
      · rw [if_pos c3, e6, chk_t (inb_n hp (by decide)), nI_clamp (by omega), e8, insures_e hE hd, bn1_e]
        by_cases c4 : insD E d = true
        · have c14 : (sl v p σ 87 0 = 0 ∨ sl v p σ 89 0 ≠ 0) ∧ sl v p σ 88 0 = 0 ∧ sl v p σ 85 0 = 0 ∧ insD E d = true := ⟨c1, c2, c3, c4⟩
          rw [if_pos c4, if_neg (show ¬ (1 : Int32) = 0 by decide), if_pos c14, show σ.1 84 v p 0 = nI c from hc]
          obtain ⟨σn, n1, n2, n3⟩ := new_e (N := N) hN hE hc hc2 h1 hd
          unfold sSign
          rw [hc]
          rcases Nat.eq_zero_or_pos c with z | z
          · rw [if_pos (show nI c ≤ 0 by rw [z]; decide), if_pos (show nI c = 0 by rw [z]; rfl)]
            exact ⟨σn, n1, n2, n3⟩
          · rw [if_neg (show ¬ nI c ≤ 0 from nI_nle z (by omega)), if_neg (show ¬ nI c = 0 from nI_ne0 (by omega) (by omega)), show fLaw_param N v 1 (nI d) σ = some ((E.sh d).par 1) from param_e (k := 1) hE (by decide) hd, bn1_e]
            rw [show σ.1 86 v p 0 = sl v p σ 86 0 from rfl]
            by_cases c5 : (E.sh d).par 1 < nI d - sl v p σ 86 0
            · rw [if_pos c5, if_pos c5]
              exact ⟨σn, n1, n2, n3⟩
            · rw [if_neg c5, if_neg c5]
              obtain ⟨r1, r2⟩ := row_e (N := N) hW
              have r3 : fLife_rowOfLatest N v p (sI (sI σ 79 v p (rw_ (sl v p σ) + 7) (σ.1 79 v p (rw_ (sl v p σ) + 7) + 1)) 85 v p 0 1) = some (nI (rw_ (sl v p σ))) := r1
              rw [r1, bn1_e, show nI (rw_ (sl v p σ)) + 7 = nI (rw_ (sl v p σ) + 7) from nI_add _ 7, chk_t (inb_n (by omega) (by decide)), nmx, nI_clamp (by omega)]
              unfold fLife_signs_125
              rw [nmx, r3, bn1_e, show nI (rw_ (sl v p σ)) + 8 = nI (rw_ (sl v p σ) + 8) from nI_add _ 8, chk_t (inb_n (by omega) (by decide)), nmx, nI_clamp (by omega)]
              refine ⟨_, rfl, ((LfX.s (by decide)).tr (LfX.s (by decide))).tr (LfX.s (by decide)), ?_⟩
              rw [sl_I (by decide), sl_I (by decide), sl_I (by decide)]
              rfl
        · rw [if_neg c4, if_pos rfl, if_neg (fun q => c4 q.2.2.2)]
          exact ⟨σ, rfl, LfX.rf, rfl⟩
      · rw [if_neg c3, if_neg (fun q => c3 q.2.2.1)]
        exact ⟨σ, rfl, LfX.rf, rfl⟩
    · rw [if_neg c2, if_neg (fun q => c2 q.2.1)]
      exact ⟨σ, rfl, LfX.rf, rfl⟩
  · rw [if_neg c1, if_neg (fun q => c1 q.1)]
    exact ⟨σ, rfl, LfX.rf, rfl⟩
theorem WL.u {s : Lfe} {f i : Nat} {x : Int32} (h : WL s) (hf : f ≠ 84 ∧ f ≠ 85 ∧ f ≠ 87 ∧ f ≠ 88) : WL (uL s f i x) := by
  obtain ⟨⟨c, c1, c2, c3⟩, w2, w3, w4⟩ := h
  have o : ∀ f' i', f' ≠ f → uL s f i x f' i' = s f' i' := fun f' i' q => uL_o q
  exact ⟨⟨c, c1, (o _ _ (fun q => hf.1 q.symm)).trans c2, by rw [o _ _ (fun q => hf.2.1 q.symm)]; exact c3⟩, by rw [o _ _ (fun q => hf.2.1 q.symm)]; exact w2, by rw [o _ _ (fun q => hf.2.2.1 q.symm)]; exact w3, by rw [o _ _ (fun q => hf.2.2.2 q.symm)]; exact w4⟩
theorem WL.iw {s : Lfe} {x : Int32} (h : WL s) (hx : x = 0 ∨ x = 1) : WL (uL s 87 0 x) := by
  obtain ⟨⟨c, c1, c2, c3⟩, w2, w3, w4⟩ := h
  exact ⟨⟨c, c1, c2, c3⟩, w2, by rw [uL_s]; exact hx, w4⟩
theorem WL.aw {s : Lfe} {x : Int32} (h : WL s) (hx : x = 0 ∨ x = 1) : WL (uL s 88 0 x) := by
  obtain ⟨⟨c, c1, c2, c3⟩, w2, w3, w4⟩ := h
  exact ⟨⟨c, c1, c2, c3⟩, w2, w3, by rw [uL_s]; exact hx⟩
theorem WL.cl {s : Lfe} {d : Nat} (h : WL s) : WL (sClose d s) := by
  unfold sClose
  split
  · exact h
  · refine WL.u (WL.u ?_ (by decide)) (by decide)
    obtain ⟨⟨c, c1, c2, c3⟩, w2, w3, w4⟩ := h
    exact ⟨⟨c, c1, c2, fun q => by rw [uL_s] at q; exact absurd rfl q⟩, Or.inl (uL_s ..), w3, w4⟩
theorem WL.new {s : Lfe} {d c : Nat} {E : Env} (h : WL s) (hc : s 84 0 = nI c) (hc2 : c < 55) : WL (sNew E d s) := by
  obtain ⟨-, w2, w3, w4⟩ := h
  unfold sNew
  rw [hc, nI_clamp (by omega)]
  refine ⟨⟨c + 1, by omega, ?_, fun _ => by omega⟩, Or.inr (uL_s ..), ?_, ?_⟩
  · rw [uL_o (by decide), uL_s]
  · rw [uL_o (by decide), uL_o (by decide)]
    exact w3
  · rw [uL_o (by decide), uL_o (by decide)]
    exact w4
theorem WL.meet {s : Lfe} {d c : Nat} {E : Env} {e : Ev} (h : WL s) (hc : s 84 0 = nI c) (hc2 : c < 55) : WL (sMeet E d e s).2 := by
  have bar : ∀ vs s', WL s' → WL (sBar E d vs s') := fun vs s' q => q.u (by decide)
  have hs : WL (sSign E d s) := by
    unfold sSign
    split
    · exact h.new hc hc2
    · split
      · exact h.new hc hc2
      · refine WL.u ?_ (by decide)
        have h1 : WL (uL s 79 (rw_ s + 7) (s 79 (rw_ s + 7) + 1)) := h.u (by decide)
        rename_i q _
        obtain ⟨⟨c', c1, c2, c3⟩, w2, w3, w4⟩ := h1
        refine ⟨⟨c', c1, c2, fun _ => ?_⟩, Or.inr (uL_s ..), w3, w4⟩
        rcases Nat.eq_zero_or_pos c' with z | z
        · rw [z] at c2
          exact absurd c2 q
        · exact z
  unfold sMeet
  dsimp only
  by_cases k0 : e.k = 0
  · rw [if_pos k0]
    split
    · exact h
    · have h4 : WL (uL (uL (uL (uL s 87 0 0) 89 0 0) 91 0 (nI d)) 92 0 e.n) := (((h.iw (Or.inl rfl)).u (by decide)).u (by decide)).u (by decide)
      dsimp only
      split
      · exact bar _ _ h4
      · exact h4
  rw [if_neg k0]
  by_cases k1 : e.k = 1
  · rw [if_pos k1]
    split
    · split
      · exact WL.cl ((h.iw (Or.inr rfl)).u (by decide))
      · exact h
    · exact h
  rw [if_neg k1]
  by_cases k2 : e.k = 2
  · rw [if_pos k2]
    split
    · exact hs
    · exact h
  rw [if_neg k2]
  by_cases k3 : e.k = 3
  · rw [if_pos k3]
    split
    · exact (WL.cl h).aw (Or.inr rfl)
    · exact h
  rw [if_neg k3]
  by_cases k4 : e.k = 4
  · rw [if_pos k4]
    split
    · exact h
    · exact h.aw (Or.inl rfl)
  rw [if_neg k4]
  by_cases k5 : e.k = 5
  · rw [if_pos k5]
    exact h.u (by decide)
  rw [if_neg k5]
  by_cases k6 : e.k = 6
  · rw [if_pos k6]
    split
    · exact h
    · split
      · split
        · exact h
        · exact WL.cl (h.u (by decide))
      · exact h.u (by decide)
  rw [if_neg k6]
  by_cases k7 : e.k = 7
  · rw [if_pos k7]
    split
    · exact h
    · split
      · exact h
      · dsimp only
        split
        · exact bar _ _ h
        · exact h
  · rw [if_neg k7]
    exact h
theorem sM_01 {E : Env} {d : Nat} {e : Ev} {s : Lfe} : (sMeet E d e s).1 = 0 ∨ (sMeet E d e s).1 = 1 := by
  unfold sMeet
  repeat' split
  all_goals first | exact Or.inl rfl | exact Or.inr rfl
theorem meets_e {N v p n d c : Nat} {E : Env} {e : Ev} {σ : St} (hN : 700 ≤ N) (hE : EX v p n E σ) (hW : WL (sl v p σ)) (hc : sl v p σ 84 0 = nI c) (hc2 : c < 55) (h1 : 312 ≤ d) (hd : d < 936) (hk : ∃ k : Nat, k ≤ 7 ∧ e.k = nI k) (ho : e.k = 7 → OfX N p e σ) : ∃ σ', fLife_meets N v p e.k e.n (nI d) e.cl σ = some ((sMeet E d e (sl v p σ)).1, σ') ∧ LfX v p σ σ' ∧ sl v p σ' = (sMeet E d e (sl v p σ)).2 := by
  have an : ∀ x : Int32, x = 0 ∨ x = 1 → x &&& 1 = x := fun x h => by rcases h with rfl | rfl <;> decide
  obtain ⟨k, k7, hk⟩ := hk
  have f : ∀ g i, slr g → σ.1 g v p i = sl v p σ g i := fun g i q => (if_pos q).symm
  unfold fLife_meets
  rcases (by omega : k = 0 ∨ k = 1 ∨ k = 2 ∨ k = 3 ∨ k = 4 ∨ k = 5 ∨ k = 6 ∨ k = 7) with rfl | rfl | rfl | rfl | rfl | rfl | rfl | rfl
  · have hk : e.k = 0 := hk
    obtain ⟨σ', i1, i2, i3⟩ := leaves_e (N := N) hN hE hW h1 hd hk
    rw [if_pos hk, i1, bnd_e, an _ sM_01]
    exact ⟨σ', rfl, i2, i3⟩
  · have hk : e.k = 1 := hk
    rw [if_neg (show ¬ e.k = 0 by rw [hk]; decide), if_pos hk, sM_1 hk]
    unfold fLife_isHired
    rw [f _ _ (by decide), f _ _ (by decide)]
    by_cases c1 : sl v p σ 87 0 = 0
    · rw [if_pos c1, if_pos c1]
      by_cases c2 : sl v p σ 88 0 = 0
      · rw [if_pos c2, if_pos c2, nmx, nmx]
        obtain ⟨σ3, j1, j2, j3⟩ := close_e (N := N) (v := v) (p := p) (d := d) (σ := sI (sI σ 87 v p 0 1) 93 v p 0 e.n) (by rw [sl_I (by decide), sl_I (by decide)]; exact (hW.iw (Or.inr rfl)).u (by decide))
        rw [j1, bn1_e, bnd_e]
        refine ⟨σ3, rfl, ((LfX.s (by decide)).tr (LfX.s (by decide))).tr j2, ?_⟩
        rw [j3, sl_I (by decide), sl_I (by decide)]
      · rw [if_neg c2, if_neg c2, bnd_e]
        exact ⟨σ, rfl, LfX.rf, rfl⟩
    · rw [if_neg c1, if_neg c1, bnd_e]
      exact ⟨σ, rfl, LfX.rf, rfl⟩
  · have hk : e.k = 2 := hk
    obtain ⟨σ', i1, i2, i3⟩ := signs_e (N := N) hN hE hW hc hc2 h1 hd hk
    rw [if_neg (show ¬ e.k = 0 by rw [hk]; decide), if_neg (show ¬ e.k = 1 by rw [hk]; decide), if_pos hk, i1, bnd_e, an _ sM_01]
    exact ⟨σ', rfl, i2, i3⟩
  · have hk : e.k = 3 := hk
    rw [if_neg (show ¬ e.k = 0 by rw [hk]; decide), if_neg (show ¬ e.k = 1 by rw [hk]; decide), if_neg (show ¬ e.k = 2 by rw [hk]; decide), if_pos hk, sM_3 hk]
    unfold fLife_goesAway
    rw [f _ _ (by decide)]
    by_cases c2 : sl v p σ 88 0 = 0
    · rw [if_pos c2, if_pos c2]
      obtain ⟨σ3, j1, j2, j3⟩ := close_e (N := N) (v := v) (p := p) (d := d) (σ := σ) hW
      rw [j1, bn1_e, nmx, bnd_e]
      refine ⟨_, rfl, j2.tr (LfX.s (by decide)), ?_⟩
      rw [sl_I (by decide), j3]
    · rw [if_neg c2, if_neg c2, bnd_e]
      exact ⟨σ, rfl, LfX.rf, rfl⟩
  · have hk : e.k = 4 := hk
    rw [if_neg (show ¬ e.k = 0 by rw [hk]; decide), if_neg (show ¬ e.k = 1 by rw [hk]; decide), if_neg (show ¬ e.k = 2 by rw [hk]; decide), if_neg (show ¬ e.k = 3 by rw [hk]; decide), if_pos hk, sM_4 hk]
    unfold fLife_comesBack
    rw [nmx, nmx, bnd_e, f _ _ (by decide)]
    refine ⟨sI σ 88 v p 0 0, ?_, LfX.s (by decide), ?_⟩
    · rcases hW.2.2.2 with z | z
      · rw [z, if_pos rfl]
        rfl
      · rw [z, if_neg (by decide)]
        rfl
    · rw [sl_I (by decide)]
      by_cases c2 : sl v p σ 88 0 = 0
      · rw [if_pos c2, uL_same c2]
      · rw [if_neg c2]
  · have hk : e.k = 5 := hk
    rw [if_neg (show ¬ e.k = 0 by rw [hk]; decide), if_neg (show ¬ e.k = 1 by rw [hk]; decide), if_neg (show ¬ e.k = 2 by rw [hk]; decide), if_neg (show ¬ e.k = 3 by rw [hk]; decide), if_neg (show ¬ e.k = 4 by rw [hk]; decide), if_pos hk, sM_5 hk, nmx]
    refine ⟨_, rfl, LfX.s (by decide), ?_⟩
    rw [sl_I (by decide)]
  · have hk : e.k = 6 := hk
    rw [if_neg (show ¬ e.k = 0 by rw [hk]; decide), if_neg (show ¬ e.k = 1 by rw [hk]; decide), if_neg (show ¬ e.k = 2 by rw [hk]; decide), if_neg (show ¬ e.k = 3 by rw [hk]; decide), if_neg (show ¬ e.k = 4 by rw [hk]; decide), if_neg (show ¬ e.k = 5 by rw [hk]; decide), if_pos hk, sM_6 hk]
    unfold fLife_goesShort fLife_goesShort_11 fLife_goesShort_32 fLife_goesShort_42
    rw [f _ _ (by decide), f _ _ (by decide)]
    by_cases c1 : sl v p σ 87 0 = 0
    · refine ⟨σ, ?_, LfX.rf, ?_⟩
      · by_cases c2 : e.n = 6
        · rw [if_pos c2, if_pos c1, if_pos c1, bnd_e]; rfl
        · rw [if_neg c2, if_pos c1, if_pos c1, bnd_e]; rfl
      · rw [if_pos c1]
    · by_cases c2 : e.n = 6
      · by_cases c3 : sl v p σ 89 0 = 0
        · refine ⟨σ, ?_, LfX.rf, ?_⟩
          · rw [if_pos c2, if_neg c1, if_neg (by decide), if_pos c3, if_neg c1, if_pos c2, if_pos c3, bnd_e]
            rfl
          · rw [if_neg c1, if_pos c2, if_pos c3]
        · obtain ⟨σ3, j1, j2, j3⟩ := close_e (N := N) (v := v) (p := p) (d := d) (σ := sI σ 89 v p 0 0) (by rw [sl_I (by decide)]; exact hW.u (by decide))
          refine ⟨σ3, ?_, (LfX.s (by decide)).tr j2, ?_⟩
          · rw [if_pos c2, if_neg c1, if_neg (by decide), if_neg c3, if_neg (by decide), nmx, if_neg (by decide), j1, bn1_e, bnd_e, if_neg c1, if_pos c2, if_neg c3]
            rfl
          · rw [if_neg c1, if_pos c2, if_neg c3, j3, sl_I (by decide)]
      · refine ⟨sI σ 89 v p 0 e.n, ?_, LfX.s (by decide), ?_⟩
        · rw [if_neg c2, if_neg c1, if_pos rfl, if_pos rfl, nmx, if_pos rfl, bnd_e, if_neg c1, if_neg c2]
          rfl
        · rw [if_neg c1, if_neg c2, sl_I (by decide)]
  · have hk : e.k = 7 := hk
    obtain ⟨σ', i1, i2, i3⟩ := refuses_e (N := N) hN hE hW h1 hd hk (ho hk)
    rw [if_neg (show ¬ e.k = 0 by rw [hk]; decide), if_neg (show ¬ e.k = 1 by rw [hk]; decide), if_neg (show ¬ e.k = 2 by rw [hk]; decide), if_neg (show ¬ e.k = 3 by rw [hk]; decide), if_neg (show ¬ e.k = 4 by rw [hk]; decide), if_neg (show ¬ e.k = 5 by rw [hk]; decide), if_neg (show ¬ e.k = 6 by rw [hk]; decide), if_pos hk, i1, bnd_e, an _ sM_01]
    exact ⟨σ', rfl, i2, i3⟩
