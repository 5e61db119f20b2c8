/-! a day of a person = sPass -/
theorem i_m1 {n : Nat} (h : n ≤ 1000) (h1 : 1 ≤ n) : nI n - 1 = nI (n - 1) := by
  obtain ⟨m, rfl⟩ : ∃ m, n = m + 1 := ⟨n - 1, by omega⟩
  exact nI_sub1 m
theorem tI_n {x : Option (Nat × Cl)} (h : ∀ y, x = some y → y.1 < 17) : ∃ t : Nat, t ≤ 17 ∧ tI x = nI t - 1 := by
  cases x with
  | none => exact ⟨0, by decide, rfl⟩
  | some y => exact ⟨y.1 + 1, by have := h y rfl; omega, (nI_sub1 _).symm⟩
theorem dayOf_M {N n p d nc nb : Nat} {E : Env} {fr to : Nat → Int32} {μ : St} {s : Lfe} (hN : 1000 ≤ N) (h0 : Cx N n p d E fr to μ) (hA0 : RfA p d μ s nc nb) (hW : WL s) : ∃ μ', fM_dayOf N (nI p) μ = some μ' ∧ PnX p nc nc nb nb μ μ' ∧ RfA p (d + 1) μ' (sPass E d s) nc nb := by
  have hp := h0.p
  have hd := h0.d2
  have hd1 := h0.d1
  have hl := h0.l
  obtain ⟨y, hy⟩ : ∃ y, y = 624 * p + (d - 312) := ⟨_, rfl⟩
  have hy2 : y < 12480 := by omega
  obtain ⟨ν, hν⟩ : ∃ ν, ν = sI (sI (sI (sI μ 268 0 0 0 (nI p)) 270 0 0 0 0) 271 0 0 0 0) 272 0 0 0 0 := ⟨_, rfl⟩
  have fν : ∀ f i, f ≠ 268 → ¬ (270 ≤ f ∧ f ≤ 272) → ν.1 f 0 0 i = μ.1 f 0 0 i := fun f i q q2 => by rw [hν, sI_o (by omega), sI_o (by omega), sI_o (by omega), sI_o q]
  have pν : PnX p nc nc nb nb μ ν := by
    rw [hν]
    exact (((PnX.g (by decide)).tr (PnX.g (by decide))).tr (PnX.g (by decide))).tr (PnX.g (by decide))
  have hwho : ν.1 268 0 0 0 = nI p := by rw [hν, sI_o (by decide), sI_o (by decide), sI_o (by decide), sI_s]
  have z1 : ν.1 270 0 0 0 = 0 := by rw [hν, sI_o (by decide), sI_o (by decide), sI_s]
  have z2 : ν.1 271 0 0 0 = 0 := by rw [hν, sI_o (by decide), sI_s]
  have z3 : ν.1 272 0 0 0 = 0 := by rw [hν, sI_s]
  obtain ⟨c, cm, b1, b2, b3, b4, b5⟩ := hA0
  have hbd := b2.bd
  obtain ⟨w, hw⟩ : ∃ w : Int32, w = if s 85 0 = 0 then -1 else nI (c - 1) := ⟨_, rfl⟩
  obtain ⟨κ, hκ⟩ : ∃ κ, κ = sI (sI (sJ ν 308 0 0 y 0) 305 0 0 y (-1)) 306 0 0 y w := ⟨_, rfl⟩
  have pκ : PnX p nc nc nb nb μ κ := by
    rw [hκ, hy]
    exact ((pν.tr (PnX.yj (by omega))).tr (PnX.y (by decide) (by omega))).tr (PnX.y (by decide) (by omega))
  have fκ : ∀ f i, f ≠ 268 → ¬ (270 ≤ f ∧ f ≤ 272) → (304 ≤ f ∧ f ≤ 306 → i ≠ y) → κ.1 f 0 0 i = μ.1 f 0 0 i := fun f i q q2 q3 => by
    rw [hκ, sI_1, if_neg (fun z => q3 (by omega) z.2.2.2), sI_1, if_neg (fun z => q3 (by omega) z.2.2.2), sJ_1]
    exact fν f i q q2
  have fκ2 : ∀ f i, f ≠ 306 → f ≠ 305 → κ.1 f 0 0 i = ν.1 f 0 0 i := fun f i q q2 => by rw [hκ, sI_o q, sI_o q2, sJ_1]
  have jκ : ∀ f i, ¬ (f = 308 ∧ i = y) → κ.2 f 0 0 i = μ.2 f 0 0 i := fun f i q => by
    rw [hκ]
    show (sJ ν 308 0 0 y 0).2 f 0 0 i = _
    rw [sJ_2, if_neg (fun z => q ⟨z.1, z.2.2.2⟩), hν]
    rfl
  have dκ : κ.2 308 0 0 y = 0 := by
    rw [hκ]
    show (sJ ν 308 0 0 y 0).2 308 0 0 y = _
    rw [sJ_2, if_pos ⟨rfl, rfl, rfl, rfl⟩]
  have tκ : κ.1 305 0 0 y = -1 := by rw [hκ, sI_o (by decide), sI_s]
  have cκ : κ.1 306 0 0 y = w := by rw [hκ, sI_s]
  have hκx : Cx N n p d E fr to κ := h0.pn pκ
  obtain ⟨a1, a2, a3, a4, a5⟩ := parts_y (μ' := κ) hy hd1 hd (fun f i q => fκ f i (by omega) (by omega) (by omega)) (fun f i q q2 => fκ f i (by omega) (by omega) (fun _ => q2)) (fun i => jκ _ _ (by omega)) (fun i q => jκ _ _ (fun z => q z.2)) ⟨b1, b2, b3, b4, b5⟩
  have em : (624 : Int32) * nI p + nI d - 312 = nI y := by
    rw [show (624 : Int32) * nI p = nI (624 * p) from (Int32.ofNat_mul 624 p).symm, nI_add, show 624 * p + d = 312 + y by omega]
    exact nI_subl
  have e0 : fM_dayOf N (nI p) μ = (if s 85 0 = 0 then (if s 88 0 = 0 then (if s 87 0 = 0 then some (sI κ 304 0 0 y 9) else some (sI κ 304 0 0 y 7)) else some (sI κ 304 0 0 y 8)) else bnd (fM_kindOf N (nI p) (nI (cm (c - 1))) κ) fun r2 σ3 => nm (sI σ3 304 0 0 y r2) fun (σ4 : St) => if r2 < 3 then fM_dayOf_142 N (nI y) (nI (cm (c - 1))) r2 σ4 else if 5 < r2 then fM_dayOf_142 N (nI y) (nI (cm (c - 1))) r2 σ4 else bn1 (fM_pay N (nI y) r2 σ4) fun σ5 => fM_dayOf_142 N (nI y) (nI (cm (c - 1))) r2 σ5) := by
    unfold fM_dayOf fM_noOffer
    rw [show μ.1 269 0 0 0 = nI d from h0.n, em, nmx, openOf_e b2 hp, bn1_e, nmx, nmx, nmx, nmx, bn1_e, ← hν, chk_t (inb_n hy2 (by decide)), nI_clamp (n := y) (by omega), nmx, nmx]
    unfold fM_dayOf_64 fM_dayOf_105
    by_cases o : s 85 0 = 0
    · rw [if_pos o] at hw
      have hκ' : κ = sI (sI (sJ ν 308 0 0 y 0) 305 0 0 y (-1)) 306 0 0 y (-1) := by rw [hκ, hw]
      rw [if_pos o, if_pos o, if_pos rfl, chk_t (inb_n hy2 (by decide)), nmx, if_pos rfl, chk_t (inb_n hp (by decide)), chk_t (inb_n hy2 (by decide)), chk_t (inb_n hy2 (by decide)), chk_t (inb_n hy2 (by decide)), nmx, nmx, nmx, nI_clamp (n := y) (by omega), nI_clamp (n := p) (by omega), ← hκ', show κ.1 276 0 0 p = _ from a1.aw, show κ.1 275 0 0 p = _ from a1.wk]
    · rw [if_neg o] at hw
      obtain ⟨c0, e1, e2, e3⟩ := b2.c0 o
      obtain ⟨-, -, y3, -⟩ := b2.cl (c - 1) (by omega)
      have e289 : (sI (sJ ν 308 0 0 y 0) 305 0 0 y (-1)).1 289 0 0 (cm (c - 1)) = w := by
        rw [sI_o (by decide), sJ_1, fν _ _ (by decide) (by decide), hw]
        exact y3
      have ek : sI (sI (sJ ν 308 0 0 y 0) 305 0 0 y (-1)) 306 0 0 (nI y).toNatClampNeg w = κ := by rw [nI_clamp (n := y) (by omega), hκ]
      rw [if_neg o, if_neg o, if_neg (m1_ne (by omega)), chk_t (inb_n (by omega) (by decide)), nI_clamp (n := cm (c - 1)) (by omega), e289, chk_t (inb_n hy2 (by decide)), nmx, if_neg (m1_ne (by omega)), ek]
      congr 1
      funext r2 σ3
      rw [chk_t (inb_n hy2 (by decide)), nI_clamp (n := y) (by omega)]
  rw [e0]
  by_cases o : s 85 0 = 0
  · rw [if_pos o] at hw ⊢
    have fin : ∀ k : Nat, k = 7 ∨ k = 8 ∨ k = 9 → dayK E d s = (nI k, 0, -1) → ∃ μ', some (sI κ 304 0 0 y (nI k)) = some μ' ∧ PnX p nc nc nb nb μ μ' ∧ RfA p (d + 1) μ' (sPass E d s) nc nb := by
      intro k hk ek
      obtain ⟨f1, f2, f3, f4, f5⟩ := parts_y (μ' := sI κ 304 0 0 y (nI k)) hy hd1 hd (fun f i q => sI_o (by omega)) (fun f i q q2 => by rw [sI_1, if_neg (fun z => q2 z.2.2.2)]) (fun _ => rfl) (fun _ _ => rfl) ⟨a1, a2, a3, a4, a5⟩
      have es : sPass E d s = uL (uL s 78 (d - 312) (pck (nI k) (nI 0) (nI 0 - 1) (nI 0 - 1))) 83 0 (nI d) := by
        unfold sPass
        rw [ek]
        dsimp only
        rw [if_pos o, if_pos o]
        rfl
      have kp : ¬ isPd (nI k) = true := fun q => by have := (isPd_n (by omega)).mp q; omega
      have k0 : ¬ nI k = 0 := fun q => by have := (sC_lt (k := k) (by omega)).2.2.2.1.mp q; omega
      refine ⟨_, rfl, pκ.tr (by rw [hy]; exact PnX.y (by decide) (by omega)), ?_⟩
      rw [es]
      refine RfA.day hd1 hd f1 f2 f3 f5 (by omega) (by decide) (by decide) (by decide) ?_ ?_ ?_ ?_ f4 (fun _ => rfl) ?_ ?_ ?_
      · rw [← hy, sI_s]
      · rw [← hy]
        exact dκ
      · rw [← hy, sI_o (by decide)]
        exact tκ
      · rw [← hy, sI_o (by decide), cκ, hw]
        rfl
      · exact (Int32.add_zero _).symm
      · rw [if_neg kp, Int32.add_zero]
      · rw [if_neg k0, Int32.add_zero]
    by_cases q1 : s 88 0 = 0
    · by_cases q2 : s 87 0 = 0
      · rw [if_pos q1, if_pos q2]
        exact fin 9 (by decide) (by unfold dayK; rw [if_pos o, if_pos q1, if_pos q2]; rfl)
      · rw [if_pos q1, if_neg q2]
        exact fin 7 (by decide) (by unfold dayK; rw [if_pos o, if_pos q1, if_neg q2]; rfl)
    · rw [if_neg q1]
      exact fin 8 (by decide) (by unfold dayK; rw [if_pos o, if_neg q1]; rfl)
  · rw [if_neg o] at hw ⊢
    obtain ⟨c0, e1, e2, e3⟩ := a2.c0 o
    have hr : rw_ s = 11 * (c - 1) := e1
    have vk : ∀ χ : St, (∀ f i, f < 275 → χ.1 f 0 0 i = κ.1 f 0 0 i) → Cx N n p d E fr to χ → RfA p d χ s nc nb → VM N χ (vS E d s) := fun χ hχ hx hA => (Cx.vm (by omega) hx hA ((hχ _ _ (by decide)).trans ((fκ2 _ _ (by decide) (by decide)).trans hwho))).congr (vO_0 ((hχ _ _ (by decide)).trans ((fκ2 _ _ (by decide) (by decide)).trans z1)) ((hχ _ _ (by decide)).trans ((fκ2 _ _ (by decide) (by decide)).trans z2)) ((hχ _ _ (by decide)).trans ((fκ2 _ _ (by decide) (by decide)).trans z3)))
    obtain ⟨τ, t1, t2, t3⟩ := kindOf_M hN hκx a1 a2 a3 o (vk κ (fun _ _ _ => rfl) hκx ⟨c, cm, a1, a2, a3, a4, a5⟩)
    obtain ⟨k, k6, ek, hcase⟩ := dayK_r (E := E) (d := d) o
    rw [ek] at t1 t3
    obtain ⟨ρ, hρ⟩ : ∃ ρ, ρ = sI τ 304 0 0 y (nI k) := ⟨_, rfl⟩
    have fρ : ∀ f i, ¬ (f = 304 ∧ i = y) → ρ.1 f 0 0 i = κ.1 f 0 0 i := fun f i q => by
      rw [hρ, sI_1, if_neg (fun z => q ⟨z.1, z.2.2.2⟩), t2.1]
    have jρ : ∀ f a b i, f ≠ 267 → ρ.2 f a b i = κ.2 f a b i := fun f a b i q => by
      rw [hρ]
      exact t2.2 f a b i q
    have kρ : ρ.1 304 0 0 y = nI k := by rw [hρ, sI_s]
    have pρ : PnX p nc nc nb nb κ ρ := by
      rw [hρ, hy]
      exact (PnX.sk t2).tr (PnX.y (by decide) (by omega))
    have Aρ := parts_y (μ' := ρ) hy hd1 hd (fun f i q => fρ f i (by omega)) (fun f i q q2 => fρ f i (fun z => q2 z.2)) (fun i => jρ _ _ _ _ (by decide)) (fun i _ => jρ _ _ _ _ (by decide)) ⟨a1, a2, a3, a4, a5⟩
    obtain ⟨l2, l5, l3, l0, l22, l33, l44, l55⟩ := sC_lt (k := k) (by omega)
    have mid : ∃ χ yy tt, (if nI k < 3 then fM_dayOf_142 N (nI y) (nI (cm (c - 1))) (nI k) ρ else if 5 < nI k then fM_dayOf_142 N (nI y) (nI (cm (c - 1))) (nI k) ρ else bn1 (fM_pay N (nI y) (nI k) ρ) fun σ5 => fM_dayOf_142 N (nI y) (nI (cm (c - 1))) (nI k) σ5) = fM_dayOf_142 N (nI y) (nI (cm (c - 1))) (nI k) χ ∧ PnX p nc nc nb nb ρ χ ∧ (∀ f i, ¬ (f = 305 ∧ i = y) → χ.1 f 0 0 i = ρ.1 f 0 0 i) ∧ (∀ f i, f ≠ 267 → ¬ (f = 308 ∧ i = y) → χ.2 f 0 0 i = ρ.2 f 0 0 i) ∧ yy ≤ 9999 ∧ tt ≤ 17 ∧ χ.1 305 0 0 y = nI tt - 1 ∧ χ.2 308 0 0 y = (nI yy).toInt64 ∧ (dayK E d s).2.1 = nI yy ∧ (dayK E d s).2.2 = nI tt - 1 := by
      rcases hcase with ⟨h1, h2, h3⟩ | ⟨h1, h2, h3⟩
      · have h35 := (isPd_n (by omega)).mp h1
        obtain ⟨yy, y1, y2⟩ := payD_r (E := E) (d := d) (vs := vS E d s) (k := nI k)
        obtain ⟨tt, x1, x2⟩ := tI_n (x := (E.sh d).last (payW (nI k))) (fun z hz => by
          rw [h0.sh] at hz
          have := (last_in hz).1
          have hn17 : z.1 < 17 := by
            rcases lawC_e hκx.sh hκx.h (show payW (nI k) < 7 by unfold payW; split <;> decide) with ⟨q1, -⟩ | ⟨t, cl, i, q1, -, q2, -⟩
            · rw [h0.sh, hz] at q1
              cases q1
            · rw [h0.sh, hz] at q1
              cases q1
              exact q2
          exact hn17)
        obtain ⟨χ, g1, g2, g3, g4, g5⟩ := pay_M (y := y) (k := nI k) hN (hκx.pn pρ) (vk ρ (fun f i q => fρ f i (by omega)) (hκx.pn pρ) ⟨c, cm, Aρ⟩) hy2 (by rcases h35 with z | z | z; exact Or.inl (l33.mpr z); exact Or.inr (Or.inl (l44.mpr z)); exact Or.inr (Or.inr (l55.mpr z))) t3
        refine ⟨χ, yy, tt, ?_, ⟨fun f a b i q => g2 f a b i (by omega), fun f i q _ => g2 f 0 0 i (by omega), Nat.le_refl _, fun j _ _ f q => g2 f 0 0 j (by omega), fun j _ => g2 _ _ _ _ (by omega), fun j u v => by omega, Nat.le_refl _, fun j _ f q => g2 f 0 0 j (by omega), fun j u v => by omega, fun f i q q2 => g2 f 0 0 i (fun z => q2 (by omega)), fun f a b i q _ q3 => g3 f a b i q (fun z => q3 z.1), fun j _ _ => g3 _ _ _ _ (by decide) (fun z => absurd z.1 (by decide)), fun i q => g3 _ _ _ _ (by decide) (fun z => q (by omega))⟩, fun f i q => g2 f 0 0 i (fun z => q ⟨z.1, z.2.2.2⟩), fun f i q q2 => g3 f 0 0 i q (fun z => q2 ⟨z.1, z.2.2.2⟩), y1, x1, g4.trans x2, by rw [← y2]; exact g5, h2.trans y2, h3.trans x2⟩
        rw [if_neg (fun q => by have := l3.mp q; omega), if_neg (fun q => by have := l5.mp q; omega), g1, bn1_e]
      · have h35 : ¬ (k = 3 ∨ k = 4 ∨ k = 5) := fun q => by
          rw [(isPd_n (by omega)).mpr q] at h1
          exact absurd h1 (by decide)
        refine ⟨ρ, 0, 0, ?_, PnX.rf, fun _ _ _ => rfl, fun _ _ _ _ => rfl, by decide, by decide, ?_, ?_, h2, h3⟩
        · by_cases z : k < 3
          · rw [if_pos (l3.mpr z)]
          · rw [if_neg (fun q => z (l3.mp q)), if_pos (l5.mpr (by omega))]
        · rw [fρ _ _ (by omega)]
          exact tκ
        · rw [jρ _ _ _ _ (by decide)]
          exact dκ
    obtain ⟨χ, yy, tt, m1, m2, m3, m4, m5, m6, m7, m8, m9, m10⟩ := mid
    obtain ⟨c1, c2, c3', c4, c5⟩ := parts_y (μ' := χ) hy hd1 hd (fun f i q => m3 f i (by omega)) (fun f i q q2 => m3 f i (fun z => q2 z.2)) (fun i => m4 _ _ (by decide) (fun z => absurd z.1 (by decide))) (fun i q => m4 _ _ (by decide) (fun z => q z.2)) Aρ
    obtain ⟨j, hj⟩ : ∃ j, j = cm (c - 1) := ⟨_, rfl⟩
    obtain ⟨F, hF⟩ : ∃ F, F = sJ (sI (sI (sI (sI χ 292 0 0 j (χ.1 292 0 0 j + if nI k = 2 then 1 else 0)) 293 0 0 j (χ.1 293 0 0 j + if nI k = 3 then 1 else 0)) 294 0 0 j (χ.1 294 0 0 j + if nI k = 4 then 1 else 0)) 295 0 0 j (χ.1 295 0 0 j + if nI k = 5 then 1 else 0)) 300 0 0 j (χ.2 300 0 0 j + χ.2 308 0 0 y) := ⟨_, rfl⟩
    have oF : ∀ f i, ¬ ((292 ≤ f ∧ f ≤ 295) ∧ i = j) → F.1 f 0 0 i = χ.1 f 0 0 i := fun f i q => by
      rw [hF, sJ_1, sI_1, if_neg (fun z => q (by omega)), sI_1, if_neg (fun z => q (by omega)), sI_1, if_neg (fun z => q (by omega)), sI_1, if_neg (fun z => q (by omega))]
    have v2 : F.1 292 0 0 j = χ.1 292 0 0 j + if nI k = 2 then 1 else 0 := by rw [hF, sJ_1, sI_o (by decide), sI_o (by decide), sI_o (by decide), sI_s]
    have v3 : F.1 293 0 0 j = χ.1 293 0 0 j + if nI k = 3 then 1 else 0 := by rw [hF, sJ_1, sI_o (by decide), sI_o (by decide), sI_s]
    have v4' : F.1 294 0 0 j = χ.1 294 0 0 j + if nI k = 4 then 1 else 0 := by rw [hF, sJ_1, sI_o (by decide), sI_s]
    have v5 : F.1 295 0 0 j = χ.1 295 0 0 j + if nI k = 5 then 1 else 0 := by rw [hF, sJ_1, sI_s]
    have jF : ∀ f i, ¬ (f = 300 ∧ i = j) → F.2 f 0 0 i = χ.2 f 0 0 i := fun f i q => by
      rw [hF, sJ_2, if_neg (fun z => q ⟨z.1, z.2.2.2⟩)]
      rfl
    have j0 : F.2 300 0 0 j = χ.2 300 0 0 j + (nI yy).toInt64 := by
      rw [hF, sJ_2, if_pos ⟨rfl, rfl, rfl, rfl⟩, m8]
    have so : ∀ f i, f ≠ 79 → f ≠ 81 → sCount (nI k) (nI yy) s f i = s f i := fun f i q1 q2 => sCt_o (by omega) q1 q2
    have es : sPass E d s = uL (uL (sCount (nI k) (nI yy) s) 78 (d - 312) (pck (nI k) (nI yy) (nI tt - 1) (nI c - 1))) 83 0 (nI d) := by
      unfold sPass
      dsimp only
      rw [if_neg o, if_neg o, ek, m9, m10, a2.cc]
    obtain ⟨st0, st1, st2⟩ := sCt_t (k := k) (w := nI yy) (s := s) (by omega)
    obtain ⟨w1, w2, w3, w4⟩ := c2.cl (c - 1) (by omega)
    rw [← hj] at w1 w2 w3 w4
    have ij : ∀ i, i < c → i ≠ c - 1 → cm i ≠ j := fun i hi z q => z (c2.cj i (c - 1) hi (by omega) (q.trans hj))
    refine ⟨F, ?_, ?_, ?_⟩
    · rw [t1, bnd_e, nmx, ← hρ, m1, cntD_M (by omega) hy2, hF, hj]
    · refine ((pκ.tr pρ).tr m2).tr ?_
      rw [hF]
      have q : ∀ (ζ : St) (f : Nat) (x : Int32), 289 ≤ f ∧ f ≤ 299 → ζ.1 288 0 0 j = nI p → PnX p nc nc nb nb ζ (sI ζ f 0 0 j x) := fun ζ f x h1 h2 => PnX.k h1 h2
      exact ((((q _ _ _ (by decide) w2).tr (q _ _ _ (by decide) ((sI_o (by decide)).trans w2))).tr (q _ _ _ (by decide) ((sI_o (by decide)).trans ((sI_o (by decide)).trans w2)))).tr (q _ _ _ (by decide) ((sI_o (by decide)).trans ((sI_o (by decide)).trans ((sI_o (by decide)).trans w2))))).tr (PnX.kj ((sI_o (by decide)).trans ((sI_o (by decide)).trans ((sI_o (by decide)).trans ((sI_o (by decide)).trans w2)))))
    · rw [es]
      refine RfA.day (c := c) (cm := cm) hd1 hd ?_ ⟨?_, ?_, ?_, ?_, fun i hi => ?_, fun i hi hip => ?_, ?_, fun q1 q2 => ?_, fun i hi => ?_, c2.bd, c2.cj⟩ (c3'.mv (fun f i q => oF f i (by omega)) (so _ _ (by decide) (by decide))) (fun i hi => ?_) (by omega) m5 m6 (show c ≤ 60 by
        obtain ⟨⟨c', w1, w2, -⟩, -⟩ := hW
        have wb := c2.bd
        have : c = c' := (nI_eq (by omega) (by omega)).mp (c2.cc.symm.trans w2)
        omega) ?_ ?_ ?_ ?_ (c4.mv (by omega) (fun f i q _ => oF f _ (by omega)) (fun i _ => jF _ _ (by omega)) (fun _ => rfl) (fun _ => rfl)) (fun i => so _ _ (by decide) (by decide)) st0 ?_ ?_
      · exact ⟨(oF _ _ (by omega)).trans (c1.wk.trans (so _ _ (by decide) (by decide)).symm), (oF _ _ (by omega)).trans (c1.aw.trans (so _ _ (by decide) (by decide)).symm), (oF _ _ (by omega)).trans (c1.sh.trans (so _ _ (by decide) (by decide)).symm), (oF _ _ (by omega)).trans (c1.us.trans (so _ _ (by decide) (by decide)).symm), (oF _ _ (by omega)).trans (c1.lf.trans (so _ _ (by decide) (by decide)).symm), (oF _ _ (by omega)).trans (c1.me.trans (so _ _ (by decide) (by decide)).symm), (oF _ _ (by omega)).trans (c1.re.trans (so _ _ (by decide) (by decide)).symm)⟩
      · rw [so _ _ (by decide) (by decide)]
        exact c2.cc
      · exact (oF _ _ (by omega)).trans c2.cn
      · exact (oF _ _ (by omega)).trans c2.la
      · exact (oF _ _ (by omega)).trans c2.nc
      · obtain ⟨u1, u2, u3, u4⟩ := c2.cl i hi
        refine ⟨u1, (oF _ _ (by omega)).trans u2, (oF _ _ (by omega)).trans u3, ?_⟩
        have sc : ∀ q, sCount (nI k) (nI yy) s 79 q = if q = 11 * (c - 1) + 6 then s 79 q + nI yy else s 79 q + if 2 ≤ k ∧ k ≤ 5 ∧ q = 11 * (c - 1) + k then 1 else 0 := fun q => by
          rw [sCt_c (by omega), hr]
        by_cases z : i = c - 1
        · rw [z, ← hj]
          obtain ⟨x0, x1, x2, x3, x4, x5, x7, x8, x9, x10⟩ := w4
          have plain : ∀ q, q = 0 ∨ q = 1 ∨ q = 7 ∨ q = 8 ∨ q = 9 ∨ q = 10 → sCount (nI k) (nI yy) s 79 (11 * (c - 1) + q) = s 79 (11 * (c - 1) + q) := fun q hq => by
            rw [sc, if_neg (by omega), if_neg (by omega), Int32.add_zero]
          have cnt : ∀ q, 2 ≤ q → q ≤ 5 → sCount (nI k) (nI yy) s 79 (11 * (c - 1) + q) = s 79 (11 * (c - 1) + q) + if k = q then 1 else 0 := fun q h1 h2 => by
            rw [sc, if_neg (by omega)]
            by_cases y : k = q
            · rw [if_pos y, if_pos (by omega)]
            · rw [if_neg y, if_neg (by omega)]
          have ifc : ∀ (q : Nat) (z : Int32), (nI k = z ↔ k = q) → (if nI k = z then (1 : Int32) else 0) = if k = q then 1 else 0 := fun q z h => by
            by_cases y : k = q
            · rw [if_pos y, if_pos (h.mpr y)]
            · rw [if_neg y, if_neg (fun w => y (h.mp w))]
          have p0 := plain 0 (by decide)
          rw [Nat.add_zero] at p0
          exact ⟨by rw [oF _ _ (by omega), x0, p0], by rw [oF _ _ (by omega), x1, plain 1 (by decide)], by rw [show F.1 292 0 0 j = _ from v2, ifc 2 2 l22, cnt 2 (by decide) (by decide)]; exact congrArg (· + if k = 2 then 1 else 0) x2, by rw [show F.1 293 0 0 j = _ from v3, ifc 3 3 l33, cnt 3 (by decide) (by decide)]; exact congrArg (· + if k = 3 then 1 else 0) x3, by rw [show F.1 294 0 0 j = _ from v4', ifc 4 4 l44, cnt 4 (by decide) (by decide)]; exact congrArg (· + if k = 4 then 1 else 0) x4, by rw [show F.1 295 0 0 j = _ from v5, ifc 5 5 l55, cnt 5 (by decide) (by decide)]; exact congrArg (· + if k = 5 then 1 else 0) x5, by rw [oF _ _ (by omega), x7, plain 7 (by decide)], by rw [oF _ _ (by omega), plain 8 (by decide), x8], by rw [oF _ _ (by omega), x9, plain 9 (by decide)], by rw [oF _ _ (by omega), x10, plain 10 (by decide)]⟩
        · refine u4.mv (fun f q => oF f _ (fun y => ij i hi z y.2)) (fun q hq => ?_)
          rw [sc, if_neg (by omega), if_neg (by omega), Int32.add_zero]
      · exact c2.cv i hi (by rw [← oF _ _ (by omega)]; exact hip)
      · rw [so _ _ (by decide) (by decide), c2.op, oF _ _ (by omega)]
      · rw [so _ _ (by decide) (by decide), oF _ _ (by omega)]
        rw [oF _ _ (by omega)] at q2
        exact c2.co q1 q2
      · rw [oF _ _ (by omega)]
        exact c2.ol i hi
      · rw [sCt_c (by omega), hr]
        by_cases z : i = c - 1
        · rw [z, if_pos rfl, ← hj, show F.2 300 0 0 j = _ from j0, Int64.toInt32_add, i32_64 (by omega)]
          have := c5 (c - 1) (by omega)
          rw [← hj] at this
          rw [this]
        · rw [if_neg (by omega), if_neg (by omega), Int32.add_zero, jF _ _ (fun y => ij i hi z y.2)]
          exact c5 i hi
      · rw [← hy, oF _ _ (by omega), m3 _ _ (by omega)]
        exact kρ
      · rw [← hy, jF _ _ (by omega)]
        exact m8
      · rw [← hy, oF _ _ (by omega)]
        exact m7
      · rw [← hy, oF _ _ (by omega), m3 _ _ (by omega), fρ _ _ (by omega)]
        rw [i_m1 (by have := c2.bd; omega) (by omega)]
        exact cκ.trans hw
      · rw [st1]
        by_cases z : 3 ≤ k ∧ k ≤ 5
        · rw [if_pos z, if_pos ((isPd_n (by omega)).mpr (by omega))]
        · rw [if_neg z, if_neg (fun q => by have := (isPd_n (by omega)).mp q; omega)]
      · rw [st2]
        by_cases z : k = 0
        · rw [if_pos z, if_pos (l0.mpr z)]
        · rw [if_neg z, if_neg (fun q => z (l0.mp q))]
