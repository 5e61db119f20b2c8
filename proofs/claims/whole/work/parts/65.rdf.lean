/-! reading expressions: parts, products, sums, tests, nots, ands, ors -/
theorem GS.emX {tp : Nat → Nat} {n t : Nat} {σ μ : St} {tk : Tok} {b a L C : Nat} (h : GS tp n t σ μ tk b a L C) (x : Int32) : GS tp n t (sI (sI σ 1 t 0 L x) 2 t 0 0 (nI (L + 1))) μ tk b a (L + 1) C :=
  ⟨⟨⟨h.ps.lx.hn, h.ps.lx.ha, h.ps.lx.tape, h.ps.lx.lX, h.ps.lx.lM, h.ps.lx.aX, h.ps.lx.aM⟩, h.ps.hba, h.ps.bX, h.ps.bM, h.ps.eM, h.ps.kX, h.ps.kM, h.ps.ht, h.ps.tX, h.ps.tM, h.ps.hp⟩, h.f0, h.g0, sI_s .., h.hC, h.p0⟩
theorem GS.emM {tp : Nat → Nat} {n t : Nat} {σ μ : St} {tk : Tok} {b a L C : Nat} (h : GS tp n t σ μ tk b a L C) (x : Int32) : GS tp n t σ (sI (sI μ 245 0 0 (1000 * t + C) x) 258 0 0 0 (nI (C + 1))) tk b a L (C + 1) :=
  ⟨⟨⟨h.ps.lx.hn, h.ps.lx.ha, h.ps.lx.tape, h.ps.lx.lX, h.ps.lx.lM, h.ps.lx.aX, h.ps.lx.aM⟩, h.ps.hba, h.ps.bX, h.ps.bM, h.ps.eM, h.ps.kX, h.ps.kM, h.ps.ht, h.ps.tX, h.ps.tM, h.ps.hp⟩, h.f0, h.g0, h.hL, sI_s .., h.p0⟩
theorem sn_lt {c : Nat} (h : sn? c = true) : 40 ≤ c ∧ c < 100 := by
  have := sn_cases.mp h
  omega
theorem nst_tok {N n t : Nat} {tp : Nat → Nat} {σ μ : St} {tk : Tok} {b a L C : Nat} (h : GS tp n t σ μ tk b a L C) (hn : nst tk) :
    (σ.1 117 0 0 0 ≠ 40 ∧ σ.1 117 0 0 0 ≠ 1 ∧ σ.1 117 0 0 0 ≠ 2) ∧ (μ.1 250 0 0 0 ≠ 2 ∧ μ.1 250 0 0 0 ≠ 1) ∧ fReader_isSign N 40 σ = some 0 ∧ fM_isSign N 40 μ = some 0 := by
  obtain ⟨hn1, hn2, hn3⟩ := hn
  have h1 := h.ps.kX
  have h2 := h.ps.kM
  have h3 : fReader_isSign N 40 σ = some 0 ∧ fM_isSign N 40 μ = some 0 := by
    rcases gS_e (N := N) (c := 40) h (by decide) with ⟨e, -, -⟩ | ⟨-, e2, e3⟩
    · exact absurd e hn3
    · exact ⟨e2, e3⟩
  refine ⟨?_, ?_, h3⟩
  · rcases tk.cs with rfl | ⟨w, rfl⟩ | ⟨l, v, rfl⟩ | rfl | ⟨d, rfl⟩
    · rw [show σ.1 117 0 0 0 = 0 from h1]; decide
    · exact absurd rfl (hn1 w)
    · exact absurd rfl (hn2 l v)
    · rw [show σ.1 117 0 0 0 = 3 from h1]; decide
    · have hd := sn_lt h1.1
      rw [h1.2]
      refine ⟨fun q => ?_, fun q => ?_, fun q => ?_⟩
      · have := (nI_eq (b := 40) (by omega) (by omega)).mp q
        exact hn3 (by rw [this])
      · have := (nI_eq (b := 1) (by omega) (by omega)).mp q
        omega
      · have := (nI_eq (b := 2) (by omega) (by omega)).mp q
        omega
  · rcases tk.cs with rfl | ⟨w, rfl⟩ | ⟨l, v, rfl⟩ | rfl | ⟨d, rfl⟩
    · rw [show μ.1 250 0 0 0 = 0 from h2]; decide
    · exact absurd rfl (hn1 w)
    · exact absurd rfl (hn2 l v)
    · rw [show μ.1 250 0 0 0 = 4 from h2]; decide
    · rw [h2.1]; decide
theorem part_b {N t : Nat} {rX rM : Int32 → St → Option St} {x y : Int32} : BOk (fReader_readPart N rX x) (fM_readPart N rM y) t := fun σ μ h => ⟨if_neg h.x, if_neg h.y⟩
theorem part_n {N n t : Nat} {tp : Nat → Nat} {rX : Int32 → St → Option St} {x : Int32} : NsOk N n t tp (fReader_readPart N rX x) := by
  intro σ μ tk b a L C g hL hn
  obtain ⟨⟨a1, a2, a3⟩, -, -, -⟩ := nst_tok (N := N) g hn
  have ht := g.ps.ht
  obtain ⟨σ', μ', g1, g2, g3, g4, g5⟩ := rfail_e (N := N) (k := 1) g hL (by omega)
  obtain ⟨σ2, k1, k2, k3⟩ := g3.emX (N := N) (σ.1 120 0 0 0)
  refine ⟨σ2, μ', ?_, g2, k2, (g4.pX flt_rdX).tr k3, g5⟩
  unfold fReader_readPart fReader_readNumber
  rw [if_pos g.f0, if_neg a1, if_neg a2, g.ps.tX, chk_t (inb_n ht (by decide)), nmx, if_neg a3, show fReader_fail N 1 σ = some σ' from g1, bn1_e, bnd_e, nI_clamp (by omega), k1, bn1_e]
theorem part_e {N n t Hr : Nat} {tp : Nat → Nat} {rX rM : Int32 → St → Option St} {x y : Int32} (hN : 2000 ≤ N) (hr : SubOk (rX (x + 1)) (rM (y + 1)) tp n t Hr) : SubOk (fReader_readPart N rX x) (fM_readPart N rM y) tp n t (max 1 Hr) := by
  intro σ μ tk b a L C g hL hC
  obtain ⟨n1, n2, n3⟩ := g.ps.bn
  have ht := g.ps.ht
  by_cases hn : nst tk
  · obtain ⟨σ', μ', h1, h2, h3, h4, h5⟩ := part_n (N := N) (rX := rX) (x := x) σ μ tk b a L C g (by omega) hn
    obtain ⟨-, ⟨a1, a2⟩, -, a4⟩ := nst_tok (N := N) g hn
    refine ⟨σ', μ', h1, ?_, h4, Fx.pM h5 flt_rdM (by decide), Or.inl h3⟩
    unfold fM_readPart
    rw [if_pos g.g0, if_neg a1, if_neg a2, a4, bn1_e, if_pos rfl, h2, bn1_e]
  have h1 := g.ps.kX
  have h2 := g.ps.kM
  have hp := g.ps.hp
  rcases tk.cs with rfl | ⟨w, rfl⟩ | ⟨l, v, rfl⟩ | rfl | ⟨d, rfl⟩
  · exact absurd ⟨fun _ => nofun, fun _ _ => nofun, nofun⟩ hn
  · have hba : b < a := by
      rcases hp with q | q
      · exact absurd q.1 nofun
      · exact q.2
    have hv := (valNow_e (N := N) (by omega) g).2
    have eX : fReader_readPart N rX x σ = if (σ.1 119 0 0 0) = (-1) then bn1 (fReader_fail N 3 σ) fun σ3 => some σ3 else chk (inb (σ.1 121 0 0 0) 17) (bn1 (fAct_emit N ((σ.1 121 0 0 0).toNatClampNeg) (100000 + (σ.1 119 0 0 0)) σ) fun σ1 => bn1 (fReader_advance N σ1) fun σ2 => some σ2) := by
      unfold fReader_readPart
      rw [if_pos g.f0, h1.1, if_neg (by decide), if_pos rfl]
    have eM : fM_readPart N rM y μ = if valI w = (-1) then bn1 (fM_wrong N 3 μ) fun σ7 => fM_readPart_57 N rM (valI w) σ7 else fM_readPart_57 N rM (valI w) μ := by
      unfold fM_readPart
      rw [if_pos g.g0, h2.1, if_neg (by decide), if_pos rfl, hv, bn1_e]
    rw [eX, eM, h1.2.2]
    rcases valI_v w with c | ⟨k, hk, c⟩
    · obtain ⟨σ', μ', g1, g2, g3, g4, g5⟩ := rfail_e (N := N) (k := 3) g (by omega) (by omega)
      refine ⟨σ', μ', ?_, ?_, g4.pX flt_rdX, Fx.pM g5 flt_rdM (by decide), Or.inl g3⟩
      · rw [if_pos c, show fReader_fail N 3 σ = some σ' from g1, bn1_e]
      · rw [if_pos c, show fM_wrong N 3 μ = some μ' from g2, bn1_e]
        unfold fM_readPart_57 fM_readPart_76
        rw [g3.emM, bn1_e, if_neg g3.y]
    · rw [c, if_neg (m1_ne (by omega)), if_neg (m1_ne (by omega))]
      have gE := (g.emX (nI (100000 + k))).emM (nI (20 + k))
      obtain ⟨tk2, b2, a2, σ1, μ1, k1, k2, k3, k4, k5, k6⟩ := rstep_e hN gE
      have e1 : (100000 : Int32) + nI k = nI (100000 + k) := nI_add 100000 k
      have e2 : (20 : Int32) + nI k = nI (20 + k) := nI_add 20 k
      refine ⟨σ1, μ1, ?_, ?_, PFX.em.tr (k5.pX lexX_rd), PFM.em.tr (Fx.pM (L := C) k6 lexM_rd (by decide)) (Nat.le_refl _), Or.inr ⟨CK.em.tr (k5.ck (L := L) (by decide)) (Nat.le_refl _), tk2, b2, a2, .val k, k3, by show b + 1 ≤ b2; omega, by show 2 * 1 + 3 * b ≤ 3 * b2 + 1; omega, Ex.val_ok hk, by show 1 ≤ max 1 Hr; omega, ⟨?_, trivial⟩, ⟨?_, trivial⟩⟩⟩
      · rw [g.ps.tX, chk_t (inb_n ht (by decide)), nI_clamp (by omega), e1, emX_e g.hL (by omega), bn1_e, k1, bn1_e]
      · unfold fM_readPart_57 fM_readPart_76
        rw [e2, emM_e g.hC g.g0 g.ps.tM ht (by omega), bn1_e, if_pos gE.g0, k2, bn1_e]
      · dsimp only
        rw [k5.1 _ _ _ _ (by decide), sI_o (by decide), sI_s]
      · dsimp only
        rw [k6.1 _ _ _ _ (by decide), sI_o (by decide), sI_s]
  · have hba : b < a := by
      rcases hp with q | q
      · exact absurd q.1 nofun
      · exact q.2
    have eX : fReader_readPart N rX x σ = bnd (fReader_readNumber N σ) fun r4 σ5 => bn1 (fAct_emit N t r4 σ5) fun σ6 => some σ6 := by
      unfold fReader_readPart
      rw [if_pos g.f0, h1.1, if_neg (by decide), if_neg (by decide), g.ps.tX, chk_t (inb_n ht (by decide)), nI_clamp (by omega)]
    have eM : fM_readPart N rM y μ = bnd (fM_readNumber N μ) fun r8 σ9 => bn1 (fM_emit N 0 σ9) fun σ10 => bn1 (fM_emit N r8 σ10) fun σ11 => some σ11 := by
      unfold fM_readPart
      rw [if_pos g.g0, h2.1, if_pos rfl]
    obtain ⟨r, r', σ', μ', k1, k2, k3, k4, k5⟩ := gnum_e hN g (by omega)
    rw [eX, eM, k1, k2, bnd_e, bnd_e]
    rcases k5 with k5 | ⟨v', tk2, b2, a2, hv, rfl, rfl, -, k6, k7⟩
    · obtain ⟨σ2, j1, j2, j3⟩ := k5.emX (N := N) r
      refine ⟨σ2, μ', by rw [j1, bn1_e], by rw [k5.emM, bn1_e, k5.emM, bn1_e], (k3.pX (fun _ e => e)).tr j3, Fx.pM k4 (fun _ e => e) (by decide), Or.inl j2⟩
    · have gE := ((k6.emX (nI v')).emM 0).emM (nI v')
      refine ⟨_, _, ?_, ?_, (k3.pX (fun _ e => e)).tr (PFX.em (L := L) (x := nI v') (y := nI (L + 1))), ((Fx.pM (L := C) k4 (fun _ e => e) (by decide)).tr (PFM.em (C := C) (x := 0) (y := nI (C + 1))) (Nat.le_refl _)).tr (PFM.em (C := C + 1) (x := nI v') (y := nI (C + 1 + 1))) (by omega), Or.inr ⟨(k3.ck (L := L) (by decide)).tr CK.em (Nat.le_refl _), tk2, b2, a2, .num v', gE, by show b + 1 ≤ b2; omega, by show 2 * 2 + 3 * b ≤ 3 * b2 + 1; omega, Ex.num_ok hv, by show 1 ≤ max 1 Hr; omega, ⟨?_, trivial⟩, ⟨?_, ?_, trivial⟩⟩⟩
      · rw [emX_e k6.hL (by omega), bn1_e]
      · rw [emM_e k6.hC k6.g0 k6.ps.tM ht (by omega), bn1_e, emM_e (k6.emM 0).hC (k6.emM 0).g0 (k6.emM 0).ps.tM ht (by omega), bn1_e]
      · dsimp only
        rw [sI_o (by decide), sI_s]
      · dsimp only
        rw [sI_o (by decide), sI_i (by omega), sI_o (by decide), sI_s]
      · dsimp only
        rw [sI_o (by decide), Nat.add_assoc, sI_s]
  · exact absurd ⟨fun _ => nofun, fun _ _ => nofun, nofun⟩ hn
  · have hd := sn_lt h1.1
    have e40 : d = 40 := by
      apply Classical.byContradiction
      intro q
      exact hn ⟨fun _ => nofun, fun _ _ => nofun, fun z => q (Sum.inl.inj (Sum.inr.inj (Sum.inr.inj (Sum.inr.inj z))))⟩
    subst e40
    have hba : b < a := by
      rcases hp with q | q
      · exact absurd q.1 nofun
      · exact q.2
    have eX : fReader_readPart N rX x σ = bn1 (fReader_advance N σ) fun σ7 => bn1 (rX (x + 1) σ7) fun σ8 => bn1 (fReader_expect N 41 σ8) fun σ9 => some σ9 := by
      unfold fReader_readPart
      rw [if_pos g.f0, if_pos (show σ.1 117 0 0 0 = 40 from h1.2)]
    have eM : fM_readPart N rM y μ = bn1 (fM_step N μ) fun σ3 => bn1 (rM (y + 1) σ3) fun σ4 => bn1 (fM_need N 41 σ4) fun σ5 => some σ5 := by
      have : fM_isSign N 40 μ = some 1 := by
        rcases gS_e (N := N) (c := 40) g (by decide) with ⟨-, -, e3⟩ | ⟨e, -, -⟩
        · exact e3
        · exact absurd rfl e
      unfold fM_readPart
      rw [if_pos g.g0, h2.1, if_neg (by decide), if_neg (by decide), this, bn1_e, if_neg (by decide)]
    obtain ⟨tk2, b2, a2, σ1, μ1, k1, k2, k3, k4, k5, k6⟩ := rstep_e hN g
    obtain ⟨σ2, μ2, j1, j2, j3, j4, j5⟩ := hr σ1 μ1 tk2 b2 a2 L C k3 (by omega) (by omega)
    rw [eX, eM, k1, k2, bn1_e, bn1_e, j1, j2, bn1_e, bn1_e]
    have p1 : PFX t σ σ2 := (k5.pX lexX_rd).tr j3
    have p2 : PFM t C μ μ2 := (Fx.pM (L := C) k6 lexM_rd (by decide)).tr j4 (Nat.le_refl _)
    rcases j5 with j5 | ⟨j5, tk3, b3, a3, e, g3, q1, q2, q3, q4, q5, q6⟩
    · obtain ⟨z1, z2⟩ := j5.need (N := N) 41
      exact ⟨σ2, μ2, by rw [z1, bn1_e], by rw [z2, bn1_e], p1, p2, Or.inl j5⟩
    · obtain ⟨m1, m2, m3⟩ := g3.ps.bn
      obtain ⟨σ3, μ3, i1, i2, i3, i4, i5⟩ := gneed_e (c := 41) hN g3 (by omega) (by decide)
      refine ⟨σ3, μ3, by rw [show fReader_expect N 41 σ2 = some σ3 from i1, bn1_e], by rw [show fM_need N 41 μ2 = some μ3 from i2, bn1_e], p1.tr (i3.pX (fun _ e => e)), p2.tr (Fx.pM (L := C) i4 (fun _ e => e) (by decide)) (Nat.le_refl _), ?_⟩
      rcases i5 with i5 | ⟨tk4, b4, a4, g4, i6, i7⟩
      · exact Or.inl i5
      · refine Or.inr ⟨((k5.ck (L := L) (by decide)).tr j5 (Nat.le_refl _)).tr (i3.ck (L := L) (by decide)) (Nat.le_refl _), tk4, b4, a4, e, g4, by omega, by omega, q3, by omega, ?_, ?_⟩
        · exact At_eq _ _ (fun j _ _ => i3.1 _ _ _ _ (by decide)) q5
        · exact At_eq _ _ (fun j _ _ => i4.1 _ _ _ _ (by decide)) q6
theorem so_Product {N n t : Nat} {tp : Nat → Nat} {rX rM : Int32 → St → Option St} {x y : Int32} : StepOp N n t tp (fReader_readPart N rX x) (fM_readPart N rM y) (fun m i σ => fReader_readProduct_7 N rX m x i σ) (fun m μ => fM_readProduct_5 N rM m y μ) := by
  intro m i σ μ tk b a L C hi g
  obtain ⟨n1, n2, n3⟩ := g.ps.bn
  have hp := g.ps.hp
  have h1 := g.ps.kX
  have eX : fReader_readProduct_7 N rX (m + 1) x (nI i) σ = if 600 ≤ nI i then some σ else bn1 (fReader_isSign N 42 σ) fun r1 => if r1 = 0 then bn1 (fReader_isSign N 47 σ) fun r2 => if r2 = 0 then some σ else fReader_readProduct_32 N rX (fReader_readProduct_7 N rX m) x (nI i) σ else fReader_readProduct_32 N rX (fReader_readProduct_7 N rX m) x (nI i) σ := rfl
  have eM : fM_readProduct_5 N rM (m + 1) y μ = bn1 (fM_isSign N 42 μ) fun r1 => if r1 = 0 then bn1 (fM_isSign N 47 μ) fun r2 => if r2 = 0 then some μ else fM_readProduct_23 N rM (fM_readProduct_5 N rM m) y μ else fM_readProduct_23 N rM (fM_readProduct_5 N rM m) y μ := rfl
  rcases gS_e (N := N) (c := 42) g (by decide) with ⟨e1, e2, e3⟩ | ⟨e1, e2, e3⟩
  · subst e1
    have hb : b < a := by
      rcases hp with q | q
      · exact absurd q.1 nofun
      · exact q.2
    refine Or.inr ⟨nofun, 3, by decide, ?_, ?_⟩
    · dsimp only
      rw [eX, if_neg (show ¬ (600 : Int32) ≤ nI i from nI_ge (a := i) (b := 600) (by omega) (by omega)), show fReader_isSign N 42 σ = some 1 from e2, bn1_e, if_neg (by decide)]
      unfold fReader_readProduct_32
      rw [nmx, h1.2, nI_1]
      rfl
    · dsimp only
      rw [eM, show fM_isSign N 42 μ = some 1 from e3, bn1_e, if_neg (by decide)]
      unfold fM_readProduct_23 fM_readProduct_37
      rw [show fM_isSign N 42 μ = some 1 from e3, bn1_e, if_neg (by decide)]
      rfl
  · rcases gS_e (N := N) (c := 47) g (by decide) with ⟨f1, f2, f3⟩ | ⟨f1, f2, f3⟩
    · subst f1
      have hb : b < a := by
        rcases hp with q | q
        · exact absurd q.1 nofun
        · exact q.2
      refine Or.inr ⟨nofun, 4, by decide, ?_, ?_⟩
      · dsimp only
        rw [eX, if_neg (show ¬ (600 : Int32) ≤ nI i from nI_ge (a := i) (b := 600) (by omega) (by omega)), show fReader_isSign N 42 σ = some 0 from e2, bn1_e, if_pos rfl, show fReader_isSign N 47 σ = some 1 from f2, bn1_e, if_neg (by decide)]
        unfold fReader_readProduct_32
        rw [nmx, h1.2, nI_1]
        rfl
      · dsimp only
        rw [eM, show fM_isSign N 42 μ = some 0 from e3, bn1_e, if_pos rfl, show fM_isSign N 47 μ = some 1 from f3, bn1_e, if_neg (by decide)]
        unfold fM_readProduct_23 fM_readProduct_37
        rw [show fM_isSign N 42 μ = some 0 from e3, bn1_e, if_pos rfl]
        rfl
    · refine Or.inl ⟨?_, ?_⟩
      · dsimp only
        rw [eX, show fReader_isSign N 42 σ = some 0 from e2, bn1_e, if_pos rfl, show fReader_isSign N 47 σ = some 0 from f2, bn1_e, if_pos rfl]
        by_cases c : (600 : Int32) ≤ nI i
        · rw [if_pos c]
        · rw [if_neg c]
      · dsimp only
        rw [eM, show fM_isSign N 42 μ = some 0 from e3, bn1_e, if_pos rfl, show fM_isSign N 47 μ = some 0 from f3, bn1_e, if_pos rfl]
theorem sb_Product {N t : Nat} {rX rM : Int32 → St → Option St} {x y : Int32} : StepB t (fun m i σ => fReader_readProduct_7 N rX m x i σ) (fun m μ => fM_readProduct_5 N rM m y μ) := by
  intro m i σ μ h
  constructor
  · show (if 600 ≤ i then some σ else bn1 (fReader_isSign N 42 σ) fun r1 => if r1 = 0 then bn1 (fReader_isSign N 47 σ) fun r2 => if r2 = 0 then some σ else fReader_readProduct_32 N rX (fReader_readProduct_7 N rX m) x i σ else fReader_readProduct_32 N rX (fReader_readProduct_7 N rX m) x i σ) = _
    rw [h.isX, h.isX, bn1_e, if_pos rfl, bn1_e, if_pos rfl]
    by_cases c : 600 ≤ i
    · rw [if_pos c]
    · rw [if_neg c]
  · show (bn1 (fM_isSign N 42 μ) fun r1 => if r1 = 0 then bn1 (fM_isSign N 47 μ) fun r2 => if r2 = 0 then some μ else fM_readProduct_23 N rM (fM_readProduct_5 N rM m) y μ else fM_readProduct_23 N rM (fM_readProduct_5 N rM m) y μ) = _
    rw [h.isM, h.isM, bn1_e, if_pos rfl, bn1_e, if_pos rfl]
theorem so_Sum {N n t : Nat} {tp : Nat → Nat} {rX rM : Int32 → St → Option St} {x y : Int32} : StepOp N n t tp (fReader_readProduct N rX x) (fM_readProduct N rM y) (fun m i σ => fReader_readSum_7 N rX m x i σ) (fun m μ => fM_readSum_5 N rM m y μ) := by
  intro m i σ μ tk b a L C hi g
  obtain ⟨n1, n2, n3⟩ := g.ps.bn
  have hp := g.ps.hp
  have h1 := g.ps.kX
  have eX : fReader_readSum_7 N rX (m + 1) x (nI i) σ = if 600 ≤ nI i then some σ else bn1 (fReader_isSign N 43 σ) fun r1 => if r1 = 0 then bn1 (fReader_isSign N 45 σ) fun r2 => if r2 = 0 then some σ else fReader_readSum_32 N rX (fReader_readSum_7 N rX m) x (nI i) σ else fReader_readSum_32 N rX (fReader_readSum_7 N rX m) x (nI i) σ := rfl
  have eM : fM_readSum_5 N rM (m + 1) y μ = bn1 (fM_isSign N 43 μ) fun r1 => if r1 = 0 then bn1 (fM_isSign N 45 μ) fun r2 => if r2 = 0 then some μ else fM_readSum_23 N rM (fM_readSum_5 N rM m) y μ else fM_readSum_23 N rM (fM_readSum_5 N rM m) y μ := rfl
  rcases gS_e (N := N) (c := 43) g (by decide) with ⟨e1, e2, e3⟩ | ⟨e1, e2, e3⟩
  · subst e1
    have hb : b < a := by
      rcases hp with q | q
      · exact absurd q.1 nofun
      · exact q.2
    refine Or.inr ⟨nofun, 1, by decide, ?_, ?_⟩
    · dsimp only
      rw [eX, if_neg (show ¬ (600 : Int32) ≤ nI i from nI_ge (a := i) (b := 600) (by omega) (by omega)), show fReader_isSign N 43 σ = some 1 from e2, bn1_e, if_neg (by decide)]
      unfold fReader_readSum_32
      rw [nmx, h1.2, nI_1]
      rfl
    · dsimp only
      rw [eM, show fM_isSign N 43 μ = some 1 from e3, bn1_e, if_neg (by decide)]
      unfold fM_readSum_23 fM_readSum_37
      rw [show fM_isSign N 43 μ = some 1 from e3, bn1_e, if_neg (by decide)]
      rfl
  · rcases gS_e (N := N) (c := 45) g (by decide) with ⟨f1, f2, f3⟩ | ⟨f1, f2, f3⟩
    · subst f1
      have hb : b < a := by
        rcases hp with q | q
        · exact absurd q.1 nofun
        · exact q.2
      refine Or.inr ⟨nofun, 2, by decide, ?_, ?_⟩
      · dsimp only
        rw [eX, if_neg (show ¬ (600 : Int32) ≤ nI i from nI_ge (a := i) (b := 600) (by omega) (by omega)), show fReader_isSign N 43 σ = some 0 from e2, bn1_e, if_pos rfl, show fReader_isSign N 45 σ = some 1 from f2, bn1_e, if_neg (by decide)]
        unfold fReader_readSum_32
        rw [nmx, h1.2, nI_1]
        rfl
      · dsimp only
        rw [eM, show fM_isSign N 43 μ = some 0 from e3, bn1_e, if_pos rfl, show fM_isSign N 45 μ = some 1 from f3, bn1_e, if_neg (by decide)]
        unfold fM_readSum_23 fM_readSum_37
        rw [show fM_isSign N 43 μ = some 0 from e3, bn1_e, if_pos rfl]
        rfl
    · refine Or.inl ⟨?_, ?_⟩
      · dsimp only
        rw [eX, show fReader_isSign N 43 σ = some 0 from e2, bn1_e, if_pos rfl, show fReader_isSign N 45 σ = some 0 from f2, bn1_e, if_pos rfl]
        by_cases c : (600 : Int32) ≤ nI i
        · rw [if_pos c]
        · rw [if_neg c]
      · dsimp only
        rw [eM, show fM_isSign N 43 μ = some 0 from e3, bn1_e, if_pos rfl, show fM_isSign N 45 μ = some 0 from f3, bn1_e, if_pos rfl]
theorem sb_Sum {N t : Nat} {rX rM : Int32 → St → Option St} {x y : Int32} : StepB t (fun m i σ => fReader_readSum_7 N rX m x i σ) (fun m μ => fM_readSum_5 N rM m y μ) := by
  intro m i σ μ h
  constructor
  · show (if 600 ≤ i then some σ else bn1 (fReader_isSign N 43 σ) fun r1 => if r1 = 0 then bn1 (fReader_isSign N 45 σ) fun r2 => if r2 = 0 then some σ else fReader_readSum_32 N rX (fReader_readSum_7 N rX m) x i σ else fReader_readSum_32 N rX (fReader_readSum_7 N rX m) x i σ) = _
    rw [h.isX, h.isX, bn1_e, if_pos rfl, bn1_e, if_pos rfl]
    by_cases c : 600 ≤ i
    · rw [if_pos c]
    · rw [if_neg c]
  · show (bn1 (fM_isSign N 43 μ) fun r1 => if r1 = 0 then bn1 (fM_isSign N 45 μ) fun r2 => if r2 = 0 then some μ else fM_readSum_23 N rM (fM_readSum_5 N rM m) y μ else fM_readSum_23 N rM (fM_readSum_5 N rM m) y μ) = _
    rw [h.isM, h.isM, bn1_e, if_pos rfl, bn1_e, if_pos rfl]
