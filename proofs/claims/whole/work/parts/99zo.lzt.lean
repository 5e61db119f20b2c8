/-! an offer is made -/
theorem step_offer {N : Nat} {σ μ : St} (hN : 4000 ≤ N) (h : Inv σ μ) (a1 a2 : Int32) : StQ (fX_offer N a1 a2 σ) (fM_offer N a1 a2 μ) := by
  obtain ⟨TC, tp, h0⟩ := h
  obtain ⟨ν, hν⟩ : ∃ ν, ν = sI μ 204 0 0 0 0 := ⟨_, rfl⟩
  have h : InvB TC tp σ ν := by rw [hν]; exact h0.code
  have hc : ν.1 204 0 0 0 = 0 := by rw [hν, sI_s]
  have c := h.rg.cns
  have hd := c.d
  have hT := c.T.2
  have hP := c.P.2
  have hV := c.v.2
  have hO := c.o
  have fl : StQ (some (none, σ)) (fM_offer_21 N ν) := StQ.fail ⟨TC, tp, h⟩
  unfold fX_offer fM_offer
  rw [nmx, ← hν, reqP_e, mIsPerson_e, bn1_e, mIsVac_e, btR_i, show σ.1 52 0 0 0 = ν.1 208 0 0 0 from h.eq.at (f := 52) 0 (by decide)]
  by_cases c1 : a1 < 0 ∨ ν.1 208 0 0 0 ≤ a1
  · rw [if_pos c1, if_pos c1, if_pos rfl]
    exact fl
  · rw [if_neg c1, if_neg c1, if_neg (show ¬ (1 : Int32) = 0 by decide), bn1_e, reqE_e, btR_i, show σ.1 102 0 0 0 = ν.1 316 0 0 0 from h.eq.at (f := 102) 0 (by decide)]
    obtain ⟨p, hp, rfl⟩ := prs_e h.rg c1
    by_cases c2 : a2 < 0 ∨ ν.1 316 0 0 0 ≤ a2
    · rw [if_pos c2, if_pos c2, if_pos rfl]
      exact fl
    · rw [if_neg c2, if_neg c2, if_neg (show ¬ (1 : Int32) = 0 by decide)]
      obtain ⟨w, hw, rfl⟩ := vac_e h.rg c2
      obtain ⟨μ2, m1, m2⟩ := nowToday_e hN h
      have e107 : σ.1 107 0 0 0 = nI (ofN ν) := (h.eq.at (f := 107) 0 (by decide)).trans hO.1
      have e317 : μ2.1 317 0 0 0 = nI (ofN ν) := (m2.x.at (by decide)).trans hO.1
      have hc2 : μ2.1 204 0 0 0 = 0 := (m2.x.at (by decide)).trans hc
      rw [e107, m1, bn1_e, e317]
      by_cases c3 : ofN ν = 60
      · rw [c3, if_pos (show (60 : Int32) ≤ nI 60 by decide), if_pos (show nI 60 = 60 from rfl)]
        exact StQ.ok ⟨TC, tp, m2.i⟩ hc2 rfl
      · rw [if_neg (show ¬ (60 : Int32) ≤ nI (ofN ν) from nI_ge (b := 60) (by omega) (by decide)), if_neg (show ¬ nI (ofN ν) = 60 from fun q => c3 ((nI_eq (b := 60) (by omega) (by decide)).mp q)), show σ.1 162 0 0 0 = nI (tdN ν) from (h.eq.at (f := 162) 0 (by decide)).trans hd.1, opTo_X h.eq h.rg (show p < 20 by omega) (show w < 24 by omega) (fun _ _ _ _ _ => rfl), bn1_e]
        obtain ⟨σ1, b1, b2, b3, b4, b5, -⟩ := asOfToday_e hN h
        have m2' : NwI (nT ν) TC tp σ1 ν μ2 := ⟨by
          refine b5.mr m2.x.c ?_
          have e := m2.i.rn
          rw [show nP μ2 = nP ν from by unfold nP; rw [m2.x.at (by decide)]] at e
          exact e, m2.x, m2.r, m2.n, m2.s, m2.o⟩
        obtain ⟨σ2, s, d1, d2, d3, d4, d5, D⟩ := today_b hN b5 hp b2 b3 b4 m2'
        obtain ⟨nc, nb, hA⟩ := D.a
        have hA' := hA
        obtain ⟨cc, cm, q1, q2, q3, q4, q5⟩ := hA'
        rw [mayBe_M h.rg (show p < 20 by omega) (show w < 24 by omega) q2 (fun f i q => m2.x.at (by omega)), bn1_e]
        have eop : σ2.1 85 0 p 0 = s 85 0 := by
          rw [← D.s]
          rfl
        by_cases c4 : isOp ν p w
        · rw [if_pos c4, if_neg (show ¬ (1 : Int32) = 0 by decide), b1, bnd_e, d1, bnd_e, eop]
          by_cases c5 : s 85 0 = 0
          · rw [if_pos c5, if_pos c5, if_pos rfl]
            exact StQ.ok ⟨TC, tp, D.i⟩ hc2 rfl
          · rw [if_neg c5, if_neg c5, if_neg (show ¬ (1 : Int32) = 0 by decide)]
            dsimp only
            obtain ⟨m, hm⟩ : ∃ m, m = ofN ν := ⟨_, rfl⟩
            have hm60 : m < 60 := by omega
            rw [← hm]
            have f107 : σ2.1 107 0 0 0 = nI m := by
              rw [hm]
              exact (D.i.eq.at (f := 107) (g := 317) 0 (by decide)).trans e317
            have f74 : σ2.1 74 0 p 0 = nI p := D.e.2.2.2.2.1
            have hcl : (nI m).toNatClampNeg = m := nI_clamp (by omega)
            obtain ⟨σb, hσb⟩ : ∃ σb, σb = sI (sI σ2 103 0 0 m (nI p)) 104 0 0 m (nI w) := ⟨_, rfl⟩
            have lb : ∀ f a b i, f ≠ 103 → f ≠ 104 → σb.1 f a b i = σ2.1 f a b i := fun f a b i z1 z2 => by rw [hσb, sI_o z2, sI_o z1]
            obtain ⟨σc, x1, x2, x3⟩ := pairX (N := N) (w := w) (σ := σb) hN h.rg D (show p < 20 by omega) (show w < 24 by omega) d5.eq (fun f a b i z => lb f a b i (by omega) (by omega))
            obtain ⟨r, hr⟩ : ∃ r, r = prR ν TC p w (nT ν) s := ⟨_, rfl⟩
            rw [← hr] at x1
            have hrr : -1 ≤ r.toInt ∧ r.toInt ≤ 23 := by
              rw [hr]
              rcases prR_r (μ := ν) (TC := TC) (p := p) (w := w) (n := nT ν) (s := s) (fun t ht => (h.tx.x.tn (Nat.le_refl _)).len ht) with z | ⟨j, j1, z⟩
              · rw [z]
                decide
              · rw [z, nI_toInt (by omega)]
                omega
            obtain ⟨μb, hμb⟩ : ∃ μb, μb = sI (sI μ2 325 0 0 m (nI p)) 326 0 0 m (nI w) := ⟨_, rfl⟩
            have mb : ∀ f a b i, f ≠ 325 → f ≠ 326 → μb.1 f a b i = μ2.1 f a b i := fun f a b i z1 z2 => by rw [hμb, sI_o z2, sI_o z1]
            obtain ⟨μc, y1, y2, y3⟩ := pairM (N := N) (w := w) (μ'' := μb) hN h.rg D (show p < 20 by omega) (show w < 24 by omega) (h.tx.m.tn (Nat.le_refl _)) (fun f i z0 z1 z2 => mb f 0 0 i (by omega) (by omega))
            rw [← hr] at y1
            have xans : fMarket_addOffer N 0 p (nI w) (nI (tdN ν)) σ2 = some (nI m, sI (sI (sI σc 105 0 0 m r) 106 0 0 m 0) 107 0 0 0 (nI (m + 1))) := by
              unfold fMarket_addOffer
              rw [f107, f74, chk_t (inb_n hm60 (by decide)), hcl, nmx, show (sI σ2 103 0 0 m (nI p)).1 107 0 0 0 = nI m from (sI_o (by decide)).trans f107, chk_t (inb_n hm60 (by decide)), hcl, nmx, ← hσb, x1, bnd_e, show σb.1 107 0 0 0 = nI m from (lb _ _ _ _ (by decide) (by decide)).trans f107, chk_t (inb_n hm60 (by decide)), hcl, nmx, show (sI σc 105 0 0 m r).1 107 0 0 0 = nI m from (sI_o (by decide)).trans (by rw [x3]; exact (lb _ _ _ _ (by decide) (by decide)).trans f107), chk_t (inb_n hm60 (by decide)), hcl, nmx, show (sI (sI σc 105 0 0 m r) 106 0 0 m 0).1 107 0 0 0 = nI m from (sI_o (by decide)).trans ((sI_o (by decide)).trans (by rw [x3]; exact (lb _ _ _ _ (by decide) (by decide)).trans f107)), nI_1, nmx, sI_s, nI_sub1]
            have mans : (nm (sI μ2 325 0 0 (nI m).toNatClampNeg (nI p)) fun (σ6 : St) => chk (inb (σ6.1 317 0 0 0) 60) <| nm (sI σ6 326 0 0 (σ6.1 317 0 0 0).toNatClampNeg (nI w)) fun (σ7 : St) => bnd (fM_failing N (nI p) (nI w) σ7) fun r8 σ9 => chk (inb (σ7.1 317 0 0 0) 60) <| nm (sI σ9 327 0 0 (σ7.1 317 0 0 0).toNatClampNeg r8) fun (σ10 : St) => chk (inb (σ10.1 317 0 0 0) 60) <| if (σ10.1 327 0 0 (σ10.1 317 0 0 0).toNatClampNeg) = (-1) then fM_offer_111 N (σ10.1 317 0 0 0) 1 σ10 else fM_offer_111 N (σ10.1 317 0 0 0) 0 σ10) = some (nI m, sI (sI (sI μc 327 0 0 m r) 324 0 0 m (if r = -1 then 1 else 0)) 317 0 0 0 (nI (m + 1))) := by
              have e2 : μ2.1 317 0 0 0 = nI m := by rw [hm]; exact e317
              have ec : μc.1 317 0 0 0 = nI m := (y2 _ _ _ _ (by decide) (by decide)).trans ((mb _ _ _ _ (by decide) (by decide)).trans e2)
              rw [nmx, hcl, show (sI μ2 325 0 0 m (nI p)).1 317 0 0 0 = nI m from (sI_o (by decide)).trans e2, chk_t (inb_n hm60 (by decide)), hcl, nmx, ← hμb, y1, bnd_e, show μb.1 317 0 0 0 = nI m from (mb _ _ _ _ (by decide) (by decide)).trans e2, chk_t (inb_n hm60 (by decide)), hcl, nmx, show (sI μc 327 0 0 m r).1 317 0 0 0 = nI m from (sI_o (by decide)).trans ec, chk_t (inb_n hm60 (by decide)), hcl, sI_s]
              have fin : ∀ x : Int32, (x = 0 ∨ x = 1) → fM_offer_111 N (nI m) x (sI μc 327 0 0 m r) = some (nI m, sI (sI (sI μc 327 0 0 m r) 324 0 0 m x) 317 0 0 0 (nI (m + 1))) := fun x hx => by
                unfold fM_offer_111
                rw [chk_t (inb_n hm60 (by decide)), hcl, fa_bool_and hx, nmx, show (sI (sI μc 327 0 0 m r) 324 0 0 m x).1 317 0 0 0 = nI m from (sI_o (by decide)).trans ((sI_o (by decide)).trans ec), nI_1, nmx, sI_s, nI_sub1]
              by_cases z : r = -1
              · rw [if_pos z, if_pos z]
                exact fin 1 (Or.inr rfl)
              · rw [if_neg z, if_neg z]
                exact fin 0 (Or.inl rfl)
            rw [show σ2.1 162 0 0 0 = nI (tdN ν) from (D.i.eq.at (f := 162) (g := 205) 0 (by decide)).trans ((m2.x.at (by decide)).trans hd.1), xans, bnd_e, chk_t (inb_n hm60 (by decide)), mans]
            obtain ⟨τ, hτ⟩ : ∃ τ, τ = sI (sI (sI σc 105 0 0 m r) 106 0 0 m 0) 107 0 0 0 (nI (m + 1)) := ⟨_, rfl⟩
            obtain ⟨ρ, hρ⟩ : ∃ ρ, ρ = sI (sI (sI μc 327 0 0 m r) 324 0 0 m (if r = -1 then 1 else 0)) 317 0 0 0 (nI (m + 1)) := ⟨_, rfl⟩
            rw [← hτ, ← hρ]
            have lx : ∀ f a b i, ¬ (103 ≤ f ∧ f ≤ 107) → τ.1 f a b i = σ2.1 f a b i := fun f a b i z => by rw [hτ, sI_o (by omega), sI_o (by omega), sI_o (by omega), x3, lb f a b i (by omega) (by omega)]
            have l : ∀ f a b i, ¬ (268 ≤ f ∧ f ≤ 272 ∧ f ≠ 269) → f ≠ 317 → ¬ (324 ≤ f ∧ f ≤ 327) → ρ.1 f a b i = μ2.1 f a b i := fun f a b i z1 z2 z3 => by rw [hρ, sI_o z2, sI_o (by omega), sI_o (by omega), y2 f a b i (by omega) (by omega), mb f a b i (by omega) (by omega)]
            have lJ : ∀ f a b i, f ≠ 267 → ρ.2 f a b i = μ2.2 f a b i := fun f a b i z => by
              rw [hρ]
              show μc.2 f a b i = _
              rw [y3 f a b i z, hμb]
              rfl
            have li : ∀ f i, (f = 324 ∨ f = 325 ∨ f = 326 ∨ f = 327) → i ≠ m → ρ.1 f 0 0 i = μ2.1 f 0 0 i := fun f i z1 z2 => by
              rcases z1 with rfl | rfl | rfl | rfl
              · rw [hρ, sI_o (by decide), sI_i z2, sI_o (by decide), y2 _ _ _ _ (by decide) (by decide), mb _ _ _ _ (by decide) (by decide)]
              · rw [hρ, sI_o (by decide), sI_o (by decide), sI_o (by decide), y2 _ _ _ _ (by decide) (by decide), hμb, sI_o (by decide), sI_i z2]
              · rw [hρ, sI_o (by decide), sI_o (by decide), sI_o (by decide), y2 _ _ _ _ (by decide) (by decide), hμb, sI_i z2, sI_o (by decide)]
              · rw [hρ, sI_o (by decide), sI_o (by decide), sI_i z2, y2 _ _ _ _ (by decide) (by decide), mb _ _ _ _ (by decide) (by decide)]
            have v326 : ρ.1 326 0 0 m = nI w := by rw [hρ, sI_o (by decide), sI_o (by decide), sI_o (by decide), y2 _ _ _ _ (by decide) (by decide), hμb, sI_s]
            have v325 : ρ.1 325 0 0 m = nI p := by rw [hρ, sI_o (by decide), sI_o (by decide), sI_o (by decide), y2 _ _ _ _ (by decide) (by decide), hμb, sI_o (by decide), sI_s]
            have e2p : nP μ2 = nP ν := by unfold nP; rw [m2.x.at (by decide)]
            have v327 : ρ.1 327 0 0 m = r := by rw [hρ, sI_o (by decide), sI_o (by decide), sI_s]
            have v324 : ρ.1 324 0 0 m = if r = -1 then 1 else 0 := by rw [hρ, sI_o (by decide), sI_s]
            have e1 : ofN ρ = m + 1 := by
              unfold ofN
              rw [hρ, sI_s, nI_clamp (by omega)]
            have e2o : ofN μ2 = m := by
              unfold ofN
              rw [e317, ← hm, nI_clamp (by omega)]
            have e2 : vcN ρ = vcN μ2 := by unfold vcN; rw [l _ _ _ _ (by decide) (by decide) (by decide)]
            have e2v : vcN μ2 = vcN ν := by unfold vcN; rw [m2.x.at (by decide)]
            have e3 : ocN ρ = ocN μ2 := by unfold ocN; rw [l _ _ _ _ (by decide) (by decide) (by decide)]
            have e4 : csN ρ = csN μ2 := by unfold csN; rw [l _ _ _ _ (by decide) (by decide) (by decide)]
            have hbase := D.i
            have eqb : Eq1 σb μb := by
              rw [hσb, hμb]
              exact (hbase.eq.w (f := 103) (g := 325) (by decide)).w (f := 104) (g := 326) (by decide)
            have eqc : Eq1 σc μc := by
              intro q hq i
              have h2 : eqF.all (fun q => decide (q.2 ≠ 268 ∧ ¬ (270 ≤ q.2 ∧ q.2 ≤ 272))) = true := by decide
              have h3 := of_decide_eq_true (List.all_eq_true.mp h2 q hq)
              rw [x3, y2 _ _ _ _ h3.1 h3.2]
              exact eqb q hq i
            have came : σc.1 106 0 0 m = 0 := by
              have : σc.1 106 0 0 m = μc.1 328 0 0 m := eqc.at (f := 106) (g := 328) m (by decide)
              rw [this, y2 _ _ _ _ (by decide) (by decide), mb _ _ _ _ (by decide) (by decide)]
              exact hbase.ev.oc m (by omega)
            have eq' : Eq1 τ ρ := by
              rw [hτ, hρ]
              exact (((eqc.w (f := 105) (g := 327) (i := m) (x := r) (by decide)).ls ((sI_o (by decide)).trans came)).r (by decide)).w (f := 107) (g := 317) (by decide)
            have rgc : Rng μc := by
              have rgb : Rng μb := by
                rw [hμb]
                exact (hbase.rg.w (lo := 0) (hi := 19) (by decide) (by rw [nI_toInt (by omega)]; omega) (by rw [nI_toInt (by omega)]; omega)).w (lo := 0) (hi := 23) (by decide) (by rw [nI_toInt (by omega)]; omega) (by rw [nI_toInt (by omega)]; omega)
              exact rgb.mv (fun f i z => y2 f 0 0 i (by omega) (by omega))
            have rg' : Rng ρ := by
              rw [hρ]
              exact ((rgc.w (lo := -1) (hi := 23) (by decide) hrr.1 hrr.2).o (by decide)).w (lo := 0) (hi := 60) (by decide) (by rw [nI_toInt (by omega)]; omega) (by rw [nI_toInt (by omega)]; omega)
            refine StQ.ok ⟨TC, tp, hbase.sc (μ' := (fun f a b i => if 268 ≤ f ∧ f ≤ 272 ∧ f ≠ 269 then ρ.1 f a b i else μ2.1 f a b i, fun f a b i => if f = 267 then ρ.2 f a b i else μ2.2 f a b i)) (fun f a b i z _ => if_neg (by omega)) (fun f a b i z => if_neg z) |> fun hb => hb.up eq' rg' (hbase.tp.mv (fun i => lx _ _ _ _ (by decide)) (fun i => l _ _ _ _ (by decide) (by decide) (by decide))) ?_ (hbase.ot.mv (fun f i z => lx _ _ _ _ (by omega)) (fun f i z => l _ _ _ _ (by omega) (by omega) (by omega)) (fun i => lJ _ _ _ _ (by decide))) (fun f a b i z => lx _ _ _ _ (by omega)) (fun f a b i z => ?_) (fun f a b i z => ?_) (fun p k hp => ?_)⟩ ((l _ _ _ _ (by decide) (by decide) (by decide)).trans hc2) rfl
            · refine hbase.ev.up (fun f i z => l _ _ _ _ (by omega) (by omega) (by omega)) (by omega) (fun c hc => ?_) (fun o ho => ?_) (fun p hp => ?_) (fun v hv => ?_) (fun o ho => ?_) (fun o ho => ?_) ?_ (fun o ho => ?_)
              · rw [l _ _ _ _ (by decide) (by decide) (by decide)]
                exact hbase.ev.c c (by omega)
              · by_cases z : o = m
                · rw [z, v326, nI_clamp (by omega)]
                  omega
                · rw [li _ _ (by decide) z, e2]
                  exact hbase.ev.ov o (by omega)
              · rw [l _ _ _ _ (by decide) (by decide) (by decide), e3]
                exact hbase.ev.po p hp
              · rw [l _ _ _ _ (by decide) (by decide) (by decide), e3]
                exact hbase.ev.vo v (by omega)
              · by_cases z : o = m
                · rw [z, v324, v327]
                · rw [li _ _ (by decide) z, li _ _ (by decide) z]
                  exact hbase.ev.so o ho
              · rw [l _ _ _ _ (by decide) (by decide) (by decide)]
                exact hbase.ev.oc o (by omega)
              · rw [l _ _ _ _ (by decide) (by decide) (by decide), l _ _ _ _ (by decide) (by decide) (by decide)]
                exact hbase.ev.lk
              · by_cases z : o = m
                · rw [z, v325, nI_clamp (by omega), e2p]
                  exact hp
                · rw [li _ _ (by decide) z]
                  exact hbase.ev.op o (by omega)
            · show ρ.1 f a b i = if 268 ≤ f ∧ f ≤ 272 ∧ f ≠ 269 then ρ.1 f a b i else μ2.1 f a b i
              rw [if_neg (by omega)]
              exact l _ _ _ _ (by omega) (by omega) (by omega)
            · show ρ.2 f a b i = if f = 267 then ρ.2 f a b i else μ2.2 f a b i
              rw [if_neg z]
              exact lJ _ _ _ _ z
            · have em : evM ((fun f a b i => if 268 ≤ f ∧ f ≤ 272 ∧ f ≠ 269 then ρ.1 f a b i else μ2.1 f a b i, fun f a b i => if f = 267 then ρ.2 f a b i else μ2.2 f a b i) : St) p k = evM μ2 p k := evM_c (fun f a b i z => if_neg (by have := LO_in z; omega)) p k
              rw [em]
              refine evM_k hbase.ev.e hbase.rg (SmE.mk (fun f a b i z => ?_)) (fun o ho => ⟨li _ _ (by decide) (by omega), li _ _ (by decide) (by omega), li _ _ (by decide) (by omega), fun p hp => ?_⟩) (fun e he hpe => by rw [← hpe]; exact hbase.ev.p e he) k
              · have w : ∀ f ∈ LE, ¬ (268 ≤ f ∧ f ≤ 272 ∧ f ≠ 269) ∧ f ≠ 317 ∧ ¬ (324 ≤ f ∧ f ≤ 327) := by decide
                have := w f z
                exact l f a b i this.1 this.2.1 this.2.2
              · unfold oV
                rw [l 213 0 0 p (by decide) (by decide) (by decide), l 318 _ _ _ (by decide) (by decide) (by decide), l 320 _ _ _ (by decide) (by decide) (by decide), l 319 _ _ _ (by decide) (by decide) (by decide), l 211 0 0 p (by decide) (by decide) (by decide), mi_at (fun f i q1 _ => l f 0 0 i (by omega) (by omega) (by omega))]
        · rw [if_neg c4, if_pos rfl]
          have : (if s 85 0 = 0 then (0 : Int32) else 0) = 0 := by split <;> rfl
          rw [this, if_pos rfl]
          exact StQ.ok ⟨TC, tp, m2.i⟩ hc2 rfl
