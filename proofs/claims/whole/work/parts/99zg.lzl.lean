/-! a value of a person's -/
theorem now_vm {N n p nc nb : Nat} {TC : Nat → List Cl} {tp : Nat → Nat} {σ μ μ' μ'' : St} {s : Lfe} (hN : 4000 ≤ N) (hR : Rng μ) (hn : n ≤ 17) (h : NwI n TC tp σ μ μ') (hA : RfA p (tdN μ + 1) μ' s nc nb) (hp : p < 20) (hm : ∀ f i, f < 324 → f ≠ 268 → ¬ (270 ≤ f ∧ f ≤ 272) → μ''.1 f 0 0 i = μ'.1 f 0 0 i) (hw : μ''.1 268 0 0 0 = nI p) : VM N μ'' (vO (vS (ENM μ TC p n (tdN μ)) (tdN μ) s) μ'') := by
  have c := hR.cns
  have hd := c.d
  obtain ⟨cc, cm, q1, q2, -, -, -⟩ := hA
  have sm : SmR 20 (tdN μ) μ μ' := h.x.sm
  refine val_e (by omega) hp hd.2.1 (by omega) (μ := μ'') (s := s) (c := cc) (nc := nc) (cm := cm) ?_ (q2.mv (fun f i q => hm f i (by omega) (by omega) (by omega)) (fun _ _ _ => rfl)) ?_ hw ((hm _ _ (by decide) (by decide) (by decide)).trans h.n) (fun k hk => (hm _ _ (by decide) (by decide) (by decide)).trans (h.s.2.2.2.1 k hk)) ?_ ?_
  · exact ⟨(hm _ _ (by decide) (by decide) (by decide)).trans q1.wk, (hm _ _ (by decide) (by decide) (by decide)).trans q1.aw, (hm _ _ (by decide) (by decide) (by decide)).trans q1.sh, (hm _ _ (by decide) (by decide) (by decide)).trans q1.us, (hm _ _ (by decide) (by decide) (by decide)).trans q1.lf, (hm _ _ (by decide) (by decide) (by decide)).trans q1.me, (hm _ _ (by decide) (by decide) (by decide)).trans q1.re⟩
  · intro ρ hρ w hw
    have := (stAt_e (N := N) (k := tdN μ) (μ0 := μ') (μ := ρ) (p := p) (w := w) (hR.mv (fun f i q => h.x.at (by omega))) (fun f i q => by rw [hρ]; exact hm f i (by omega) (by omega) (by omega)) ⟨fun p y hp hy => by rw [hρ, hm _ _ (by decide) (by decide) (by decide)]; exact h.r.b.1 p y hp hy, fun p w hp hw => by rw [hρ, hm _ _ (by decide) (by decide) (by decide)]; exact h.r.b.2 p w hp hw⟩ hp hw).2
    rw [this]
    show some (stOf μ' p (tdN μ) w) = some (stOf μ p (tdN μ) w)
    rw [st_c sm.b]
  · exact (hm _ _ (by decide) (by decide) (by decide)).trans (h.x.at (by decide))
  · exact (hm _ _ (by decide) (by decide) (by decide)).trans (h.x.at (by decide))
/-- today's life of a person, on both sides -/
abbrev Tdy (N p : Nat) (TC : Nat → List Cl) (tp : Nat → Nat) (σ μ μ' : St) (s : Lfe) : Prop := (InvB TC tp σ μ') ∧ (NwI (nT μ) TC tp σ μ μ') ∧ (sl 0 p σ = s) ∧ (∃ nc nb, RfA p (tdN μ + 1) μ' s nc nb) ∧ (WL s) ∧ (EX 0 p (nT μ) (ENM μ TC p (nT μ) (tdN μ)) σ)
theorem Tdy.i {N p : Nat} {TC : Nat → List Cl} {tp : Nat → Nat} {σ μ μ' : St} {s : Lfe} (h : Tdy N p TC tp σ μ μ' s) : InvB TC tp σ μ' := h.1
theorem Tdy.w {N p : Nat} {TC : Nat → List Cl} {tp : Nat → Nat} {σ μ μ' : St} {s : Lfe} (h : Tdy N p TC tp σ μ μ' s) : NwI (nT μ) TC tp σ μ μ' := h.2.1
theorem Tdy.s {N p : Nat} {TC : Nat → List Cl} {tp : Nat → Nat} {σ μ μ' : St} {s : Lfe} (h : Tdy N p TC tp σ μ μ' s) : sl 0 p σ = s := h.2.2.1
theorem Tdy.a {N p : Nat} {TC : Nat → List Cl} {tp : Nat → Nat} {σ μ μ' : St} {s : Lfe} (h : Tdy N p TC tp σ μ μ' s) : ∃ nc nb, RfA p (tdN μ + 1) μ' s nc nb := h.2.2.2.1
theorem Tdy.l {N p : Nat} {TC : Nat → List Cl} {tp : Nat → Nat} {σ μ μ' : St} {s : Lfe} (h : Tdy N p TC tp σ μ μ' s) : WL s := h.2.2.2.2.1
theorem Tdy.e {N p : Nat} {TC : Nat → List Cl} {tp : Nat → Nat} {σ μ μ' : St} {s : Lfe} (h : Tdy N p TC tp σ μ μ' s) : EX 0 p (nT μ) (ENM μ TC p (nT μ) (tdN μ)) σ := h.2.2.2.2.2
theorem today_b {N p : Nat} {TC : Nat → List Cl} {tp : Nat → Nat} {σ μ μ' : St} (hN : 4000 ≤ N) (h : InvB TC tp σ μ) (hp : p < nP μ) (hon : σ.1 147 0 0 0 = nI (tdN μ)) (hP : PrV 0 σ) (hV : RdV 0 (nT μ) TC σ μ) (hW : NwI (nT μ) TC tp σ μ μ') : ∃ σ' s, fView_lifeOf N 0 (nI p) σ = some ((0, p), σ') ∧ WfX 0 p σ σ' ∧ PrV 0 σ' ∧ RdV 0 (nT μ) TC σ' μ ∧ InvB TC tp σ' μ ∧ Tdy N p TC tp σ' μ μ' s := by
  have c := h.rg.cns
  have hd := c.d
  have hT := c.T.2
  have hP2 := c.P.2
  obtain ⟨σ', d1, d2, d3, d4, d5, d6⟩ := life_I hN h (v := 0) (by decide) (Nat.le_refl _) hp hd.2.1 (Nat.le_refl _) (fun _ => rfl) hon hP hV
  obtain ⟨s, B⟩ := both_e d3 hW.x hW.r hp c.e.2 hd.2.1
  have e0 : EX 0 p (nT μ) (ENM μ TC p (nT μ) (tdN μ)) σ' := EX.mk d6.eq d5.2.1 (d6.tx.x.tn (Nat.le_refl _)) (by omega) (by omega) (d4.1 p (by omega)) (by
    obtain ⟨s0, -, -, l3⟩ := d3
    exact l3)
  have i' : InvB TC tp σ' μ' := by
    have := hW.i
    refine d6.mr hW.x.c ?_
    have e := this.rn
    rw [show nP μ' = nP μ from by unfold nP; rw [hW.x.at (by decide)]] at e
    exact e
  exact ⟨σ', s, d1, d2, d4, d5, d6, i', ⟨i', hW.x, hW.r, hW.n, hW.s, hW.o⟩, B.s, B.a, B.w, e0⟩
theorem step_value {N : Nat} {σ μ : St} (hN : 4000 ≤ N) (h : Inv σ μ) (a1 a2 : Int32) : ∃ q σ' b μ', fX_value N a1 a2 σ = some (q, σ') ∧ fM_value N a1 a2 μ = some (b, μ') ∧ μ'.1 204 0 0 0 = (if q.isSome then 0 else 1) ∧ (∀ r, q = some r → r = b) ∧ Inv σ' μ' := by
  obtain ⟨TC, tp, h0⟩ := h
  obtain ⟨ν, hν⟩ : ∃ ν, ν = sI μ 204 0 0 0 0 := ⟨_, rfl⟩
  have h : InvB TC tp σ ν := by rw [hν]; exact h0.code
  have hc : ν.1 204 0 0 0 = 0 := by rw [hν, sI_s]
  have c := h.rg.cns
  have hd := c.d
  have hT := c.T.2
  have hP := c.P.2
  have fl : ∀ x, x = some (none, σ) → ∃ q σ' b μ', x = some (q, σ') ∧ fM_value_23 N ν = some (b, μ') ∧ μ'.1 204 0 0 0 = (if q.isSome then 0 else 1) ∧ (∀ r : Int64, q = some r → r = b) ∧ Inv σ' μ' := fun x hx => ⟨none, σ, _, sI ν 204 0 0 0 1, hx, rfl, sI_s _ _ _ _ _ _, fun r q => absurd q (by simp), TC, tp, h.code⟩
  unfold fX_value fM_value
  rw [nmx, ← hν, reqP_e, mIsPerson_e, bn1_e, btR_i, show σ.1 52 0 0 0 = ν.1 208 0 0 0 from h.eq.at (f := 52) 0 (by decide)]
  by_cases c1 : a1 < 0 ∨ ν.1 208 0 0 0 ≤ a1
  · rw [if_pos c1, if_pos c1, if_pos rfl]
    exact fl _ rfl
  · rw [if_neg c1, if_neg c1, if_neg (by decide), reqE_e, btR_i]
    obtain ⟨p, hp, rfl⟩ := prs_e h.rg c1
    by_cases c2 : a2 < 0
    · rw [if_pos (Or.inl c2), if_pos c2]
      exact fl _ rfl
    · rw [if_neg c2]
      by_cases c3 : a2 ≤ 8
      · obtain ⟨w, hw, rfl⟩ : ∃ w, w ≤ 8 ∧ a2 = nI w := by
          rcases arg32 a2 with q | ⟨w, w1, rfl⟩
          · exact absurd q c2
          · exact ⟨w, (nI_leI (b := 8) (by omega) (by decide)).mp c3, rfl⟩
        obtain ⟨σ1, b1, b2, b3, b4, b5, -⟩ := asOfToday_e hN h
        obtain ⟨μ2, m1, m2⟩ := nowToday_e hN b5
        obtain ⟨σ2, s, d1, d2, d3, d4, d5, D⟩ := today_b hN b5 hp b2 b3 b4 m2
        obtain ⟨nc, nb, hA⟩ := D.a
        obtain ⟨σ3, g1, g2, g3, g4⟩ := setOut_e (N := N) (by omega) D.e (by rw [D.s]; exact D.l) hd.2.1 (show tdN ν < 936 by omega)
        rw [D.s] at g4
        have vm := now_vm hN b5.rg (by omega) D.w hA (show p < 20 by omega) (μ'' := sI μ2 268 0 0 0 (nI p)) (fun f i _ q1 q2 => sI_o q1) (sI_s _ _ _ _ _ _)
        have vm' := vm.congr (vO_0 ((sI_o (by decide)).trans D.w.o.1) ((sI_o (by decide)).trans D.w.o.2.1) ((sI_o (by decide)).trans D.w.o.2.2))
        have e8 : (8 : Int32) + nI w = nI (8 + w) := nI_add 8 w
        have hI : InvB TC tp σ3 (sI μ2 268 0 0 0 (nI p)) := by
          have i2 : InvB TC tp σ3 μ2 := by
            have e0 : σ3.1 = σ2.1 := g3
            obtain ⟨x1, x2⟩ := σ3
            obtain ⟨y1, y2⟩ := σ2
            dsimp only at e0
            subst e0
            exact D.i
          exact i2.sc (fun f a b i q _ => sI_o (by omega)) (fun _ _ _ _ _ => rfl)
        refine ⟨some (vS (ENM ν TC p (nT ν) (tdN ν)) (tdN ν) s (8 + w)), σ3, vS (ENM ν TC p (nT ν) (tdN ν)) (tdN ν) s (8 + w), sI μ2 268 0 0 0 (nI p), ?_, ?_, ?_, fun r q => (Option.some.inj q).symm, TC, tp, hI⟩
        · rw [if_neg (show ¬ (nI w < 0 ∨ 9 ≤ nI w) from fun q => q.elim (nI_pos (by omega)) (nI_ge (b := 9) (by omega) (by decide))), b1, bnd_e, d1, bnd_e, show σ2.1 162 0 0 0 = nI (tdN ν) from (D.i.eq.at (f := 162) (g := 205) 0 (by decide)).trans ((D.w.x.at (by decide)).trans hd.1), g1, bn1_e, e8, chk_t (inb_n (by omega) (by decide)), nI_clamp (by omega), show σ3.2 72 0 0 (8 + w) = _ from g4 (8 + w) (by omega)]
        · rw [if_pos c3, m1, bn1_e, nmx, e8, vm' (8 + w) (by omega) _ rfl, bn1_e]
        · rw [sI_o (by decide), D.w.x.at (by decide), hc]
          rfl
      · have q9 : (9 : Int32) ≤ a2 := by
          have q := Int32.not_le.mp c3
          rw [Int32.lt_iff_toInt_lt] at q
          rw [Int32.le_iff_toInt_le]
          have e8 : (8 : Int32).toInt = 8 := by decide
          have e9 : (9 : Int32).toInt = 9 := by decide
          omega
        rw [if_neg c3, if_pos (Or.inr q9)]
        exact fl _ rfl
