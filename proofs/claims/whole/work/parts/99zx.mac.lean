/-! a day passes: what stays -/
abbrev InvF (TC : Nat → List Cl) (tp : Nat → Nat) (σ μ : St) : Prop := (Eq1 σ μ) ∧ (Rng μ) ∧ (TP tp σ μ) ∧ (TxI TC σ μ) ∧ (EvJ μ) ∧ (VwI 0 TC σ μ) ∧ (VwI 1 TC σ μ) ∧ (ChI σ μ) ∧ (RunI (nP μ) TC μ) ∧ (OtI σ μ)
theorem InvF.eq {TC : Nat → List Cl} {tp : Nat → Nat} {σ μ : St} (h : InvF TC tp σ μ) : Eq1 σ μ := h.1
theorem InvF.rg {TC : Nat → List Cl} {tp : Nat → Nat} {σ μ : St} (h : InvF TC tp σ μ) : Rng μ := h.2.1
theorem InvF.tp {TC : Nat → List Cl} {tp : Nat → Nat} {σ μ : St} (h : InvF TC tp σ μ) : TP tp σ μ := h.2.2.1
theorem InvF.tx {TC : Nat → List Cl} {tp : Nat → Nat} {σ μ : St} (h : InvF TC tp σ μ) : TxI TC σ μ := h.2.2.2.1
theorem InvF.ev {TC : Nat → List Cl} {tp : Nat → Nat} {σ μ : St} (h : InvF TC tp σ μ) : EvJ μ := h.2.2.2.2.1
theorem InvF.v0 {TC : Nat → List Cl} {tp : Nat → Nat} {σ μ : St} (h : InvF TC tp σ μ) : VwI 0 TC σ μ := h.2.2.2.2.2.1
theorem InvF.v1 {TC : Nat → List Cl} {tp : Nat → Nat} {σ μ : St} (h : InvF TC tp σ μ) : VwI 1 TC σ μ := h.2.2.2.2.2.2.1
theorem InvF.ch {TC : Nat → List Cl} {tp : Nat → Nat} {σ μ : St} (h : InvF TC tp σ μ) : ChI σ μ := h.2.2.2.2.2.2.2.1
theorem InvF.rn {TC : Nat → List Cl} {tp : Nat → Nat} {σ μ : St} (h : InvF TC tp σ μ) : RunI (nP μ) TC μ := h.2.2.2.2.2.2.2.2.1
theorem InvF.ot {TC : Nat → List Cl} {tp : Nat → Nat} {σ μ : St} (h : InvF TC tp σ μ) : OtI σ μ := h.2.2.2.2.2.2.2.2.2
theorem InvB.f {TC : Nat → List Cl} {tp : Nat → Nat} {σ μ : St} (h : InvB TC tp σ μ) : InvF TC tp σ μ := ⟨h.eq, h.rg, h.tp, h.tx, h.ev, h.v0, h.v1, h.ch, h.rn, h.ot⟩
theorem kw_t {μ : St} {t x : Nat} (hI : EvI μ) (hR : Rng μ) (ht : tdN μ = t) (h0 : t < 935) (hx : x < cnM μ) : kwM μ (t + 1) x = kwM μ t x := by
  have c := hR.cns.d
  obtain ⟨-, ⟨s, s1, s2, s3⟩, b, -, -⟩ := hI x hx
  have s4 : s ≤ t := by
    have : (μ.1 205 0 0 0).toNatClampNeg = tdN μ := rfl
    omega
  have et : (μ.1 205 0 0 0).toInt = (t : Int) := by rw [c.1, ht, nI_toInt (by omega)]
  have b' := Int32.le_iff_toInt_le.mp b
  rw [et] at b'
  unfold kwM knw
  rw [s1, decide_eq_true (show nI s ≤ nI (t + 1) from Int32.le_iff_toInt_le.mpr (by rw [nI_toInt (by omega), nI_toInt (by omega)]; omega)), decide_eq_true (show nI s ≤ nI t from Int32.le_iff_toInt_le.mpr (by rw [nI_toInt (by omega), nI_toInt (by omega)]; omega)), decide_eq_false (show ¬ nI (t + 1) < μ.1 234 0 0 x from fun q => by
    have := Int32.lt_iff_toInt_lt.mp q
    rw [nI_toInt (by omega)] at this
    omega), decide_eq_false (show ¬ nI t < μ.1 234 0 0 x from fun q => by
    have := Int32.lt_iff_toInt_lt.mp q
    rw [nI_toInt (by omega)] at this
    omega)]
theorem evM_t {μ : St} {q k k' : Nat} (h3 : ∀ x, x < cnM μ → kwM μ k' x = kwM μ k x) : evM μ q k' = evM μ q k := by
  funext d
  unfold evM
  rw [show (List.range (cnM μ)).filter (fun e => slM μ q k' e && decide (dyM μ e = d)) = (List.range (cnM μ)).filter (fun e => slM μ q k e && decide (dyM μ e = d)) from List.filter_congr (fun x hx => by
    unfold slM
    rw [h3 x (List.mem_range.mp hx)])]
  refine List.map_congr_left (fun e he => ?_)
  unfold EVM clr
  rw [any_cg (cnM μ) (fun x hx => by rw [h3 x hx])]
theorem le_both {x : Int32} {t : Nat} (h : x ≤ nI t) (ht : t < 1000) : decide (x ≤ nI (t + 1)) = decide (x ≤ nI t) := by
  rw [decide_eq_true h, decide_eq_true]
  have := Int32.le_iff_toInt_le.mp h
  refine Int32.le_iff_toInt_le.mpr ?_
  rw [nI_toInt (by omega)] at this ⊢
  omega
theorem st_t {μ : St} {p t : Nat} (hJ : EvJ μ) (hR : Rng μ) (ht : tdN μ = t) (h0 : t < 935) : stOf μ p (t + 1) = stOf μ p t := by
  have c := hR.cns.d
  rw [ht] at c
  have e1 : ∀ y, rowL μ p y (t + 1) = rowL μ p y t := fun y => by
    unfold rowL
    refine lastB_cg _ (fun r hr => ?_)
    unfold rowP
    have := hJ.br r hr
    rw [c.1] at this
    rw [le_both this (by omega)]
  have e2 : ∀ w, rtn μ p (t + 1) w = rtn μ p t w := fun w => by
    unfold rtn
    rw [lastB_cg (P := retP μ p w (t + 1)) (Q := retP μ p w t) _ (fun r hr => ?_)]
    unfold retP
    have := hJ.bt r hr
    rw [c.1] at this
    rw [le_both this (by omega)]
  funext w
  unfold stOf inRw
  rw [e1, e2]
theorem InvF.nx {TC : Nat → List Cl} {tp : Nat → Nat} {σ μ : St} {t : Nat} (h : InvF TC tp σ μ) (ht : tdN μ = t) (h0 : t < 935) (fd : FdI (sI σ 162 0 0 0 (nI (t + 1))) (sI μ 205 0 0 0 (nI (t + 1)))) : InvB TC tp (sI σ 162 0 0 0 (nI (t + 1))) (sI μ 205 0 0 0 (nI (t + 1))) := by
  have c := h.rg.cns
  have cd := c.d
  have cP := c.P
  obtain ⟨ν, hν⟩ : ∃ ν, ν = sI μ 205 0 0 0 (nI (t + 1)) := ⟨_, rfl⟩
  obtain ⟨τ, hτ⟩ : ∃ τ, τ = sI σ 162 0 0 0 (nI (t + 1)) := ⟨_, rfl⟩
  have rg' : Rng ν := by
    rw [hν]
    exact h.rg.w (lo := 312) (hi := 935) (by decide) (by rw [nI_toInt (by omega)]; omega) (by rw [nI_toInt (by omega)]; omega)
  have eq' : Eq1 τ ν := by
    rw [hν, hτ]
    exact h.eq.w (by decide)
  rw [← hν, ← hτ] at fd ⊢
  have lx : ∀ f a b i, f ≠ 162 → τ.1 f a b i = σ.1 f a b i := fun f a b i q => by rw [hτ, sI_o q]
  have lm : ∀ f a b i, f ≠ 205 → ν.1 f a b i = μ.1 f a b i := fun f a b i q => by rw [hν, sI_o q]
  have lJ : ν.2 = μ.2 := by rw [hν]; rfl
  have n205 : ν.1 205 0 0 0 = nI (t + 1) := by rw [hν, sI_s]
  have le1 : ∀ x : Int32, x ≤ μ.1 205 0 0 0 → x ≤ ν.1 205 0 0 0 := fun x q => by
    rw [n205]
    rw [cd.1, ht] at q
    have := Int32.le_iff_toInt_le.mp q
    refine Int32.le_iff_toInt_le.mpr ?_
    rw [nI_toInt (by omega)] at this ⊢
    omega
  have sa : SmA μ ν := SmA.mk (fun f a b i q => lm f a b i (by
    have w1 : ∀ f ∈ LO ++ LB ++ LT, f ≠ 205 := by decide
    rcases q with q | q | q | q | q
    · exact w1 f (List.mem_append_left _ (List.mem_append_left _ q))
    · exact w1 f (List.mem_append_left _ (List.mem_append_right _ q))
    · exact w1 f (List.mem_append_right _ q)
    · rw [q]; decide
    · rw [q]; decide))
  have sr : ∀ k, SmR (nP μ) k μ ν := fun k => SmA.sr cP.2 (fun f a b i q => lm f a b i (by
    have w1 : ∀ f ∈ LO ++ LB ++ LT, f ≠ 205 := by decide
    rcases q with q | q | q | q | q
    · exact w1 f (List.mem_append_left _ (List.mem_append_left _ q))
    · exact w1 f (List.mem_append_left _ (List.mem_append_right _ q))
    · exact w1 f (List.mem_append_right _ q)
    · rw [q]; decide
    · rw [q]; decide))
  have eT : nT ν = nT μ := by unfold nT; rw [lm _ _ _ _ (by decide)]
  have eP : nP ν = nP μ := by unfold nP; rw [lm _ _ _ _ (by decide)]
  have eR : rwN ν = rwN μ := by unfold rwN; rw [lm _ _ _ _ (by decide)]
  have eQ : rtN ν = rtN μ := by unfold rtN; rw [lm _ _ _ _ (by decide)]
  have eD : tdN ν = t + 1 := by unfold tdN; rw [n205, nI_clamp (by omega)]
  have eO : ofN ν = ofN μ := by unfold ofN; rw [lm _ _ _ _ (by decide)]
  have eV : vcN ν = vcN μ := by unfold vcN; rw [lm _ _ _ _ (by decide)]
  have eF : ocN ν = ocN μ := by unfold ocN; rw [lm _ _ _ _ (by decide)]
  have eC : csN ν = csN μ := by unfold csN; rw [lm _ _ _ _ (by decide)]
  have fr : frM ν = frM μ := funext fun t => lm _ _ _ _ (by decide)
  have to : toM ν = toM μ := funext fun t => lm _ _ _ _ (by decide)
  have eb : bkN ν = bkN μ := by
    unfold bkN
    rw [sa.e.cn]
    exact cnt_cg _ (fun e _ => by rw [lm _ _ _ _ (by decide)])
  have vv : ∀ v, VwI v TC σ μ → VwI v TC τ ν := fun v V => by
    have V1 : VwI v TC τ μ := V.mv (fun f b i z => lx _ _ _ _ (by omega)) (fun p _ => lx _ _ _ _ (by decide))
    refine V1.sm (by omega) (fun n _ => rfl) (fun t _ => ⟨by rw [fr], by rw [to]⟩) (fun n p q1 q2 q3 q4 => q4.sm (by omega) (fun u _ => ?_) (fun e y1 y2 => ⟨by rw [← sa.e.cn]; exact y1, by rw [← sa.e.pe]; exact y2, by rw [sa.e.dy]⟩))
    have e1 : ∀ k, ENM ν TC p n k = ENM μ TC p n k := fun k => sa.n TC p n k q2
    have e2 : ∀ k, evM ν p k = evM μ p k := fun k => sa.v p k q2
    rw [e1, e2]
    by_cases z : v = 0
    · have k1 : kOf v ν u = t + 1 := by
        unfold kOf
        rw [if_pos z]
        exact eD
      have k2 : kOf v μ u = t := by
        unfold kOf
        rw [if_pos z]
        exact ht
      rw [k1, k2]
      refine ⟨?_, evM_t (fun x hx => kw_t h.ev.e h.rg ht h0 hx)⟩
      unfold ENM
      rw [st_t h.ev h.rg ht h0]
    · have k1 : kOf v ν u = u := by
        unfold kOf
        rw [if_neg z]
      have k2 : kOf v μ u = u := by
        unfold kOf
        rw [if_neg z]
      rw [k1, k2]
      exact ⟨rfl, rfl⟩
  refine ⟨eq', rg', h.tp.mv (fun i => lx _ _ _ _ (by decide)) (fun i => lm _ _ _ _ (by decide)), ⟨?_, ?_, fun t ht => ?_, fun t ht => ?_, fun t t' q1 q2 => ?_, fun k hk => ?_, ?_⟩, ⟨?_, fun e he => ?_, fun c hc => ?_, fun o ho => ?_, fun p hp => ?_, fun v hv => ?_, fun o ho => ?_, fun r hr => ?_, fun o ho => ?_, ?_, fun r hr => ?_, fun o ho => ?_⟩, vv 0 h.v0, vv 1 h.v1, ⟨fun p hp => ?_, fun v p hv q1 q2 => ?_⟩, ?_, fd, h.ot.mv (fun f i q => lx _ _ _ _ (by omega)) (fun f i q => lm _ _ _ _ (by omega)) (fun i => by rw [lJ])⟩
  · rw [fr, to, eT]
    exact h.tx.x.mv (fun f a b i q1 q2 => lx _ _ _ _ (by omega))
  · rw [eT]
    exact h.tx.m.mv (fun f i q1 q2 => lm _ _ _ _ (by omega))
  · rw [lx _ _ _ _ (by decide), lm _ _ _ _ (by decide)]
    exact h.tx.o t (by omega)
  · rw [lm 237 _ _ _ (by decide)]
    exact le1 _ (h.tx.l t (by omega))
  · rw [lm _ _ _ _ (by decide), lm _ _ _ _ (by decide)]
    exact h.tx.a t t' q1 (by omega)
  · rw [lm _ _ _ _ (by decide)]
    exact h.tx.d k hk
  · rw [lm _ _ _ _ (by decide)]
    exact h.tx.y
  · intro e he
    rw [sa.e.cn] at he
    obtain ⟨a1, ⟨s, s1, s2, s3⟩, a3, a4, a5⟩ := h.ev.e e he
    rw [sa.e.pe, sa.e.kd, sa.e.nu, sa.e.dy, lm 233 _ _ _ (by decide), lm 234 _ _ _ (by decide), lm 317 _ _ _ (by decide)]
    have s4 : s ≤ t := by
      have : (μ.1 205 0 0 0).toNatClampNeg = tdN μ := rfl
      omega
    exact ⟨a1, ⟨s, s1, s2, by rw [n205, nI_clamp (by omega)]; omega⟩, le1 _ a3, a4, a5⟩
  · rw [sa.e.pe, eP]
    exact h.ev.p e (by rw [← sa.e.cn]; exact he)
  · rw [lm _ _ _ _ (by decide), sa.e.cn]
    exact h.ev.c c (by omega)
  · rw [lm _ _ _ _ (by decide), eV]
    exact h.ev.ov o (by omega)
  · rw [lm _ _ _ _ (by decide), eF]
    exact h.ev.po p (by omega)
  · rw [lm _ _ _ _ (by decide), eF]
    exact h.ev.vo v (by omega)
  · rw [lm _ _ _ _ (by decide), lm _ _ _ _ (by decide)]
    exact h.ev.so o ho
  · rw [lm 223 _ _ _ (by decide)]
    exact le1 _ (h.ev.br r (by omega))
  · rw [lm _ _ _ _ (by decide)]
    exact h.ev.oc o (by omega)
  · rw [lm 206 _ _ _ (by decide)]
    rcases h.ev.lk with z | ⟨z1, z2⟩
    · exact Or.inl z
    · refine Or.inr ⟨z1, ?_⟩
      have := le1 _ (Int32.le_iff_toInt_le.mpr z2)
      exact Int32.le_iff_toInt_le.mp this
  · rw [lm 228 _ _ _ (by decide)]
    exact le1 _ (h.ev.bt r (by omega))
  · rw [lm _ _ _ _ (by decide), eP]
    exact h.ev.op o (by omega)
  · rw [lx _ _ _ _ (by decide), eR, eQ, sa.e.cn, eb]
    exact h.ch.c p hp
  · rw [lx _ _ _ _ (by decide)]
    exact h.ch.s v p hv (by omega) q2
  · rw [eP]
    exact h.rn.mv sr (fun f i q => lm _ _ _ _ (by omega)) (fun f i _ => by rw [lJ])
theorem InvB.wk {TC : Nat → List Cl} {tp : Nat → Nat} {σ μ σ' μ' : St} (h : InvB TC tp σ μ) (hx : ∀ f a b i, ¬ (54 ≤ f ∧ f ≤ 60) → ¬ (((62 ≤ f ∧ f ≤ 94) ∨ (144 ≤ f ∧ f ≤ 147)) ∧ a = 0) → σ'.1 f a b i = σ.1 f a b i) (hm : ∀ f a b i, f ≠ 315 → μ'.1 f a b i = μ.1 f a b i) (hj : ∀ f a b i, ¬ (309 ≤ f ∧ f ≤ 314) → μ'.2 f a b i = μ.2 f a b i) (h0 : VwI 0 TC σ' μ) (hs : ∀ p, nP μ ≤ p → p < 20 → σ'.1 82 0 p 0 = -1) : InvF TC tp σ' μ' := by
  have c := h.rg.cns
  have cP := c.P
  have sa : SmA μ μ' := SmA.mk (fun f a b i q => hm f a b i (by
    have w1 : ∀ f ∈ LO ++ LB ++ LT, f ≠ 315 := by decide
    rcases q with q | q | q | q | q
    · exact w1 f (List.mem_append_left _ (List.mem_append_left _ q))
    · exact w1 f (List.mem_append_left _ (List.mem_append_right _ q))
    · exact w1 f (List.mem_append_right _ q)
    · rw [q]; decide
    · rw [q]; decide))
  have sr : ∀ k, SmR (nP μ) k μ μ' := fun k => SmA.sr cP.2 (fun f a b i q => hm f a b i (by
    have w1 : ∀ f ∈ LO ++ LB ++ LT, f ≠ 315 := by decide
    rcases q with q | q | q | q | q
    · exact w1 f (List.mem_append_left _ (List.mem_append_left _ q))
    · exact w1 f (List.mem_append_left _ (List.mem_append_right _ q))
    · exact w1 f (List.mem_append_right _ q)
    · rw [q]; decide
    · rw [q]; decide))
  have eT : nT μ' = nT μ := by unfold nT; rw [hm _ _ _ _ (by decide)]
  have eP : nP μ' = nP μ := by unfold nP; rw [hm _ _ _ _ (by decide)]
  have eR : rwN μ' = rwN μ := by unfold rwN; rw [hm _ _ _ _ (by decide)]
  have eQ : rtN μ' = rtN μ := by unfold rtN; rw [hm _ _ _ _ (by decide)]
  have eD : tdN μ' = tdN μ := by unfold tdN; rw [hm _ _ _ _ (by decide)]
  have fr : frM μ' = frM μ := funext fun t => hm _ _ _ _ (by decide)
  have to : toM μ' = toM μ := funext fun t => hm _ _ _ _ (by decide)
  have eb : bkN μ' = bkN μ := by
    unfold bkN
    rw [sa.e.cn]
    exact cnt_cg _ (fun e _ => by rw [hm _ _ _ _ (by decide)])
  have v1' : VwI 1 TC σ' μ := h.v1.mv (fun f b i z => hx _ _ _ _ (by omega) (by omega)) (fun p _ => hx _ _ _ _ (by decide) (by decide))
  refine ⟨fun q hq i => ?_, fun q hq i => ?_, h.tp.mv (fun i => hx _ _ _ _ (by decide) (by decide)) (fun i => hm _ _ _ _ (by decide)), ⟨?_, ?_, fun t ht => ?_, fun t ht => ?_, fun t t' q1 q2 => ?_, fun k hk => ?_, ?_⟩, h.ev.mv (fun f i q => hm _ _ _ _ (by omega)), h0.sa sa eD (by omega) (fun _ _ => rfl) (fun t _ => ⟨by rw [fr], by rw [to]⟩), v1'.sa sa eD (by omega) (fun _ _ => rfl) (fun t _ => ⟨by rw [fr], by rw [to]⟩), ⟨fun p hp => ?_, fun v p hv q1 q2 => ?_⟩, ?_, h.ot.mv (fun f i q => hx _ _ _ _ (by omega) (by omega)) (fun f i q => hm _ _ _ _ (by omega)) (fun i => hj _ _ _ _ (by decide))⟩
  · have h2 : eqF.all (fun q => decide (¬ (54 ≤ q.1 ∧ q.1 ≤ 60) ∧ ¬ ((62 ≤ q.1 ∧ q.1 ≤ 94) ∨ (144 ≤ q.1 ∧ q.1 ≤ 147)) ∧ q.2 ≠ 315)) = true := by decide
    obtain ⟨a1, a2, a3⟩ := of_decide_eq_true (List.all_eq_true.mp h2 q hq)
    rw [hx _ _ _ _ a1 (fun z => a2 z.1), hm _ _ _ _ a3]
    exact h.eq q hq i
  · have h2 : rngF.all (fun q => decide (q.1 ≠ 315)) = true := by decide
    rw [hm _ _ _ _ (of_decide_eq_true (List.all_eq_true.mp h2 q hq))]
    exact h.rg q hq i
  · rw [fr, to, eT]
    exact h.tx.x.mv (fun f a b i q1 q2 => hx _ _ _ _ (by omega) (by omega))
  · rw [eT]
    exact h.tx.m.mv (fun f i q1 q2 => hm _ _ _ _ (by omega))
  · rw [hx _ _ _ _ (by decide) (by omega), hm _ _ _ _ (by decide)]
    exact h.tx.o t (by omega)
  · rw [hm _ _ _ _ (by decide), hm _ _ _ _ (by decide)]
    exact h.tx.l t (by omega)
  · rw [hm _ _ _ _ (by decide), hm _ _ _ _ (by decide)]
    exact h.tx.a t t' q1 (by omega)
  · rw [hm _ _ _ _ (by decide)]
    exact h.tx.d k hk
  · rw [hm _ _ _ _ (by decide)]
    exact h.tx.y
  · rw [hx _ _ _ _ (by decide) (by decide), eR, eQ, sa.e.cn, eb]
    exact h.ch.c p hp
  · rw [eP] at q1
    by_cases z : v = 0
    · rw [z]
      exact hs p q1 q2
    · rw [hx _ _ _ _ (by decide) (by omega)]
      exact h.ch.s v p hv q1 q2
  · rw [eP]
    exact h.rn.mv sr (fun f i q => hm _ _ _ _ (by omega)) (fun f i q => hj _ _ _ _ (by omega))
