/-! cases closed, events taken back, returns -/
theorem step_close {N : Nat} {σ μ : St} (h : Inv σ μ) (a1 a2 : Int32) (hz : a2 = 0 ∨ a2 = 1) : StQ (fX_close N a1 a2 σ) (fM_close N a1 a2 μ) := by
  obtain ⟨TC, tp, h⟩ := h
  have c := h.rg.cns
  have hd := c.d
  have ht : (μ.1 205 0 0 0).toInt = (tdN μ : Int) := by rw [hd.1, nI_toInt (by omega)]
  have st : ∀ (j : Nat) (x : Int32), (x = 0 ∨ x = 1) → InvB TC tp (sI (sI σ 34 0 0 j (μ.1 205 0 0 0)) 35 0 0 j x) (sI (sI (sI μ 204 0 0 0 0) 345 0 0 j (μ.1 205 0 0 0)) 346 0 0 j x) := fun j x hx => by
    have f : ∀ f a b i, f ≠ 204 → f ≠ 345 → f ≠ 346 → (sI (sI (sI μ 204 0 0 0 0) 345 0 0 j (μ.1 205 0 0 0)) 346 0 0 j x).1 f a b i = μ.1 f a b i := fun f a b i q1 q2 q3 => by rw [sI_o q3, sI_o q2, sI_o q1]
    have h01 : 0 ≤ x.toInt ∧ x.toInt ≤ 1 := by
      rcases hx with rfl | rfl <;> decide
    exact h.fr (((h.eq.r (by decide)).w (by decide)).w (by decide)) (((h.rg.o (by decide)).w (lo := -1) (hi := 935) (by decide) (by omega) (by omega)).w (lo := 0) (hi := 1) (by decide) h01.1 h01.2) (h.tp.mv (fun i => by rw [sI_o (by decide), sI_o (by decide)]) (fun i => f _ _ _ _ (by decide) (by decide) (by decide))) (h.ev.mv (fun g i q => f _ _ _ _ (by omega) (by omega) (by omega))) (h.ot.mv (fun f i q => by rw [sI_o (by omega), sI_o (by omega)]) (fun g i q => f _ _ _ _ (by omega) (by omega) (by omega)) (fun _ => rfl)) (fun f a b i q => by rw [sI_o (by omega), sI_o (by omega)]) (fun g a b i q => f _ _ _ _ (by omega) (by omega) (by omega)) (fun _ _ _ _ _ => rfl)
  rcases e_close (N := N) h.eq h.rg a1 a2 hz with ⟨e1, e2⟩ | ⟨e1, e2⟩ | ⟨k, j, n1, n2, n3, n4, n5, n6, e1, e2⟩ | ⟨k, j, n, e, p, n1, n2, n3, n4, n5, n6, n7, n8, n9, n10, n11, n12, e1, e2⟩
  · rw [e1, e2]
    exact StQ.fail ⟨TC, tp, h.code⟩
  · rw [e1, e2]
    exact StQ.ok ⟨TC, tp, h.code⟩ (sI_s _ _ _ _ _ _) rfl
  · rw [e1, e2]
    exact StQ.ok ⟨TC, tp, st j 0 (Or.inl rfl)⟩ (by rw [sI_o (by decide), sI_o (by decide), sI_s]) rfl
  · rw [e1, e2]
    have f : ∀ f a b i, f ≠ 204 → f ≠ 345 → f ≠ 346 → (sI (sI (sI μ 204 0 0 0 0) 345 0 0 j (μ.1 205 0 0 0)) 346 0 0 j 1).1 f a b i = μ.1 f a b i := fun f a b i q1 q2 q3 => by rw [sI_o q3, sI_o q2, sI_o q1]
    have en : cnM μ = n := by unfold cnM; rw [n8, nI_clamp (by omega)]
    have ek : csN μ = k := by unfold csN; rw [n3, nI_clamp (by omega)]
    have hP := c.P.2
    have he : e < n := by
      have := h.ev.c j (by omega)
      rw [n9, nI_clamp (by omega)] at this
      omega
    have epe : peM μ e = p := by unfold peM; rw [n11, nI_clamp (by omega)]
    have hpp : p < nP μ := by
      rw [← epe]
      exact h.ev.p e (by omega)
    have := (st j 1 (Or.inr rfl)).note (n := n) (j := p) (kk := 8) (v := nI e) (d := μ.1 205 0 0 0) (by unfold cnM; rw [f _ _ _ _ (by decide) (by decide) (by decide)]; exact en) n7 (by unfold nP; rw [f _ _ _ _ (by decide) (by decide) (by decide)]; exact hpp) (by omega) (by rw [nI_toInt (by omega)]; omega) ⟨by omega, by unfold tdN; rw [f _ _ _ _ (by decide) (by decide) (by decide)]; show (μ.1 205 0 0 0).toInt ≤ (tdN μ : Int); omega⟩ (fun _ => ⟨e, he, rfl, by unfold peM; rw [f _ _ _ _ (by decide) (by decide) (by decide)]; exact epe⟩) (fun q => by omega)
    rw [f _ _ _ _ (by decide) (by decide) (by decide)] at this
    exact StQ.ok ⟨TC, tp, this⟩ ((mNote_c _ _ _ _ _ _ _).trans (by rw [sI_o (by decide), sI_o (by decide), sI_s])) rfl
theorem step_back {N : Nat} {σ μ : St} (h : Inv σ μ) (a1 : Int32) : StQ (fX_back N a1 σ) (fM_back N a1 μ) := by
  obtain ⟨TC, tp, h⟩ := h
  have c := h.rg.cns
  have hd := c.d
  have ht : (μ.1 205 0 0 0).toInt = (tdN μ : Int) := by rw [hd.1, nI_toInt (by omega)]
  rcases e_back (N := N) h.eq h.rg a1 with ⟨e1, e2⟩ | ⟨e1, e2⟩ | ⟨n, j, p, n1, n2, n3, n4, n5, n6, n7, e1, e2⟩
  · rw [e1, e2]
    exact StQ.fail ⟨TC, tp, h.code⟩
  · rw [e1, e2]
    exact StQ.ok ⟨TC, tp, h.code⟩ (sI_s _ _ _ _ _ _) rfl
  · rw [e1, e2]
    have en : cnM μ = n := by unfold cnM; rw [n2, nI_clamp (by omega)]
    obtain ⟨ν, hν⟩ : ∃ ν, ν = sI (sI (sI μ 204 0 0 0 0) 234 0 0 j (μ.1 205 0 0 0)) 273 0 0 0 0 := ⟨_, rfl⟩
    have l : ∀ f a b i, f ≠ 204 → f ≠ 234 → f ≠ 273 → ν.1 f a b i = μ.1 f a b i := fun f a b i q1 q2 q3 => by rw [hν, sI_o q3, sI_o q2, sI_o q1]
    have li : ∀ i, i ≠ j → ν.1 234 0 0 i = μ.1 234 0 0 i := fun i q => by rw [hν, sI_o (by decide), sI_i q, sI_o (by decide)]
    have lj : ν.1 234 0 0 j = μ.1 205 0 0 0 := by rw [hν, sI_o (by decide), sI_s]
    have epe : peM μ j = p := by unfold peM; rw [n6, nI_clamp (by omega)]
    have e1' : cnM ν = cnM μ := by unfold cnM; rw [l _ _ _ _ (by decide) (by decide) (by decide)]
    have lpe : peM ν = peM μ := funext fun e => by unfold peM; rw [l _ _ _ _ (by decide) (by decide) (by decide)]
    have lkd : kdM ν = kdM μ := funext fun e => by unfold kdM; rw [l _ _ _ _ (by decide) (by decide) (by decide)]
    have lnu : nuM ν = nuM μ := funext fun e => by unfold nuM; rw [l _ _ _ _ (by decide) (by decide) (by decide)]
    have ldy : dyM ν = dyM μ := funext fun e => by unfold dyM; rw [l _ _ _ _ (by decide) (by decide) (by decide)]
    have eP : nP ν = nP μ := by unfold nP; rw [l _ _ _ _ (by decide) (by decide) (by decide)]
    have eO : ofN ν = ofN μ := by unfold ofN; rw [l _ _ _ _ (by decide) (by decide) (by decide)]
    have eV : vcN ν = vcN μ := by unfold vcN; rw [l _ _ _ _ (by decide) (by decide) (by decide)]
    have eC : csN ν = csN μ := by unfold csN; rw [l _ _ _ _ (by decide) (by decide) (by decide)]
    have eF : ocN ν = ocN μ := by unfold ocN; rw [l _ _ _ _ (by decide) (by decide) (by decide)]
    have eR : rwN ν = rwN μ := by unfold rwN; rw [l _ _ _ _ (by decide) (by decide) (by decide)]
    have eT : rtN ν = rtN μ := by unfold rtN; rw [l _ _ _ _ (by decide) (by decide) (by decide)]
    have e205 : ν.1 205 0 0 0 = μ.1 205 0 0 0 := l _ _ _ _ (by decide) (by decide) (by decide)
    have hLW : ∀ f a b i, f ∈ LW → ν.1 f a b i = μ.1 f a b i := fun f a b i q => by
      have w : ∀ f ∈ LW, f ≠ 204 ∧ f ≠ 234 ∧ f ≠ 273 := by decide
      have := w f q
      exact l f a b i this.1 this.2.1 this.2.2
    have eq' : Eq1 (sI (sI σ 42 0 0 j (μ.1 205 0 0 0)) 53 0 0 p (σ.1 53 0 0 p + 1)) ν := by
      rw [hν]
      exact (((h.eq.r (by decide)).w (by decide)).l (by decide)).r (by decide)
    have rg' : Rng ν := by
      rw [hν]
      exact ((h.rg.o (by decide)).w (lo := -1) (hi := 935) (by decide) (by omega) (by omega)).o (by decide)
    rw [← hν]
    refine StQ.ok ⟨TC, tp, h.tl (j := p) n7 eq' rg' (h.tp.mv (fun i => by rw [sI_o (by decide), sI_o (by decide)]) (fun i => l _ _ _ _ (by decide) (by decide) (by decide))) ⟨fun e he => ?_, fun e he => ?_, fun c hc => ?_, fun o ho => ?_, fun p hp => ?_, fun v hv => ?_, fun o ho => ?_, fun r hr => ?_, fun o ho => ?_, ?_, fun r hr => ?_, fun o ho => ?_⟩ (h.ot.mv (fun f i q => by rw [sI_o (by omega), sI_o (by omega)]) (fun f i q => l _ _ _ _ (by omega) (by omega) (by omega)) (fun i => by rw [hν]; rfl)) (fun f a b i q q2 => by rw [sI_o q2, sI_o (by omega)]) (fun q hq => by rw [sI_i hq, sI_o (by decide)]) (by rw [sI_s]) (fun f i q => l _ _ _ _ (by omega) (by omega) (by omega)) (fun f a b i q => by rw [hν]; rfl) (by rw [hν, sI_s]) (fun q hq hqj => ⟨fun m k => ?_, fun k => ?_, fun e he hpe => ?_⟩) ?_⟩ (by rw [hν, sI_o (by decide), sI_o (by decide), sI_s]) rfl
    · obtain ⟨i1, i2, i3, i4, i5⟩ := h.ev.e e (by omega)
      rw [lpe, lkd, lnu, ldy, l 233 _ _ _ (by decide) (by decide) (by decide), e205]
      refine ⟨i1, i2, ?_, i4, fun q => ?_⟩
      · by_cases z : e = j
        · rw [z, lj]
          exact Int32.le_refl _
        · rw [li e z]
          exact i3
      · obtain ⟨o, o1, o2⟩ := i5 q
        exact ⟨o, o1, by rw [show (ν.1 317 0 0 0).toNatClampNeg = ofN ν from rfl, eO]; exact o2⟩
    · rw [lpe, eP]
      exact h.ev.p e (by omega)
    · rw [l _ _ _ _ (by decide) (by decide) (by decide), e1']
      exact h.ev.c c (by omega)
    · rw [l _ _ _ _ (by decide) (by decide) (by decide), eV]
      exact h.ev.ov o (by omega)
    · rw [l _ _ _ _ (by decide) (by decide) (by decide), eF]
      exact h.ev.po p (by omega)
    · rw [l _ _ _ _ (by decide) (by decide) (by decide), eF]
      exact h.ev.vo v (by omega)
    · rw [l _ _ _ _ (by decide) (by decide) (by decide), l _ _ _ _ (by decide) (by decide) (by decide)]
      exact h.ev.so o ho
    · rw [l _ _ _ _ (by decide) (by decide) (by decide), e205]
      exact h.ev.br r (by omega)
    · rw [l _ _ _ _ (by decide) (by decide) (by decide)]
      exact h.ev.oc o (by omega)
    · rw [l _ _ _ _ (by decide) (by decide) (by decide), e205]
      exact h.ev.lk
    · rw [l _ _ _ _ (by decide) (by decide) (by decide), e205]
      exact h.ev.bt r (by omega)
    · rw [l _ _ _ _ (by decide) (by decide) (by decide), eP]
      exact h.ev.op o (by omega)
    · have wB : ∀ f a b i, f ∈ LB → ν.1 f a b i = μ.1 f a b i := fun f a b i q => by
        have w : ∀ f ∈ LB, f ≠ 204 ∧ f ≠ 234 ∧ f ≠ 273 := by decide
        have := w f q
        exact l f a b i this.1 this.2.1 this.2.2
      exact ENM_c ⟨funext fun t => l _ _ _ _ (by decide) (by decide) (by decide), funext fun t => l _ _ _ _ (by decide) (by decide) (by decide)⟩ (st_c wB q k) (l _ _ _ _ (by decide) (by decide) (by decide)) (l _ _ _ _ (by decide) (by decide) (by decide)) (l _ _ _ _ (by decide) (by decide) (by decide))
    · refine evM_q (n := n) (b := 0) en (e1'.trans en) (fun x q1 q2 => by omega) (fun x hx => by rw [lpe]) (fun x hx hxq => ⟨by rw [lkd], by rw [lnu], by rw [ldy], ?_, ofM_c (by rw [lkd]) (by rw [lnu]) hLW⟩)
      have z : x ≠ j := fun z => by
        rw [z, epe] at hxq
        exact hqj hxq.symm
      unfold kwM
      rw [l 233 _ _ _ (by decide) (by decide) (by decide), li x z]
    · exact ⟨by omega, by rw [← lpe]; exact hpe, by rw [ldy]⟩
    · have eb : bkN ν = bkN μ + 1 := by
        unfold bkN
        rw [e1']
        refine cnt_add (i := j) ?_ ?_ (fun x hx => by rw [li x hx]) (cnM μ) (by omega)
        · rw [show μ.1 234 0 0 j = -1 from n5]
          rfl
        · rw [lj, hd.1, decide_eq_false (m1_ne (by omega))]
          rfl
      rw [eb, e1', eR, eT]
      omega
theorem step_returns {N : Nat} {σ μ : St} (h : Inv σ μ) (a1 a2 a3 : Int32) : StQ (fX_returns N a1 a2 a3 σ) (fM_returns N a1 a2 a3 μ) := by
  obtain ⟨TC, tp, h⟩ := h
  have c := h.rg.cns
  have hd := c.d
  have ht : (μ.1 205 0 0 0).toInt = (tdN μ : Int) := by rw [hd.1, nI_toInt (by omega)]
  rcases e_returns (N := N) h.eq h.rg a1 a2 a3 with ⟨e1, e2⟩ | ⟨e1, e2⟩ | ⟨n, p, j, n1, n2, n3, n4, rfl, n5, n6, e1, e2⟩
  · rw [e1, e2]
    exact StQ.fail ⟨TC, tp, h.code⟩
  · rw [e1, e2]
    exact StQ.ok ⟨TC, tp, h.code⟩ (sI_s _ _ _ _ _ _) rfl
  · rw [e1, e2]
    have en : rtN μ = n := by unfold rtN; rw [n2, nI_clamp (by omega)]
    have hP := c.P.2
    obtain ⟨τ, hτ⟩ : ∃ τ, τ = sI (sI (sI (sI (sI (sI σ 22 0 0 n (nI j)) 23 0 0 n a2) 24 0 0 n a3) 25 0 0 n (μ.1 205 0 0 0)) 26 0 0 0 (nI (n + 1))) 53 0 0 j (σ.1 53 0 0 j + 1) := ⟨_, rfl⟩
    obtain ⟨ν, hν⟩ : ∃ ν, ν = sI (sI (sI (sI (sI (sI (sI μ 204 0 0 0 0) 225 0 0 n (nI j)) 226 0 0 n a2) 227 0 0 n a3) 228 0 0 n (μ.1 205 0 0 0)) 217 0 0 0 (nI (n + 1))) 273 0 0 0 0 := ⟨_, rfl⟩
    have lx : ∀ f a b i, ¬ (22 ≤ f ∧ f ≤ 26) → f ≠ 53 → τ.1 f a b i = σ.1 f a b i := fun f a b i q1 q2 => by rw [hτ, sI_o q2, sI_o (by omega), sI_o (by omega), sI_o (by omega), sI_o (by omega), sI_o (by omega)]
    have l : ∀ f a b i, f ≠ 204 → f ≠ 217 → ¬ (225 ≤ f ∧ f ≤ 228) → f ≠ 273 → ν.1 f a b i = μ.1 f a b i := fun f a b i q1 q2 q3 q4 => by rw [hν, sI_o q4, sI_o q2, sI_o (by omega), sI_o (by omega), sI_o (by omega), sI_o (by omega), sI_o q1]
    have li : ∀ f i, 225 ≤ f ∧ f ≤ 228 → i ≠ n → ν.1 f 0 0 i = μ.1 f 0 0 i := fun f i q1 q2 => by
      rw [hν, sI_o (by omega), sI_o (by omega), sI_1, if_neg (fun z => q2 z.2.2.2), sI_1, if_neg (fun z => q2 z.2.2.2), sI_1, if_neg (fun z => q2 z.2.2.2), sI_1, if_neg (fun z => q2 z.2.2.2), sI_o (by omega)]
    have n25 : ν.1 225 0 0 n = nI j := by rw [hν, sI_o (by decide), sI_o (by decide), sI_o (by decide), sI_o (by decide), sI_o (by decide), sI_s]
    have n28 : ν.1 228 0 0 n = μ.1 205 0 0 0 := by rw [hν, sI_o (by decide), sI_o (by decide), sI_s]
    have eq' : Eq1 τ ν := by
      rw [hτ, hν]
      exact (((((((h.eq.r (by decide)).w (by decide)).w (by decide)).w (by decide)).w (by decide)).w (by decide)).l (by decide)).r (by decide)
    have rg' : Rng ν := by
      rw [hν]
      exact ((((((h.rg.o (by decide)).w (lo := 0) (hi := 19) (by decide) (by rw [nI_toInt (by omega)]; omega) (by rw [nI_toInt (by omega)]; omega)).w (lo := 0) (hi := 155) (by decide) (by omega) (by omega)).w (lo := -1) (hi := 6) (by decide) (by omega) (by omega)).w (lo := 0) (hi := 935) (by decide) (by omega) (by omega)).w (lo := 0) (hi := 100) (by decide) (by rw [nI_toInt (by omega)]; omega) (by rw [nI_toInt (by omega)]; omega)).o (by decide)
    have en' : rtN ν = n + 1 := by
      unfold rtN
      rw [hν, sI_o (by decide), sI_s, nI_clamp (by omega)]
    have eP : nP ν = nP μ := by unfold nP; rw [l _ _ _ _ (by decide) (by decide) (by decide) (by decide)]
    have eO : ofN ν = ofN μ := by unfold ofN; rw [l _ _ _ _ (by decide) (by decide) (by decide) (by decide)]
    have eV : vcN ν = vcN μ := by unfold vcN; rw [l _ _ _ _ (by decide) (by decide) (by decide) (by decide)]
    have eC : csN ν = csN μ := by unfold csN; rw [l _ _ _ _ (by decide) (by decide) (by decide) (by decide)]
    have eF : ocN ν = ocN μ := by unfold ocN; rw [l _ _ _ _ (by decide) (by decide) (by decide) (by decide)]
    have eR : rwN ν = rwN μ := by unfold rwN; rw [l _ _ _ _ (by decide) (by decide) (by decide) (by decide)]
    have e1' : cnM ν = cnM μ := by unfold cnM; rw [l _ _ _ _ (by decide) (by decide) (by decide) (by decide)]
    have e205 : ν.1 205 0 0 0 = μ.1 205 0 0 0 := l _ _ _ _ (by decide) (by decide) (by decide) (by decide)
    have sE : SmE μ ν := SmE.mk (fun f a b i q => by
      have w : ∀ f ∈ LE, f ≠ 204 ∧ f ≠ 217 ∧ ¬ (225 ≤ f ∧ f ≤ 228) ∧ f ≠ 273 := by decide
      have := w f q
      exact l f a b i this.1 this.2.1 this.2.2.1 this.2.2.2)
    have eb : bkN ν = bkN μ := by
      unfold bkN
      rw [e1']
      exact cnt_cg _ (fun e _ => by rw [l _ _ _ _ (by decide) (by decide) (by decide) (by decide)])
    rw [← hτ, ← hν]
    refine StQ.ok ⟨TC, tp, h.tl (j := j) (by omega) eq' rg' (h.tp.mv (fun i => lx _ _ _ _ (by decide) (by decide)) (fun i => l _ _ _ _ (by decide) (by decide) (by decide) (by decide))) ⟨h.ev.e.up (fun f i q => l _ _ _ _ (by omega) (by omega) (by omega) (by omega)) (by omega), fun e he => ?_, fun c hc => ?_, fun o ho => ?_, fun p hp => ?_, fun v hv => ?_, fun o ho => ?_, fun r hr => ?_, fun o ho => ?_, ?_, fun r hr => ?_, fun o ho => ?_⟩ (h.ot.mv (fun f i q => lx _ _ _ _ (by omega) (by omega)) (fun f i q => l _ _ _ _ (by omega) (by omega) (by omega) (by omega)) (fun i => by rw [hν]; rfl)) (fun f a b i q q2 => lx _ _ _ _ (by omega) q2) (fun q hq => by rw [hτ, sI_i hq, sI_o (by decide), sI_o (by decide), sI_o (by decide), sI_o (by decide), sI_o (by decide)]) (by rw [hτ, sI_s]) (fun f i q => l _ _ _ _ (by omega) (by omega) (by omega) (by omega)) (fun f a b i q => by rw [hν]; rfl) (by rw [hν, sI_s]) (fun q hq hqj => ⟨fun m k => ?_, fun k => ?_, fun e he hpe => ?_⟩) (by omega)⟩ (by rw [hν, sI_o (by decide), sI_o (by decide), sI_o (by decide), sI_o (by decide), sI_o (by decide), sI_o (by decide), sI_s]) rfl
    · rw [sE.pe, eP]
      exact h.ev.p e (by omega)
    · rw [l _ _ _ _ (by decide) (by decide) (by decide) (by decide), e1']
      exact h.ev.c c (by omega)
    · rw [l _ _ _ _ (by decide) (by decide) (by decide) (by decide), eV]
      exact h.ev.ov o (by omega)
    · rw [l _ _ _ _ (by decide) (by decide) (by decide) (by decide), eF]
      exact h.ev.po p (by omega)
    · rw [l _ _ _ _ (by decide) (by decide) (by decide) (by decide), eF]
      exact h.ev.vo v (by omega)
    · rw [l _ _ _ _ (by decide) (by decide) (by decide) (by decide), l _ _ _ _ (by decide) (by decide) (by decide) (by decide)]
      exact h.ev.so o ho
    · rw [l _ _ _ _ (by decide) (by decide) (by decide) (by decide), e205]
      exact h.ev.br r (by omega)
    · rw [l _ _ _ _ (by decide) (by decide) (by decide) (by decide)]
      exact h.ev.oc o (by omega)
    · rw [l _ _ _ _ (by decide) (by decide) (by decide) (by decide), e205]
      exact h.ev.lk
    · rw [e205]
      by_cases z : r = n
      · rw [z, n28]
        exact Int32.le_refl _
      · rw [li _ _ (by decide) z]
        exact h.ev.bt r (by omega)
    · rw [l _ _ _ _ (by decide) (by decide) (by decide) (by decide), eP]
      exact h.ev.op o (by omega)
    · refine ENM_c ⟨funext fun t => l _ _ _ _ (by decide) (by decide) (by decide) (by decide), funext fun t => l _ _ _ _ (by decide) (by decide) (by decide) (by decide)⟩ (funext fun w => ?_) (l _ _ _ _ (by decide) (by decide) (by decide) (by decide)) (l _ _ _ _ (by decide) (by decide) (by decide) (by decide)) (l _ _ _ _ (by decide) (by decide) (by decide) (by decide))
      have hr : rtn ν q k w = rtn μ q k w := by
        unfold rtn
        rw [show (ν.1 217 0 0 0).toNatClampNeg = n + 1 from en', show (μ.1 217 0 0 0).toNatClampNeg = n from en, lastB_f (by
          unfold retP
          rw [n25, decide_eq_false (fun z => hqj ((nI_eq (by omega) (by omega)).mp z).symm)]
          rfl), lastB_cg (Q := retP μ q w k) n (fun r hr => by
          unfold retP
          rw [li _ _ (by decide) (by omega), li _ _ (by decide) (by omega), li _ _ (by decide) (by omega)])]
        cases e : lastB (retP μ q w k) n with
        | none => rfl
        | some r =>
          have := (lastB_lt n r e).1
          show ν.1 227 0 0 r = μ.1 227 0 0 r
          exact li _ _ (by decide) (by omega)
      have hi : inRw ν q k w = inRw μ q k w := by
        have w9 : ∀ f ∈ [216, 220, 221, 222, 223, 224], f ≠ 204 ∧ f ≠ 217 ∧ ¬ (225 ≤ f ∧ f ≤ 228) ∧ f ≠ 273 := by decide
        have e := cut_eq (S := [216, 220, 221, 222, 223, 224]) (μ := μ) (μ' := ν) (fun f a b i q => by
          have := w9 f q
          exact l f a b i this.1 this.2.1 this.2.2.1 this.2.2.2)
        have r1 : ∀ μ : St, inRw (cut [216, 220, 221, 222, 223, 224] μ) q k w = inRw μ q k w := fun _ => rfl
        rw [← r1 ν, e, r1]
      unfold stOf
      rw [hr, hi]
    · refine evM_c (fun f a b i q => ?_) q k
      have w : ∀ f ∈ LO, f ≠ 204 ∧ f ≠ 217 ∧ ¬ (225 ≤ f ∧ f ≤ 228) ∧ f ≠ 273 := by decide
      have := w f q
      exact l f a b i this.1 this.2.1 this.2.2.1 this.2.2.2
    · exact ⟨by omega, by rw [← sE.pe]; exact hpe, by rw [sE.dy]⟩
