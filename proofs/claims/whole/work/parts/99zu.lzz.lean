/-! one more person -/
theorem step_person {N : Nat} {σ μ : St} (h : Inv σ μ) (a1 a2 a3 a4 a5 : Int32) : StI (fX_person N a1 a2 a3 a4 a5 σ) (fM_person N a1 a2 a3 a4 a5 μ) := by
  obtain ⟨TC, tp, h⟩ := h
  have c := h.rg.cns
  have hd := c.d
  rcases e_person (N := N) h.eq h.rg a1 a2 a3 a4 a5 with ⟨e1, e2⟩ | ⟨n, o, n1, n2, n3, n4, n5, e1, e2⟩
  · rw [e1, e2]
    exact ⟨-1, σ, _, rfl, rfl, TC, tp, h.code⟩
  · rw [e1, e2]
    refine ⟨nI n, _, _, rfl, rfl, TC, tp, ?_⟩
    have en : nP μ = n := by unfold nP; rw [n2, nI_clamp (by omega)]
    have eo : ocN μ = o := by unfold ocN; rw [n3, nI_clamp (by omega)]
    obtain ⟨τ, hτ⟩ : ∃ τ, τ = sI (sI (sI (sI (sI (sI σ 47 0 0 n a1) 48 0 0 n a2) 49 0 0 n a3) 50 0 0 n a4) 51 0 0 n a5) 52 0 0 0 (nI (n + 1)) := ⟨_, rfl⟩
    obtain ⟨ν, hν⟩ : ∃ ν, ν = sI (sI (sI (sI (sI (sI (sI (sI μ 204 0 0 0 0) 211 0 0 n a1) 212 0 0 n a2) 213 0 0 n a3) 214 0 0 n a4) 215 0 0 n a5) 208 0 0 0 (nI (n + 1))) 273 0 0 0 0 := ⟨_, rfl⟩
    have lx : ∀ f a b i, ¬ (47 ≤ f ∧ f ≤ 52) → τ.1 f a b i = σ.1 f a b i := fun f a b i q => by rw [hτ, sI_o (by omega), sI_o (by omega), sI_o (by omega), sI_o (by omega), sI_o (by omega), sI_o (by omega)]
    have l : ∀ f a b i, f ≠ 204 → ¬ (211 ≤ f ∧ f ≤ 215) → f ≠ 208 → f ≠ 273 → ν.1 f a b i = μ.1 f a b i := fun f a b i q1 q2 q3 q4 => by rw [hν, sI_o q4, sI_o q3, sI_o (by omega), sI_o (by omega), sI_o (by omega), sI_o (by omega), sI_o (by omega), sI_o q1]
    have li : ∀ f i, 211 ≤ f ∧ f ≤ 215 → i ≠ n → ν.1 f 0 0 i = μ.1 f 0 0 i := fun f i q1 q2 => by
      rw [hν, sI_o (by omega), sI_o (by omega), sI_1, if_neg (fun z => q2 z.2.2.2), sI_1, if_neg (fun z => q2 z.2.2.2), sI_1, if_neg (fun z => q2 z.2.2.2), sI_1, if_neg (fun z => q2 z.2.2.2), sI_1, if_neg (fun z => q2 z.2.2.2), sI_o (by omega)]
    have n13 : ν.1 213 0 0 n = a3 := by rw [hν, sI_o (by decide), sI_o (by decide), sI_o (by decide), sI_o (by decide), sI_s]
    have eq' : Eq1 τ ν := by
      rw [hτ, hν]
      exact (((((((h.eq.r (by decide)).w (by decide)).w (by decide)).w (by decide)).w (by decide)).w (by decide)).w (by decide)).r (by decide)
    have rg' : Rng ν := by
      rw [hν]
      exact (((((((h.rg.o (by decide)).w (lo := 0) (hi := 7) (by decide) (by omega) (by omega)).w (lo := 0) (hi := 90) (by decide) (by omega) (by omega)).w (lo := 0) (hi := 7) (by decide) (by omega) (by omega)).w (lo := 0) (hi := 999) (by decide) (by omega) (by omega)).w (lo := 0) (hi := 99) (by decide) (by omega) (by omega)).w (lo := 0) (hi := 20) (by decide) (by rw [nI_toInt (by omega)]; omega) (by rw [nI_toInt (by omega)]; omega)).o (by decide)
    have en' : nP ν = n + 1 := by
      unfold nP
      rw [hν, sI_o (by decide), sI_s, nI_clamp (by omega)]
    have eO : ofN ν = ofN μ := by unfold ofN; rw [l _ _ _ _ (by decide) (by decide) (by decide) (by decide)]
    have eV : vcN ν = vcN μ := by unfold vcN; rw [l _ _ _ _ (by decide) (by decide) (by decide) (by decide)]
    have eC : csN ν = csN μ := by unfold csN; rw [l _ _ _ _ (by decide) (by decide) (by decide) (by decide)]
    have eF : ocN ν = ocN μ := by unfold ocN; rw [l _ _ _ _ (by decide) (by decide) (by decide) (by decide)]
    have eR : rwN ν = rwN μ := by unfold rwN; rw [l _ _ _ _ (by decide) (by decide) (by decide) (by decide)]
    have eQ : rtN ν = rtN μ := by unfold rtN; rw [l _ _ _ _ (by decide) (by decide) (by decide) (by decide)]
    have eT : nT ν = nT μ := by unfold nT; rw [l _ _ _ _ (by decide) (by decide) (by decide) (by decide)]
    have eD : tdN ν = tdN μ := by unfold tdN; rw [l _ _ _ _ (by decide) (by decide) (by decide) (by decide)]
    have e1' : cnM ν = cnM μ := by unfold cnM; rw [l _ _ _ _ (by decide) (by decide) (by decide) (by decide)]
    have e205 : ν.1 205 0 0 0 = μ.1 205 0 0 0 := l _ _ _ _ (by decide) (by decide) (by decide) (by decide)
    have fr : frM ν = frM μ := funext fun t => by unfold frM; rw [l _ _ _ _ (by decide) (by decide) (by decide) (by decide)]
    have to : toM ν = toM μ := funext fun t => by unfold toM; rw [l _ _ _ _ (by decide) (by decide) (by decide) (by decide)]
    have wl : ∀ S : List Nat, (∀ f ∈ S, f ≠ 204 ∧ ¬ (211 ≤ f ∧ f ≤ 215) ∧ f ≠ 208 ∧ f ≠ 273) → ∀ f a b i, f ∈ S → ν.1 f a b i = μ.1 f a b i := fun S hS f a b i q => by
      have := hS f q
      exact l f a b i this.1 this.2.1 this.2.2.1 this.2.2.2
    have sE : SmE μ ν := SmE.mk (wl LE (by decide))
    have eb : bkN ν = bkN μ := by
      unfold bkN
      rw [e1']
      exact cnt_cg _ (fun e _ => by rw [l _ _ _ _ (by decide) (by decide) (by decide) (by decide)])
    have lJ : ν.2 = μ.2 := by rw [hν]; rfl
    have ek : ∀ v u, kOf v ν u = kOf v μ u := fun v u => by
      unfold kOf
      rw [e205]
    have vv : ∀ v, v < 2 → VwI v TC σ μ → VwI v TC τ ν := fun v hv V => by
      have V1 : VwI v TC τ μ := V.mv (fun f b i z => lx f v b i (by omega)) (fun p _ => lx _ _ _ _ (by decide))
      refine V1.sm (by omega) (fun _ _ => rfl) (fun t _ => ⟨by rw [fr], by rw [to]⟩) (fun m p q1 q2 q3 q4 => ?_)
      by_cases z : p = n
      · exfalso
        rw [lx _ _ _ _ (by decide), lx _ _ _ _ (by decide), h.ch.s v p hv (by omega) q2] at q3
        obtain ⟨y, y1, y2⟩ := h.ch.c p q2
        rw [y1] at q3
        have hb : bkN μ ≤ cnM μ := cnt_le _ _
        have he := c.e.2
        have hr := c.r.2
        have hq := c.q.2
        have hy : y < 2 ^ 31 := by omega
        exact m1_ne' hy q3
      · refine q4.sm (by omega) (fun u _ => ⟨?_, ?_⟩) (fun e y1 y2 => ⟨by omega, by rw [← sE.pe]; exact y2, by rw [sE.dy]⟩)
        · rw [ek]
          exact ENM_c ⟨fr, to⟩ (st_c (wl LB (by decide)) p _) (li _ _ (by decide) z) (li _ _ (by decide) z) (li _ _ (by decide) z)
        · rw [ek]
          refine evM_o sE (fun e he h7 hpe => ?_) _
          have hp9 := h.ev.p e he
          unfold ofM ofW mi
          rw [sE.kd, sE.nu, l 325 _ _ _ (by decide) (by decide) (by decide) (by decide), l 326 _ _ _ (by decide) (by decide) (by decide) (by decide), l 327 _ _ _ (by decide) (by decide) (by decide) (by decide), li 213 p (by decide) z, li 211 p (by decide) z]
          simp only [l 209 _ _ _ (by decide) (by decide) (by decide) (by decide), l 210 _ _ _ (by decide) (by decide) (by decide) (by decide), l 318 _ _ _ (by decide) (by decide) (by decide) (by decide), l 319 _ _ _ (by decide) (by decide) (by decide) (by decide), l 320 _ _ _ (by decide) (by decide) (by decide) (by decide)]
    rw [← hτ, ← hν]
    refine ⟨eq', rg', h.tp.mv (fun i => lx _ _ _ _ (by decide)) (fun i => l _ _ _ _ (by decide) (by decide) (by decide) (by decide)), ⟨?_, ?_, fun t ht => ?_, fun t ht => ?_, fun t t' q1 q2 => ?_, fun k hk => ?_, ?_⟩, ⟨h.ev.e.up (fun f i q => l _ _ _ _ (by omega) (by omega) (by omega) (by omega)) (by omega), fun e he => ?_, fun c hc => ?_, fun o ho => ?_, fun p hp => ?_, fun v hv => ?_, fun o ho => ?_, fun r hr => ?_, fun o ho => ?_, ?_, fun r hr => ?_, fun o ho => ?_⟩, vv 0 (by decide) h.v0, vv 1 (by decide) h.v1, ⟨fun p hp => ?_, fun v p hv q1 q2 => ?_⟩, fun z => absurd (by rw [hν, sI_s]) z, ⟨?_, fun p hp => ?_, ?_, ?_, fun k hk => ?_⟩, h.ot.mv (fun f i q => lx _ _ _ _ (by omega)) (fun f i q => l _ _ _ _ (by omega) (by omega) (by omega) (by omega)) (fun i => by rw [lJ])⟩
    · rw [fr, to, eT]
      exact h.tx.x.mv (fun f a b i q1 q2 => lx f a b i (by omega))
    · rw [eT]
      exact h.tx.m.mv (fun f i q1 q2 => l _ _ _ _ (by omega) (by omega) (by omega) (by omega))
    · rw [lx _ _ _ _ (by decide), l _ _ _ _ (by decide) (by decide) (by decide) (by decide)]
      exact h.tx.o t (by omega)
    · rw [l _ _ _ _ (by decide) (by decide) (by decide) (by decide), e205]
      exact h.tx.l t (by omega)
    · rw [l _ _ _ _ (by decide) (by decide) (by decide) (by decide), l _ _ _ _ (by decide) (by decide) (by decide) (by decide)]
      exact h.tx.a t t' q1 (by omega)
    · rw [l _ _ _ _ (by decide) (by decide) (by decide) (by decide)]
      exact h.tx.d k hk
    · rw [l _ _ _ _ (by decide) (by decide) (by decide) (by decide)]
      exact h.tx.y
    · rw [sE.pe, en']
      have := h.ev.p e (by omega)
      omega
    · rw [l _ _ _ _ (by decide) (by decide) (by decide) (by decide), e1']
      exact h.ev.c c (by omega)
    · rw [l _ _ _ _ (by decide) (by decide) (by decide) (by decide), eV]
      exact h.ev.ov o (by omega)
    · rw [eF]
      by_cases z : p = n
      · rw [z, n13]
        obtain ⟨j, rfl, j2, j3⟩ := argN n5.2.2.2.2.1
        omega
      · rw [li _ _ (by decide) z]
        exact h.ev.po p (by omega)
    · rw [l _ _ _ _ (by decide) (by decide) (by decide) (by decide), eF]
      exact h.ev.vo v (by omega)
    · rw [l _ _ _ _ (by decide) (by decide) (by decide) (by decide), l _ _ _ _ (by decide) (by decide) (by decide) (by decide)]
      exact h.ev.so o ho
    · rw [l _ _ _ _ (by decide) (by decide) (by decide) (by decide), e205]
      exact h.ev.br r (by omega)
    · rw [l _ _ _ _ (by decide) (by decide) (by decide) (by decide)]
      exact h.ev.oc o (by omega)
    · rw [l _ _ _ _ (by decide) (by decide) (by decide) (by decide), e205]
      exact h.ev.lk
    · rw [l _ _ _ _ (by decide) (by decide) (by decide) (by decide), e205]
      exact h.ev.bt r (by omega)
    · rw [l _ _ _ _ (by decide) (by decide) (by decide) (by decide), en']
      have := h.ev.op o (by omega)
      omega
    · rw [lx _ _ _ _ (by decide), eR, eQ, e1', eb]
      exact h.ch.c p hp
    · rw [lx _ _ _ _ (by decide)]
      exact h.ch.s v p hv (by omega) q2
    · rw [eD, lx _ _ _ _ (by decide), l _ _ _ _ (by decide) (by decide) (by decide) (by decide), lJ]
      exact h.fd.w
    · rw [lx _ _ _ _ (by decide), lx _ _ _ _ (by decide), lJ]
      exact h.fd.r p hp
    · rw [lx _ _ _ _ (by decide), lx _ _ _ _ (by decide), lJ]
      exact h.fd.g
    · rw [lx _ _ _ _ (by decide), l _ _ _ _ (by decide) (by decide) (by decide) (by decide), lJ]
      exact h.fd.f
    · rw [lx _ _ _ _ (by decide), lJ]
      exact h.fd.l k hk
