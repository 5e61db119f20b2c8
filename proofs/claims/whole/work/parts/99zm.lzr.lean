/-! vacancies, appeals -/
theorem step_vacancy {N : Nat} {σ μ : St} (h : Inv σ μ) (a1 a2 a3 a4 : Int32) : StI (fX_vacancy N a1 a2 a3 a4 σ) (fM_vacancy N a1 a2 a3 a4 μ) := by
  obtain ⟨TC, tp, h⟩ := h
  have c := h.rg.cns
  have hd := c.d
  rcases e_vacancy (N := N) h.eq h.rg a1 a2 a3 a4 with ⟨e1, e2⟩ | ⟨n, o, n8, n1, n2, n3, n4, e1, e2⟩
  · rw [e1, e2]
    exact ⟨-1, σ, _, rfl, rfl, TC, tp, h.code⟩
  · rw [e1, e2]
    refine ⟨nI n, _, _, rfl, rfl, TC, tp, ?_⟩
    have en : vcN μ = n := by unfold vcN; rw [n1, nI_clamp (by omega)]
    have eo : ocN μ = o := by unfold ocN; rw [n2, nI_clamp (by omega)]
    obtain ⟨ν, hν⟩ : ∃ ν, ν = sI (sI (sI (sI (sI (sI (sI μ 204 0 0 0 0) 318 0 0 n a1) 319 0 0 n a2) 320 0 0 n a3) 321 0 0 n a4) 322 0 0 n (μ.1 205 0 0 0)) 316 0 0 0 (nI (n + 1)) := ⟨_, rfl⟩
    have l : ∀ f a b i, f ≠ 204 → ¬ (316 ≤ f ∧ f ≤ 322 ∧ f ≠ 317) → ν.1 f a b i = μ.1 f a b i := fun f a b i q1 q2 => by rw [hν, sI_o (by omega), sI_o (by omega), sI_o (by omega), sI_o (by omega), sI_o (by omega), sI_o (by omega), sI_o q1]
    have l2 : ∀ f i, 318 ≤ f ∧ f ≤ 322 → i ≠ n → ν.1 f 0 0 i = μ.1 f 0 0 i := fun f i q1 q2 => by
      rw [hν]
      rcases (show f = 318 ∨ f = 319 ∨ f = 320 ∨ f = 321 ∨ f = 322 by omega) with rfl | rfl | rfl | rfl | rfl
      · rw [sI_o (by decide), sI_o (by decide), sI_o (by decide), sI_o (by decide), sI_o (by decide), sI_i q2, sI_o (by decide)]
      · rw [sI_o (by decide), sI_o (by decide), sI_o (by decide), sI_o (by decide), sI_i q2, sI_o (by decide), sI_o (by decide)]
      · rw [sI_o (by decide), sI_o (by decide), sI_o (by decide), sI_i q2, sI_o (by decide), sI_o (by decide), sI_o (by decide)]
      · rw [sI_o (by decide), sI_o (by decide), sI_i q2, sI_o (by decide), sI_o (by decide), sI_o (by decide), sI_o (by decide)]
      · rw [sI_o (by decide), sI_i q2, sI_o (by decide), sI_o (by decide), sI_o (by decide), sI_o (by decide), sI_o (by decide)]
    have ln : ν.1 318 0 0 n = a1 := by rw [hν, sI_o (by decide), sI_o (by decide), sI_o (by decide), sI_o (by decide), sI_o (by decide), sI_s]
    have en' : vcN ν = n + 1 := by
      unfold vcN
      rw [hν, sI_s, nI_clamp (by omega)]
    have eo' : ofN ν = ofN μ := by unfold ofN; rw [l _ _ _ _ (by decide) (by decide)]
    have eoc : ocN ν = ocN μ := by unfold ocN; rw [l _ _ _ _ (by decide) (by decide)]
    have ec : csN ν = csN μ := by unfold csN; rw [l _ _ _ _ (by decide) (by decide)]
    have eq' := ((((((h.eq.r (g := 204) (a := 0) (b := 0) (i := 0) (x := 0) (by decide)).w (f := 96) (g := 318) (i := n) (x := a1) (by decide)).w (f := 97) (g := 319) (i := n) (x := a2) (by decide)).w (f := 98) (g := 320) (i := n) (x := a3) (by decide)).w (f := 99) (g := 321) (i := n) (x := a4) (by decide)).w (f := 100) (g := 322) (i := n) (x := μ.1 205 0 0 0) (by decide)).w (f := 102) (g := 316) (i := 0) (x := nI (n + 1)) (by decide)
    have ht : (μ.1 205 0 0 0).toInt = (tdN μ : Int) := by rw [hd.1, nI_toInt (by omega)]
    have rg' := ((((((h.rg.o (g := 204) (a := 0) (b := 0) (i := 0) (x := 0) (by decide)).w (g := 318) (i := n) (x := a1) (lo := 0) (hi := 7) (by decide) (by omega) (by omega)).w (g := 319) (i := n) (x := a2) (lo := 0) (hi := 7) (by decide) (by omega) (by omega)).w (g := 320) (i := n) (x := a3) (lo := 0) (hi := 999) (by decide) (by omega) (by omega)).w (g := 321) (i := n) (x := a4) (lo := 0) (hi := 999) (by decide) (by omega) (by omega)).w (g := 322) (i := n) (x := μ.1 205 0 0 0) (lo := 0) (hi := 935) (by decide) (by omega) (by omega)).w (g := 316) (i := 0) (x := nI (n + 1)) (lo := 0) (hi := 24) (by decide) (by rw [nI_toInt (by omega)]; omega) (by rw [nI_toInt (by omega)]; omega)
    rw [← hν] at eq' rg' ⊢
    refine h.up eq' rg' (h.tp.mv (fun i => by rw [sI_o (by decide), sI_o (by decide), sI_o (by decide), sI_o (by decide), sI_o (by decide), sI_o (by decide)]) (fun i => l _ _ _ _ (by decide) (by decide))) ?_ (h.ot.mv (fun f i q => by rw [sI_o (by omega), sI_o (by omega), sI_o (by omega), sI_o (by omega), sI_o (by omega), sI_o (by omega)]) (fun f i q => l _ _ _ _ (by omega) (by omega)) (fun _ => by rw [hν]; rfl)) (fun f a b i q => by rw [sI_o (by omega), sI_o (by omega), sI_o (by omega), sI_o (by omega), sI_o (by omega), sI_o (by omega)]) (fun f a b i q => l _ _ _ _ (by omega) (by omega)) (fun _ _ _ _ _ => by rw [hν]; rfl) ?_
    · refine h.ev.up (fun f i q => l _ _ _ _ (by omega) (by omega)) (by omega) (fun c hc => ?_) (fun o ho => ?_) (fun p hp => ?_) (fun v hv => ?_) (fun o ho => ?_) (fun o ho => ?_) ?_ (fun o ho => ?_)
      · rw [l _ _ _ _ (by decide) (by decide)]
        exact h.ev.c c (by omega)
      · rw [l _ _ _ _ (by decide) (by decide)]
        have := h.ev.ov o (by omega)
        omega
      · rw [l _ _ _ _ (by decide) (by decide), eoc]
        exact h.ev.po p hp
      · rw [eoc]
        by_cases z : v = n
        · rw [z, ln]
          obtain ⟨j, rfl, j2, j3⟩ := argN n4.1
          omega
        · rw [l2 _ _ (by decide) z]
          exact h.ev.vo v (by omega)
      · rw [l _ _ _ _ (by decide) (by decide), l _ _ _ _ (by decide) (by decide)]
        exact h.ev.so o ho
      · rw [l _ _ _ _ (by decide) (by decide)]
        exact h.ev.oc o (by omega)
      · rw [l _ _ _ _ (by decide) (by decide), l _ _ _ _ (by decide) (by decide)]
        exact h.ev.lk
      · rw [l _ _ _ _ (by decide) (by decide)]
        exact h.ev.op o (by omega)
    · intro p k hp
      refine evM_k h.ev.e h.rg (SmE.mk (fun f a b i q => ?_)) (fun o ho => ⟨l _ _ _ _ (by decide) (by decide), l _ _ _ _ (by decide) (by decide), l _ _ _ _ (by decide) (by decide), fun p hp => ?_⟩) (fun e he hpe => by rw [← hpe]; exact h.ev.p e he) k
      · have : f ≠ 204 ∧ ¬ (316 ≤ f ∧ f ≤ 322 ∧ f ≠ 317) := by
          have w : ∀ f ∈ LE, f ≠ 204 ∧ ¬ (316 ≤ f ∧ f ≤ 322 ∧ f ≠ 317) := by decide
          exact w f q
        exact l f a b i this.1 this.2
      · have h2 := h.ev.ov o ho
        unfold oV
        rw [l 213 0 0 p (by decide) (by decide), l2 318 _ (by decide) (by omega), l2 320 _ (by decide) (by omega), l2 319 _ (by decide) (by omega), l 211 0 0 p (by decide) (by decide), mi_at (fun f i q1 _ => l f 0 0 i (by omega) (by omega))]
theorem step_appeal {N : Nat} {σ μ : St} (hN : 4000 ≤ N) (h : Inv σ μ) (a1 : Int32) : StQ (fX_appeal N a1 σ) (fM_appeal N a1 μ) := by
  obtain ⟨TC, tp, h⟩ := h
  have c := h.rg.cns
  have hd := c.d
  have hC := c.c
  rcases e_appeal (N := N) (by omega) h.eq h.rg a1 with ⟨e1, e2⟩ | ⟨k, r0, r1, σ', k1, k2, k3, e1, e2⟩ | ⟨k, n, j, J, j0, j1, j2, n1, n2, n3, n4, n5, n6, n7, n8, n9, n10, n11, e1, e2⟩
  · rw [e1, e2]
    exact StQ.fail ⟨TC, tp, h.code⟩
  · rw [e1, e2]
    have ek : csN μ = k := by unfold csN; rw [k2, nI_clamp (by omega)]
    have lx : (∀ f a b i, f ≠ 33 → σ'.1 f a b i = σ.1 f a b i) ∧ ∀ i, i < 3 * k → σ'.1 33 0 0 i = σ.1 33 0 0 i := by
      rcases k3 with rfl | rfl | rfl
      · exact ⟨fun _ _ _ _ _ => rfl, fun _ _ => rfl⟩
      · exact ⟨fun f a b i q => sI_o q, fun i hi => sI_i (by omega)⟩
      · exact ⟨fun f a b i q => by rw [sI_o q, sI_o q], fun i hi => by rw [sI_i (by omega), sI_i (by omega)]⟩
    have eqx : Eq1 σ' μ := by
      rcases k3 with rfl | rfl | rfl
      · exact h.eq
      · exact h.eq.l (by decide)
      · exact (h.eq.l (by decide)).l (by decide)
    refine StQ.ok ⟨TC, tp, h.code.fr (eqx.r (by decide)) (h.rg.o (by decide)) (h.tp.mv (fun i => lx.1 _ _ _ _ (by decide)) (fun i => sI_o (by decide))) (h.ev.mv (fun f i q => sI_o (by omega))) ⟨fun p hp => ?_, fun i hi => ?_, fun t ht => ?_, by rw [lx.1 _ _ _ _ (by decide), sI_o (by decide)]; exact h.ot.p⟩ (fun f a b i q => lx.1 _ _ _ _ (by omega)) (fun f a b i q => rfl) (fun _ _ _ _ _ => rfl)⟩ (sI_s _ _ _ _ _ _) rfl
    · rw [lx.1 _ _ _ _ (by decide), sI_o (by decide), sI_o (by decide)]
      exact h.ot.s p hp
    · have hi' : i < 3 * k := by
        have : csN (sI μ 204 0 0 0 0) = csN μ := by unfold csN; rw [sI_o (by decide)]
        omega
      rw [lx.2 i hi', sI_o (by decide)]
      exact h.ot.b i (by omega)
    · rw [lx.1 _ _ _ _ (by decide), lx.1 _ _ _ _ (by decide), lx.1 _ _ _ _ (by decide), sI_o (by decide), sI_o (by decide)]
      exact h.ot.t t ht
  · rw [e1, e2]
    have ek : csN μ = k := by unfold csN; rw [n2, nI_clamp (by omega)]
    have en : cnM μ = n := by unfold cnM; rw [n4, nI_clamp (by omega)]
    have ht : (μ.1 205 0 0 0).toInt = (tdN μ : Int) := by rw [hd.1, nI_toInt (by omega)]
    unfold xCase mCase xBench
    obtain ⟨τ, hτ⟩ : ∃ τ, τ = sI (sI (sI (sI (sI (sI (sI (sI (sI (sI σ 33 0 0 (3 * k) (nI j0)) 33 0 0 (3 * k + 1) (nI j1)) 33 0 0 (3 * k + 2) (nI j2)) 30 0 0 0 (nI j0)) 30 0 0 1 (nI j1)) 30 0 0 2 (nI j2)) 31 0 0 k (nI j)) 32 0 0 k (μ.1 205 0 0 0)) 34 0 0 k (-1)) 36 0 0 0 (nI (k + 1)) := ⟨_, rfl⟩
    obtain ⟨ν, hν⟩ : ∃ ν, ν = sI (sI (sI (sI (sI (sI (sI (sI (sI (sI (sI μ 204 0 0 0 0) 341 0 0 0 (nI j0)) 341 0 0 1 (nI j1)) 341 0 0 2 (nI j2)) 344 0 0 (3 * k) (nI j0)) 344 0 0 (3 * k + 1) (nI j1)) 344 0 0 (3 * k + 2) (nI j2)) 342 0 0 k (nI j)) 343 0 0 k (μ.1 205 0 0 0)) 345 0 0 k (-1)) 338 0 0 0 (nI (k + 1)) := ⟨_, rfl⟩
    have lx : ∀ f a b i, ¬ (30 ≤ f ∧ f ≤ 34) → f ≠ 36 → τ.1 f a b i = σ.1 f a b i := fun f a b i q1 q2 => by rw [hτ, sI_o (by omega), sI_o (by omega), sI_o (by omega), sI_o (by omega), sI_o (by omega), sI_o (by omega), sI_o (by omega), sI_o (by omega), sI_o (by omega), sI_o (by omega)]
    have l : ∀ f a b i, f ≠ 204 → f ≠ 338 → ¬ (341 ≤ f ∧ f ≤ 345) → ν.1 f a b i = μ.1 f a b i := fun f a b i q1 q2 q3 => by rw [hν, sI_o (by omega), sI_o (by omega), sI_o (by omega), sI_o (by omega), sI_o (by omega), sI_o (by omega), sI_o (by omega), sI_o (by omega), sI_o (by omega), sI_o (by omega), sI_o q1]
    have eq' : Eq1 τ ν := by
      rw [hτ, hν]
      exact ((((((((((((((h.eq.l (by decide)).l (by decide)).l (by decide)).r (by decide)).w (by decide)).w (by decide)).w (by decide)).r (by decide)).r (by decide)).r (by decide)).w (by decide)).w (by decide)).w (by decide)).w (by decide))
    have jb : ∀ x : Nat, x < J → -1 ≤ (nI x).toInt ∧ (nI x).toInt ≤ 17 := fun x hx => by
      rw [nI_toInt (by omega)]
      omega
    have rg' : Rng ν := by
      rw [hν]
      exact (((((((((((h.rg.o (by decide)).w (lo := -1) (hi := 17) (by decide) (jb j0 n9).1 (jb j0 n9).2).w (lo := -1) (hi := 17) (by decide) (jb j1 n10).1 (jb j1 n10).2).w (lo := -1) (hi := 17) (by decide) (jb j2 n11).1 (jb j2 n11).2).o (by decide)).o (by decide)).o (by decide)).w (lo := 0) (hi := 159) (by decide) (by rw [nI_toInt (by omega)]; omega) (by rw [nI_toInt (by omega)]; omega)).w (lo := 0) (hi := 935) (by decide) (by omega) (by omega)).w (lo := -1) (hi := 935) (by decide) (by decide) (by decide)).w (lo := 0) (hi := 30) (by decide) (by rw [nI_toInt (by omega)]; omega) (by rw [nI_toInt (by omega)]; omega))
    rw [← hτ, ← hν]
    have ec : csN ν = k + 1 := by
      unfold csN
      rw [hν, sI_s, nI_clamp (by omega)]
    have eo : ofN ν = ofN μ := by unfold ofN; rw [l _ _ _ _ (by decide) (by decide) (by decide)]
    have ev : vcN ν = vcN μ := by unfold vcN; rw [l _ _ _ _ (by decide) (by decide) (by decide)]
    have eoc : ocN ν = ocN μ := by unfold ocN; rw [l _ _ _ _ (by decide) (by decide) (by decide)]
    refine StQ.ok ⟨TC, tp, h.fr eq' rg' (h.tp.mv (fun i => lx _ _ _ _ (by decide) (by decide)) (fun i => l _ _ _ _ (by decide) (by decide) (by decide))) ?_ ⟨fun p hp => ?_, fun i hi => ?_, fun t ht => ?_, by rw [lx _ _ _ _ (by decide) (by decide), l _ _ _ _ (by decide) (by decide) (by decide)]; exact h.ot.p⟩ (fun f a b i q => lx _ _ _ _ (by omega) (by omega)) (fun f a b i q => l _ _ _ _ (by omega) (by omega) (by omega)) (fun _ _ _ _ _ => by rw [hν]; rfl)⟩ ?_ rfl
    · refine h.ev.up (fun f i q => l _ _ _ _ (by omega) (by omega) (by omega)) (by omega) (fun c hc => ?_) (fun o ho => ?_) (fun p hp => ?_) (fun v hv => ?_) (fun o ho => ?_) (fun o ho => ?_) ?_ (fun o ho => ?_)
      · by_cases z : c = k
        · rw [z, hν, sI_o (by decide), sI_o (by decide), sI_o (by decide), sI_s, nI_clamp (by omega)]
          omega
        · have : ν.1 342 0 0 c = μ.1 342 0 0 c := by
            rw [hν, sI_o (by decide), sI_o (by decide), sI_o (by decide), sI_i z, sI_o (by decide), sI_o (by decide), sI_o (by decide), sI_o (by decide), sI_o (by decide), sI_o (by decide), sI_o (by decide)]
          rw [this]
          exact h.ev.c c (by omega)
      · rw [l _ _ _ _ (by decide) (by decide) (by decide), ev]
        exact h.ev.ov o (by omega)
      · rw [l _ _ _ _ (by decide) (by decide) (by decide), eoc]
        exact h.ev.po p hp
      · rw [l _ _ _ _ (by decide) (by decide) (by decide), eoc]
        exact h.ev.vo v (by omega)
      · rw [l _ _ _ _ (by decide) (by decide) (by decide), l _ _ _ _ (by decide) (by decide) (by decide)]
        exact h.ev.so o ho
      · rw [l _ _ _ _ (by decide) (by decide) (by decide)]
        exact h.ev.oc o (by omega)
      · rw [l _ _ _ _ (by decide) (by decide) (by decide), l _ _ _ _ (by decide) (by decide) (by decide)]
        exact h.ev.lk
      · rw [l _ _ _ _ (by decide) (by decide) (by decide)]
        exact h.ev.op o (by omega)
    · rw [lx _ _ _ _ (by decide) (by decide), l _ _ _ _ (by decide) (by decide) (by decide), l _ _ _ _ (by decide) (by decide) (by decide)]
      exact h.ot.s p hp
    · have xb : τ.1 33 0 0 i = if i = 3 * k + 2 then nI j2 else if i = 3 * k + 1 then nI j1 else if i = 3 * k then nI j0 else σ.1 33 0 0 i := by
        rw [hτ, sI_o (by decide), sI_o (by decide), sI_o (by decide), sI_o (by decide), sI_o (by decide), sI_o (by decide), sI_o (by decide)]
        simp only [sI_1, true_and]
      have mb : ν.1 344 0 0 i = if i = 3 * k + 2 then nI j2 else if i = 3 * k + 1 then nI j1 else if i = 3 * k then nI j0 else μ.1 344 0 0 i := by
        rw [hν, sI_o (by decide), sI_o (by decide), sI_o (by decide), sI_o (by decide)]
        rw [sI_1, sI_1, sI_1, sI_o (by decide), sI_o (by decide), sI_o (by decide), sI_o (by decide)]
        simp only [true_and]
      rw [xb, mb]
      by_cases z2 : i = 3 * k + 2
      · rw [if_pos z2, if_pos z2]
      · rw [if_neg z2, if_neg z2]
        by_cases z1 : i = 3 * k + 1
        · rw [if_pos z1, if_pos z1]
        · rw [if_neg z1, if_neg z1]
          by_cases z0 : i = 3 * k
          · rw [if_pos z0, if_pos z0]
          · rw [if_neg z0, if_neg z0]
            exact h.ot.b i (by omega)
    · rw [lx _ _ _ _ (by decide) (by decide), lx _ _ _ _ (by decide) (by decide), lx _ _ _ _ (by decide) (by decide), l _ _ _ _ (by decide) (by decide) (by decide), l _ _ _ _ (by decide) (by decide) (by decide), show ν.2 348 0 0 t = μ.2 348 0 0 t from by rw [hν]; rfl]
      exact h.ot.t t ht
    · rw [hν, sI_o (by decide), sI_o (by decide), sI_o (by decide), sI_o (by decide), sI_o (by decide), sI_o (by decide), sI_o (by decide), sI_o (by decide), sI_o (by decide), sI_o (by decide), sI_s]
