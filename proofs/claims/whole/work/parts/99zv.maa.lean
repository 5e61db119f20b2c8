/-! a text is told: what holds stays -/
theorem TxX.mva {TC : Nat → List Cl} {fr to : Nat → Int32} {n : Nat} {σ σ' : St} (h : TxX TC fr to n σ) (hm : ∀ f a b i, 1 ≤ f → f ≤ 14 → a < n → σ'.1 f a b i = σ.1 f a b i) : TxX TC fr to n σ' := by
  intro t ht
  obtain ⟨⟨h1, h2, h3, h4, h5, h6, h7, h8, h9⟩, ⟨L, l1, l2, l3⟩, a1, a2, a3, a4, a5⟩ := h t ht
  have s : ∀ f b i, 1 ≤ f → f ≤ 14 → σ'.1 f t b i = σ.1 f t b i := fun f b i q1 q2 => hm f t b i q1 q2 ht
  refine ⟨⟨(s _ _ _ (by decide) (by decide)).trans h1, fun k hk => (s _ _ _ (by decide) (by decide)).trans (h2 k hk), (s _ _ _ (by decide) (by decide)).trans h3, (s _ _ _ (by decide) (by decide)).trans h4, (s _ _ _ (by decide) (by decide)).trans h5, (s _ _ _ (by decide) (by decide)).trans h6, fun i c hc => (s _ _ _ (by decide) (by decide)).trans (h7 i c hc), (s _ _ _ (by decide) (by decide)).trans h8, fun i c hc => ⟨(s _ _ _ (by decide) (by decide)).trans (h9 i c hc).1, (s _ _ _ (by decide) (by decide)).trans (h9 i c hc).2⟩⟩, ⟨L, l1, (s _ _ _ (by decide) (by decide)).trans l2, fun i c hc => ⟨(l3 i c hc).1, fun w => ⟨At_eq _ _ (fun j b1 b2 => s _ _ _ (by decide) (by decide)) ((l3 i c hc).2 w).1, ((l3 i c hc).2 w).2⟩⟩⟩, a1, (s _ _ _ (by decide) (by decide)).trans a2, (s _ _ _ (by decide) (by decide)).trans a3, a4, a5⟩
theorem ClM.mvi {t C C' i : Nat} {c : Cl} {μ μ' : St} (h : ClM t C i c μ) (hC : C ≤ C') (h1 : ∀ f, 239 ≤ f → f ≤ 244 → μ'.1 f 0 0 (24 * t + i) = μ.1 f 0 0 (24 * t + i)) (h2 : ∀ j, j < 1000 * t + C → μ'.1 245 0 0 j = μ.1 245 0 0 j) : ClM t C' i c μ' := by
  obtain ⟨a1, a2, a3, a4, a5⟩ := h
  refine ⟨(h1 _ (by decide) (by decide)).trans a1, fun q => (h1 _ (by decide) (by decide)).trans (a2 q), fun q => ⟨(h1 _ (by decide) (by decide)).trans (a3 q).1, (h1 _ (by decide) (by decide)).trans (a3 q).2⟩, fun q => (h1 _ (by decide) (by decide)).trans (a4 q), fun q => ?_⟩
  obtain ⟨e1, e2, e3, e4, e5, e6⟩ := a5 q
  exact ⟨(h1 _ (by decide) (by decide)).trans e1, (h1 _ (by decide) (by decide)).trans e2, (h1 _ (by decide) (by decide)).trans e3, At_eq _ _ (fun j b1 b2 => h2 j (by omega)) e4, At_eq _ _ (fun j b1 b2 => h2 j (by omega)) e5, by omega⟩
theorem TxM.mvi {TC : Nat → List Cl} {n : Nat} {μ μ' : St} (h : TxM TC n μ) (h0 : ∀ i, i < n → μ'.1 238 0 0 i = μ.1 238 0 0 i) (h1 : ∀ f i, 239 ≤ f → f ≤ 244 → i < 24 * n → μ'.1 f 0 0 i = μ.1 f 0 0 i) (h2 : ∀ j, j < 1000 * n → μ'.1 245 0 0 j = μ.1 245 0 0 j) : TxM TC n μ' := by
  intro t ht
  obtain ⟨a1, a2, a3⟩ := h t ht
  refine ⟨(h0 t ht).trans a1, a2, fun i c hc => ⟨(a3 i c hc).1, ?_⟩⟩
  have hi : i < 24 := by
    have := (List.getElem?_eq_some_iff.mp hc).1
    omega
  exact (a3 i c hc).2.mvi (Nat.le_refl _) (fun f q1 q2 => h1 f _ q1 q2 (by omega)) (fun j hj => h2 j (by omega))
theorem Eq1.rd {σ μ τ ν : St} (h : Eq1 σ μ) (hx : ∀ f i, 16 ≤ f → f ≠ 111 → ¬ (112 ≤ f ∧ f ≤ 121) → f ≠ 159 → f ≠ 160 → τ.1 f 0 0 i = σ.1 f 0 0 i) (hm : ∀ f i, f ≠ 204 → f ≠ 219 → ¬ (235 ≤ f ∧ f ≤ 245) → ¬ (247 ≤ f ∧ f ≤ 259) → f ≠ 273 → ν.1 f 0 0 i = μ.1 f 0 0 i) (h1 : ∀ i, τ.1 111 0 0 i = ν.1 247 0 0 i) (h3 : ∀ i, τ.1 159 0 0 i = ν.1 219 0 0 i) : Eq1 τ ν := by
  intro q hq i
  have w : eqF.all (fun q => decide (q = (111, 247) ∨ q = (159, 219) ∨ (16 ≤ q.1 ∧ q.1 ≠ 111 ∧ ¬ (112 ≤ q.1 ∧ q.1 ≤ 121) ∧ q.1 ≠ 159 ∧ q.1 ≠ 160 ∧ q.2 ≠ 204 ∧ q.2 ≠ 219 ∧ ¬ (235 ≤ q.2 ∧ q.2 ≤ 245) ∧ ¬ (247 ≤ q.2 ∧ q.2 ≤ 259) ∧ q.2 ≠ 273))) = true := by decide
  rcases of_decide_eq_true (List.all_eq_true.mp w q hq) with rfl | rfl | ⟨a1, a2, a3, a4, a5, a6, a7, a8, a9, a10⟩
  · exact h1 i
  · exact h3 i
  · rw [hx q.1 i a1 a2 a3 a4 a5, hm q.2 i a6 a7 a8 a9 a10]
    exact h q hq i
theorem Rng.rd {μ ν : St} (h : Rng μ) (hm : ∀ f i, f ≠ 204 → f ≠ 219 → ¬ (235 ≤ f ∧ f ≤ 245) → ¬ (247 ≤ f ∧ f ≤ 259) → f ≠ 273 → ν.1 f 0 0 i = μ.1 f 0 0 i) (h1 : ∀ i, 0 ≤ (ν.1 247 0 0 i).toInt ∧ (ν.1 247 0 0 i).toInt ≤ 600) (h2 : ∀ i, 0 ≤ (ν.1 219 0 0 i).toInt ∧ (ν.1 219 0 0 i).toInt ≤ 16) (h3 : ∀ f i, 235 ≤ f ∧ f ≤ 237 → 0 ≤ (ν.1 f 0 0 i).toInt ∧ (ν.1 f 0 0 i).toInt ≤ 935) : Rng ν := by
  intro q hq i
  have w : rngF.all (fun q => decide (q = (247, 0, 600) ∨ q = (219, 0, 16) ∨ (235 ≤ q.1 ∧ q.1 ≤ 237 ∧ q.2 = (0, 935)) ∨ (q.1 ≠ 204 ∧ q.1 ≠ 219 ∧ ¬ (235 ≤ q.1 ∧ q.1 ≤ 245) ∧ ¬ (247 ≤ q.1 ∧ q.1 ≤ 259) ∧ q.1 ≠ 273))) = true := by decide
  rcases of_decide_eq_true (List.all_eq_true.mp w q hq) with rfl | rfl | ⟨a1, a2, a3⟩ | ⟨a1, a2, a3, a4, a5⟩
  · exact h1 i
  · exact h2 i
  · rw [a3]
    exact h3 q.1 i ⟨a1, a2⟩
  · rw [hm q.1 i a1 a2 a3 a4 a5]
    exact h q hq i
/-- frames of a text call in the reference -/
abbrev txm (f : Nat) : Prop := f ≠ 204 ∧ f ≠ 219 ∧ ¬ (235 ≤ f ∧ f ≤ 245) ∧ ¬ (247 ≤ f ∧ f ≤ 259) ∧ f ≠ 273
abbrev txx (f : Nat) : Prop := 16 ≤ f ∧ f ≠ 111 ∧ ¬ (112 ≤ f ∧ f ≤ 121) ∧ f ≠ 159 ∧ f ≠ 160
theorem InvB.tx2 {TC TC' : Nat → List Cl} {tp : Nat → Nat} {σ μ τ ν : St} (h : InvB TC tp σ μ) (eq' : Eq1 τ ν) (rg' : Rng ν) (tx' : TxI TC' τ ν) (hT : nT μ ≤ nT ν) (hTC : ∀ t, t < nT μ → TC' t = TC t) (hfr : ∀ t, t < nT μ → frM ν t = frM μ t ∧ toM ν t = toM μ t) (hx : ∀ f a b i, txx f → τ.1 f a b i = σ.1 f a b i) (hm : ∀ f a b i, txm f → ν.1 f a b i = μ.1 f a b i) (lJ : ν.2 = μ.2) (rn' : RunI (nP ν) TC' ν) (hp : τ.1 112 0 0 0 = ν.1 257 0 0 0) : InvB TC' tp τ ν := by
  have c := h.rg.cns
  have eP : nP ν = nP μ := by unfold nP; rw [hm _ _ _ _ (by decide)]
  have eR : rwN ν = rwN μ := by unfold rwN; rw [hm _ _ _ _ (by decide)]
  have eQ : rtN ν = rtN μ := by unfold rtN; rw [hm _ _ _ _ (by decide)]
  have eD : tdN ν = tdN μ := by unfold tdN; rw [hm _ _ _ _ (by decide)]
  have wl : ∀ S : List Nat, (∀ f ∈ S, txm f) → ∀ f a b i, f ∈ S → ν.1 f a b i = μ.1 f a b i := fun S hS f a b i q => hm f a b i (hS f q)
  have sE : SmE μ ν := SmE.mk (wl LE (by decide))
  have eb : bkN ν = bkN μ := by
    unfold bkN
    rw [sE.cn]
    exact cnt_cg _ (fun e _ => by rw [hm _ _ _ _ (by decide)])
  have e205 : ν.1 205 0 0 0 = μ.1 205 0 0 0 := hm _ _ _ _ (by decide)
  have ek : ∀ v u, kOf v ν u = kOf v μ u := fun v u => by
    unfold kOf
    rw [e205]
  have vv : ∀ v, VwI v TC σ μ → VwI v TC' τ ν := fun v V => by
    have V1 : VwI v TC τ μ := V.mv (fun f b i z => hx f v b i (by
      rcases z with z | z | z
      · exact ⟨by omega, by omega, by omega, by omega, by omega⟩
      · rw [z]; decide
      · rw [z]; decide)) (fun p _ => hx _ _ _ _ (by decide))
    refine V1.sm hT (fun n hn => TCn_id hTC hn) hfr (fun m p q1 q2 q3 q4 => q4.sm (by omega) (fun u _ => ⟨?_, ?_⟩) (fun e y1 y2 => ⟨by rw [← sE.cn]; exact y1, by rw [← sE.pe]; exact y2, by rw [sE.dy]⟩))
    · rw [ek]
      unfold ENM
      rw [TCn_id hTC q1, st_c (wl LB (by decide)) p _, hm _ _ _ _ (by decide), hm _ _ _ _ (by decide), hm _ _ _ _ (by decide)]
      refine Prod.ext (funext fun d => ?_) rfl
      exact shOf_cg (fun t ht => hfr t (by omega))
    · rw [ek]
      exact evM_c (wl LO (by decide)) p _
  refine ⟨eq', rg', h.tp.mv (fun i => hx _ _ _ _ (by decide)) (fun i => hm _ _ _ _ (by decide)), tx', h.ev.mv (fun f i q => hm _ _ _ _ (by unfold txm; omega)), vv 0 h.v0, vv 1 h.v1, ⟨fun p hp => ?_, fun v p hv q1 q2 => ?_⟩, rn', ⟨?_, fun p hp => ?_, ?_, ?_, fun k hk => ?_⟩, h.ot.mvp (fun f i q => hx _ _ _ _ (by unfold txx; omega)) (fun f i q => hm _ _ _ _ (by unfold txm; omega)) (fun i => by rw [lJ]) hp⟩
  · rw [hx _ _ _ _ (by decide), eR, eQ, sE.cn, eb]
    exact h.ch.c p hp
  · rw [hx _ _ _ _ (by decide)]
    exact h.ch.s v p hv (by omega) q2
  · rw [eD, hx _ _ _ _ (by decide), hm _ _ _ _ (by decide), lJ]
    exact h.fd.w
  · rw [hx _ _ _ _ (by decide), hx _ _ _ _ (by decide), lJ]
    exact h.fd.r p hp
  · rw [hx _ _ _ _ (by decide), hx _ _ _ _ (by decide), lJ]
    exact h.fd.g
  · rw [hx _ _ _ _ (by decide), hm _ _ _ _ (by decide), lJ]
    exact h.fd.f
  · rw [hx _ _ _ _ (by decide), lJ]
    exact h.fd.l k hk
