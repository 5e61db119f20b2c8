/-! a call that changes none of what lives rest on -/
theorem EvI.up {μ μ' : St} (h : EvI μ) (hf : ∀ f i, f = 205 ∨ f = 218 ∨ (229 ≤ f ∧ f ≤ 234) → μ'.1 f 0 0 i = μ.1 f 0 0 i) (ho : ofN μ ≤ ofN μ') : EvI μ' := by
  have e1 : cnM μ' = cnM μ := by unfold cnM; rw [hf _ _ (by decide)]
  have e2 : peM μ' = peM μ := funext fun e => by unfold peM; rw [hf _ _ (by decide)]
  have e3 : kdM μ' = kdM μ := funext fun e => by unfold kdM; rw [hf _ _ (by decide)]
  have e4 : nuM μ' = nuM μ := funext fun e => by unfold nuM; rw [hf _ _ (by decide)]
  have e5 : dyM μ' = dyM μ := funext fun e => by unfold dyM; rw [hf _ _ (by decide)]
  intro e he
  rw [e1] at he
  obtain ⟨h1, h2, h3, h4, h5⟩ := h e he
  rw [e2, e3, e4, e5, hf _ _ (by decide), hf _ _ (by decide), hf _ _ (by decide)]
  exact ⟨h1, h2, h3, h4, fun q => by
    obtain ⟨o, o1, o2⟩ := h5 q
    exact ⟨o, o1, Nat.lt_of_lt_of_le o2 ho⟩⟩
abbrev kpM (f : Nat) : Prop := f = 203 ∨ f = 205 ∨ f = 208 ∨ (211 ≤ f ∧ f ≤ 245) ∨ f = 260 ∨ f = 261 ∨ f = 266 ∨ (273 ≤ f ∧ f ≤ 315)
abbrev kpX (f : Nat) : Prop := (1 ≤ f ∧ f ≤ 15) ∨ (53 ≤ f ∧ f ≤ 60) ∨ (62 ≤ f ∧ f ≤ 94) ∨ f = 142 ∨ f = 144
theorem kp_sa {μ μ' : St} (hm : ∀ f a b i, kpM f → μ'.1 f a b i = μ.1 f a b i) (hv : ∀ p k, p < 20 → evM μ' p k = evM μ p k) : SmA μ μ' ∧ ∀ P k, P ≤ 20 → SmR P k μ μ' := by
  have w : ∀ (S : List Nat), (∀ f ∈ S, kpM f) → ∀ f a b i, f ∈ S → μ'.1 f a b i = μ.1 f a b i := fun S hS f a b i q => hm f a b i (hS f q)
  have wE := SmE.mk (w LE (by decide))
  have wT : frM μ' = frM μ ∧ toM μ' = toM μ := ⟨by rw [← cT_fr μ', cut_eq (w LT (by decide)), cT_fr], by rw [← cT_to μ', cut_eq (w LT (by decide)), cT_to]⟩
  refine ⟨⟨wE, hv, fun TC p n k _ => ENM_c wT (st_c (w LB (by decide)) p k) (hm _ _ _ _ (by decide)) (hm _ _ _ _ (by decide)) (hm _ _ _ _ (by decide))⟩, fun P k hP => ⟨wE, fun p hp => hv p k (by omega), w LB (by decide), w LT (by decide), fun p _ => ⟨hm _ _ _ _ (by decide), hm _ _ _ _ (by decide), hm _ _ _ _ (by decide)⟩⟩⟩
theorem InvB.up {TC : Nat → List Cl} {tp tp' : Nat → Nat} {σ σ' μ μ' : St} (h : InvB TC tp σ μ) (eq' : Eq1 σ' μ') (rg' : Rng μ') (tp2 : TP tp' σ' μ') (ev' : EvJ μ') (ot' : OtI σ' μ') (hx : ∀ f a b i, kpX f → σ'.1 f a b i = σ.1 f a b i) (hm : ∀ f a b i, kpM f → μ'.1 f a b i = μ.1 f a b i) (hj : ∀ f a b i, f ≠ 267 → μ'.2 f a b i = μ.2 f a b i) (hv : ∀ p k, p < 20 → evM μ' p k = evM μ p k) : InvB TC tp' σ' μ' := by
  obtain ⟨sa, sr⟩ := kp_sa hm hv
  have eT : nT μ' = nT μ := by unfold nT; rw [hm _ _ _ _ (by decide)]
  have eP : nP μ' = nP μ := by unfold nP; rw [hm _ _ _ _ (by decide)]
  have ed : tdN μ' = tdN μ := by unfold tdN; rw [hm _ _ _ _ (by decide)]
  have er : rwN μ' = rwN μ := by unfold rwN; rw [hm _ _ _ _ (by decide)]
  have eq : rtN μ' = rtN μ := by unfold rtN; rw [hm _ _ _ _ (by decide)]
  have fr : frM μ' = frM μ := funext fun t => by unfold frM; rw [hm _ _ _ _ (by decide)]
  have to : toM μ' = toM μ := funext fun t => by unfold toM; rw [hm _ _ _ _ (by decide)]
  have eb : bkN μ' = bkN μ := by
    unfold bkN
    rw [sa.e.cn]
    exact cnt_cg _ (fun e _ => by rw [hm _ _ _ _ (by decide)])
  have vv : ∀ v, VwI v TC σ μ → VwI v TC σ' μ' := fun v q => VwI.sa (q.mv (fun f b i z => hx f v b i (by omega)) (fun p _ => hx _ _ _ _ (by decide))) sa ed (by omega) (fun _ _ => rfl) (fun t _ => ⟨by rw [fr], by rw [to]⟩)
  refine ⟨eq', rg', tp2, ⟨?_, ?_, fun t ht => ?_, fun t ht => ?_, fun t t' q1 q2 => ?_, fun k hk => ?_, ?_⟩, ev', vv 0 h.v0, vv 1 h.v1, ⟨fun p hp => ?_, fun v p hv q1 q2 => ?_⟩, ?_, ⟨?_, fun p hp => ?_, ?_, ?_, fun k hk => ?_⟩, ot'⟩
  · rw [fr, to, eT]
    exact h.tx.x.mv (fun f a b i q1 q2 => hx f a b i (by omega))
  · rw [eT]
    exact h.tx.m.mv (fun f i q1 q2 => hm f 0 0 i (by omega))
  · rw [hx _ _ _ _ (by decide), hm _ _ _ _ (by decide)]
    exact h.tx.o t (by omega)
  · rw [hm _ _ _ _ (by decide), hm _ _ _ _ (by decide)]
    exact h.tx.l t (by omega)
  · rw [hm _ _ _ _ (by decide), hm _ _ _ _ (by decide)]
    exact h.tx.a t t' q1 (by omega)
  · rw [hm _ _ _ _ (by decide)]
    exact h.tx.d k hk
  · rw [hm _ _ _ _ (by decide)]
    exact h.tx.y
  · rw [hx _ _ _ _ (by decide), er, eq, sa.e.cn, eb]
    exact h.ch.c p hp
  · rw [hx _ _ _ _ (by decide)]
    exact h.ch.s v p hv (by omega) q2
  · rw [eP]
    exact h.rn.mv (fun k => sr _ k h.rg.cns.P.2) (fun f i q => hm f 0 0 i (by omega)) (fun f i q => hj f 0 0 i (by omega))
  · rw [ed, hx _ _ _ _ (by decide), hm _ _ _ _ (by decide), hj _ _ _ _ (by decide)]
    exact h.fd.w
  · rw [hx _ _ _ _ (by decide), hx _ _ _ _ (by decide), hj _ _ _ _ (by decide), hj _ _ _ _ (by decide)]
    exact h.fd.r p hp
  · rw [hx _ _ _ _ (by decide), hx _ _ _ _ (by decide), hj _ _ _ _ (by decide), hj _ _ _ _ (by decide)]
    exact h.fd.g
  · have e9 : (fun p => (μ'.2 309 0 0 p).toInt) = fun p => (μ.2 309 0 0 p).toInt := funext fun p => by rw [hj _ _ _ _ (by decide)]
    rw [e9, hx _ _ _ _ (by decide), hj _ _ _ _ (by decide), hm _ _ _ _ (by decide)]
    exact h.fd.f
  · rw [hx _ _ _ _ (by decide), hj _ _ _ _ (by decide)]
    exact h.fd.l k hk
theorem EvJ.up {μ μ' : St} (h : EvJ μ) (hf : ∀ f i, f = 205 ∨ f = 208 ∨ (216 ≤ f ∧ f ≤ 218) ∨ f = 223 ∨ (228 ≤ f ∧ f ≤ 234) → μ'.1 f 0 0 i = μ.1 f 0 0 i) (ho : ofN μ ≤ ofN μ') (hc : ∀ c, c < csN μ' → (μ'.1 342 0 0 c).toNatClampNeg < cnM μ) (hov : ∀ o, o < ofN μ' → (μ'.1 326 0 0 o).toNatClampNeg < vcN μ') (hpo : ∀ p, p < nP μ → (μ'.1 213 0 0 p).toNatClampNeg < ocN μ') (hvo : ∀ v, v < vcN μ' → (μ'.1 318 0 0 v).toNatClampNeg < ocN μ') (hso : ∀ o, o < 60 → μ'.1 324 0 0 o = if μ'.1 327 0 0 o = -1 then 1 else 0) (hoc : ∀ o, ofN μ' ≤ o → μ'.1 328 0 0 o = 0) (hlk : μ'.1 206 0 0 0 = -1 ∨ (312 ≤ (μ'.1 206 0 0 0).toInt ∧ (μ'.1 206 0 0 0).toInt ≤ (μ'.1 205 0 0 0).toInt)) (hop : ∀ o, o < ofN μ' → (μ'.1 325 0 0 o).toNatClampNeg < nP μ) : EvJ μ' := by
  have ec : cnM μ' = cnM μ := by unfold cnM; rw [hf _ _ (by decide)]
  have eP : nP μ' = nP μ := by unfold nP; rw [hf _ _ (by decide)]
  have er : rwN μ' = rwN μ := by unfold rwN; rw [hf _ _ (by decide)]
  have eq : rtN μ' = rtN μ := by unfold rtN; rw [hf _ _ (by decide)]
  refine ⟨h.e.up (fun f i q => hf f i (by omega)) ho, fun e he => ?_, fun c q => by rw [ec]; exact hc c q, hov, fun p q => hpo p (by omega), hvo, hso, fun r hr => ?_, hoc, hlk, fun r hr => ?_, fun o ho => by rw [eP]; exact hop o ho⟩
  · have : peM μ' e = peM μ e := by unfold peM; rw [hf _ _ (by decide)]
    rw [this, eP]
    exact h.p e (by omega)
  · rw [hf _ _ (by decide), hf _ _ (by decide)]
    exact h.br r (by omega)
  · rw [hf _ _ (by decide), hf _ _ (by decide)]
    exact h.bt r (by omega)
/-- events' offers as they were -/
theorem evM_k {μ μ' : St} (hI : EvI μ) (hR : Rng μ) (hE : SmE μ μ') (ho : ∀ o, o < ofN μ → (μ'.1 325 0 0 o = μ.1 325 0 0 o ∧ μ'.1 327 0 0 o = μ.1 327 0 0 o ∧ μ'.1 326 0 0 o = μ.1 326 0 0 o ∧ ∀ p, p < nP μ → oV μ' p (μ.1 326 0 0 o).toNatClampNeg = oV μ p (μ.1 326 0 0 o).toNatClampNeg)) {p : Nat} (hp : ∀ e, e < cnM μ → peM μ e = p → p < nP μ) (k : Nat) : evM μ' p k = evM μ p k := by
  refine evM_o hE (fun e he h7 hpe => ?_) k
  obtain ⟨-, -, -, -, i7⟩ := hI e he
  obtain ⟨o, o1, o2⟩ := i7 h7
  obtain ⟨a1, a2, a3, a4⟩ := ho o o2
  have c := hR.cns
  have ho2 : ofN μ ≤ 60 := c.o.2
  have o2' : o < ofN μ := o2
  have e1 : nuM μ' e = nuM μ e := by rw [hE.nu]
  have e2 : kdM μ' e = 7 := by rw [hE.kd]; exact h7
  have hc : (nuM μ e).toNatClampNeg = o := by rw [o1, nI_clamp (by omega)]
  unfold ofM
  rw [if_pos h7, if_pos e2, e1, hc, a3]
  have w := a4 p (hp e he hpe)
  unfold ofW
  unfold oV at w
  rw [a1, a2]
  exact congrArg (Prod.mk _) w
