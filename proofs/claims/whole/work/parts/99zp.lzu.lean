/-! something is told of a person: the others' lives stay -/
theorem filter_more {p : Nat → Bool} (a : Nat) : ∀ b, (∀ e, a ≤ e → e < a + b → p e = false) → (List.range (a + b)).filter p = (List.range a).filter p
  | 0, _ => rfl
  | b + 1, h => by
    rw [show a + (b + 1) = (a + b) + 1 by omega, List.range_succ, List.filter_append, filter_more a b (fun e h1 h2 => h e h1 (by omega)), List.filter_cons_of_neg (by rw [h (a + b) (by omega) (by omega)]; decide), List.filter_nil, List.append_nil]
theorem any_more {p : Nat → Bool} (a : Nat) : ∀ b, (∀ e, a ≤ e → e < a + b → p e = false) → (List.range (a + b)).any p = (List.range a).any p
  | 0, _ => rfl
  | b + 1, h => by
    rw [show a + (b + 1) = (a + b) + 1 by omega, List.range_succ, List.any_append, any_more a b (fun e h1 h2 => h e h1 (by omega))]
    simp [h (a + b) (by omega) (by omega)]
theorem any_cg {p q : Nat → Bool} (n : Nat) (h : ∀ e, e < n → p e = q e) : (List.range n).any p = (List.range n).any q := by
  induction n with
  | zero => rfl
  | succ n ih =>
    rw [List.range_succ, List.any_append, List.any_append, ih (fun e he => h e (by omega))]
    simp [h n (by omega)]
theorem clr_q {n b q e : Nat} {pe pe' : Nat → Nat} {kd kd' nu nu' : Nat → Int32} {kw kw' : Nat → Bool} (h1 : ∀ x, n ≤ x → x < n + b → pe' x ≠ q) (h2 : ∀ x, x < n → (pe' x = q ↔ pe x = q)) (h3 : ∀ x, x < n → pe x = q → kd' x = kd x ∧ nu' x = nu x ∧ kw' x = kw x) : clr (n + b) pe' kd' nu' kw' q e = clr n pe kd nu kw q e := by
  unfold clr
  rw [any_more n b (fun x a1 a2 => by rw [decide_eq_false (h1 x a1 a2)]; rfl), any_cg n (fun x hx => ?_)]
  by_cases z : pe x = q
  · obtain ⟨z1, z2, z3⟩ := h3 x hx z
    rw [decide_eq_true z, decide_eq_true ((h2 x hx).mpr z), z1, z2, z3]
  · rw [decide_eq_false z, decide_eq_false (fun y => z ((h2 x hx).mp y))]
    rfl
theorem lst_q {n b q d : Nat} {pe pe' dy dy' : Nat → Nat} {kd kd' : Nat → Int32} {kw kw' : Nat → Bool} (h1 : ∀ x, n ≤ x → x < n + b → pe' x ≠ q) (h2 : ∀ x, x < n → (pe' x = q ↔ pe x = q)) (h3 : ∀ x, x < n → pe x = q → kd' x = kd x ∧ dy' x = dy x ∧ kw' x = kw x) : (List.range (n + b)).filter (fun e => (decide (pe' e = q) && kw' e && !decide (kd' e = 8)) && decide (dy' e = d)) = (List.range n).filter (fun e => (decide (pe e = q) && kw e && !decide (kd e = 8)) && decide (dy e = d)) := by
  rw [filter_more n b (fun x a1 a2 => by rw [decide_eq_false (h1 x a1 a2)]; rfl)]
  refine List.filter_congr (fun x hx => ?_)
  have hx := List.mem_range.mp hx
  by_cases z : pe x = q
  · obtain ⟨z1, z2, z3⟩ := h3 x hx z
    rw [decide_eq_true z, decide_eq_true ((h2 x hx).mpr z), z1, z2, z3]
  · rw [decide_eq_false z, decide_eq_false (fun y => z ((h2 x hx).mp y))]
    rfl
/-- another person's events, when events are told or taken back -/
theorem evM_q {μ μ' : St} {q k n b : Nat} (hn : cnM μ = n) (hn' : cnM μ' = n + b) (h1 : ∀ x, n ≤ x → x < n + b → peM μ' x ≠ q) (h2 : ∀ x, x < n → (peM μ' x = q ↔ peM μ x = q)) (h3 : ∀ x, x < n → peM μ x = q → kdM μ' x = kdM μ x ∧ nuM μ' x = nuM μ x ∧ dyM μ' x = dyM μ x ∧ kwM μ' k x = kwM μ k x ∧ ofM μ' q x = ofM μ q x) : evM μ' q k = evM μ q k := by
  funext d
  unfold evM
  rw [hn', hn]
  have hf := lst_q (d := d) (dy := dyM μ) (dy' := dyM μ') (kd := kdM μ) (kd' := kdM μ') (kw := kwM μ k) (kw' := kwM μ' k) h1 h2 (fun x hx z => ⟨(h3 x hx z).1, (h3 x hx z).2.2.1, (h3 x hx z).2.2.2.1⟩)
  rw [show (List.range (n + b)).filter (fun e => slM μ' q k e && decide (dyM μ' e = d)) = (List.range n).filter (fun e => slM μ q k e && decide (dyM μ e = d)) from hf]
  refine List.map_congr_left (fun e he => ?_)
  obtain ⟨g1, g2⟩ := List.mem_filter.mp he
  have he' := List.mem_range.mp g1
  have z : peM μ e = q := by
    unfold slM at g2
    simp only [Bool.and_eq_true, decide_eq_true_eq] at g2
    exact g2.1.1.1
  obtain ⟨z1, z2, z3, z4, z5⟩ := h3 e he' z
  unfold EVM
  rw [hn', hn, clr_q (e := e) (kd := kdM μ) (nu := nuM μ) (kw := kwM μ k) h1 h2 (fun x hx z => ⟨(h3 x hx z).1, (h3 x hx z).2.1, (h3 x hx z).2.2.2.1⟩), z1, z2, z5]
theorem lastB_cg {P Q : Nat → Bool} : ∀ n, (∀ r, r < n → P r = Q r) → lastB P n = lastB Q n
  | 0, _ => rfl
  | n + 1, h => by
    unfold lastB
    rw [h n (by omega), lastB_cg n (fun r hr => h r (by omega))]
theorem lastB_f {P : Nat → Bool} {n : Nat} (h : P n = false) : lastB P (n + 1) = lastB P n := by
  show (if P n = true then some n else lastB P n) = lastB P n
  rw [h]
  rfl
theorem InvB.tl {TC : Nat → List Cl} {tp tp' : Nat → Nat} {σ σ' μ μ' : St} {j : Nat} (h : InvB TC tp σ μ) (hj : j < 20) (eq' : Eq1 σ' μ') (rg' : Rng μ') (tp2 : TP tp' σ' μ') (ev' : EvJ μ') (ot' : OtI σ' μ') (hx : ∀ f a b i, kpX f → f ≠ 53 → σ'.1 f a b i = σ.1 f a b i) (hch : ∀ p, p ≠ j → σ'.1 53 0 0 p = σ.1 53 0 0 p) (hcj : σ'.1 53 0 0 j = σ.1 53 0 0 j + 1) (hm : ∀ f i, f = 203 ∨ f = 205 ∨ f = 208 ∨ f = 219 ∨ (235 ≤ f ∧ f ≤ 245) ∨ f = 266 ∨ f = 315 → μ'.1 f 0 0 i = μ.1 f 0 0 i) (hl : ∀ f a b i, f ≠ 267 → μ'.2 f a b i = μ.2 f a b i) (hrun : μ'.1 273 0 0 0 = 0) (hE : ∀ q, q < 20 → q ≠ j → (∀ n k, ENM μ' TC q n k = ENM μ TC q n k) ∧ (∀ k, evM μ' q k = evM μ q k) ∧ ∀ e, e < cnM μ' → peM μ' e = q → e < cnM μ ∧ peM μ e = q ∧ dyM μ' e = dyM μ e) (hcnt : rwN μ + rtN μ + cnM μ + bkN μ + 1 ≤ rwN μ' + rtN μ' + cnM μ' + bkN μ') : InvB TC tp' σ' μ' := by
  have c := h.rg.cns
  have eT : nT μ' = nT μ := by unfold nT; rw [hm _ _ (by decide)]
  have eP : nP μ' = nP μ := by unfold nP; rw [hm _ _ (by decide)]
  have ed : tdN μ' = tdN μ := by unfold tdN; rw [hm _ _ (by decide)]
  have fr : frM μ' = frM μ := funext fun t => by unfold frM; rw [hm _ _ (by decide)]
  have to : toM μ' = toM μ := funext fun t => by unfold toM; rw [hm _ _ (by decide)]
  have hb : bkN μ ≤ cnM μ := cnt_le _ _
  have he := c.e.2
  have hr := c.r.2
  have hq := c.q.2
  have vv : ∀ v, VwI v TC σ μ → VwI v TC σ' μ' := fun v V => by
    obtain ⟨V1, V2⟩ := V.ch (σ' := σ') (j := j) (fun f b i z => hx f v b i (by omega) (by omega)) (fun p _ z => hch p z) hcj (fun x hx1 hx2 => by
      obtain ⟨y, y1, y2⟩ := h.ch.c j hj
      have := (nI_eq (by omega) (by omega)).mp (hx1.symm.trans y1)
      omega)
    refine V1.sm (by omega) (fun _ _ => rfl) (fun t _ => ⟨by rw [fr], by rw [to]⟩) (fun n p q1 q2 q3 q4 => ?_)
    by_cases z : p = j
    · rw [z] at q3
      exact absurd q3 (V2 hj)
    · obtain ⟨E1, E2, E3⟩ := hE p q2 z
      have ek : ∀ u, kOf v μ' u = kOf v μ u := fun u => by
        unfold kOf
        rw [show (μ'.1 205 0 0 0).toNatClampNeg = (μ.1 205 0 0 0).toNatClampNeg from ed]
      exact q4.sm (by omega) (fun u _ => ⟨by rw [ek, E1], by rw [ek, E2]⟩) E3
  refine ⟨eq', rg', tp2, ⟨?_, ?_, fun t ht => ?_, fun t ht => ?_, fun t t' q1 q2 => ?_, fun k hk => ?_, ?_⟩, ev', vv 0 h.v0, vv 1 h.v1, ⟨fun p hp => ?_, fun v p hv q1 q2 => ?_⟩, fun z => absurd hrun z, ⟨?_, fun p hp => ?_, ?_, ?_, fun k hk => ?_⟩, ot'⟩
  · rw [fr, to, eT]
    exact h.tx.x.mv (fun f a b i q1 q2 => hx f a b i (by omega) (by omega))
  · rw [eT]
    exact h.tx.m.mv (fun f i q1 q2 => hm f i (by omega))
  · rw [hx _ _ _ _ (by decide) (by decide), hm _ _ (by decide)]
    exact h.tx.o t (by omega)
  · rw [hm _ _ (by decide), hm _ _ (by decide)]
    exact h.tx.l t (by omega)
  · rw [hm _ _ (by decide), hm _ _ (by decide)]
    exact h.tx.a t t' q1 (by omega)
  · rw [hm _ _ (by decide)]
    exact h.tx.d k hk
  · rw [hm _ _ (by decide)]
    exact h.tx.y
  · obtain ⟨y, y1, y2⟩ := h.ch.c p hp
    by_cases z : p = j
    · rw [z] at y1 ⊢
      exact ⟨y + 1, by rw [hcj, y1, nI_1], by omega⟩
    · exact ⟨y, (hch p z).trans y1, by omega⟩
  · rw [hx _ _ _ _ (by decide) (by decide)]
    exact h.ch.s v p hv (by omega) q2
  · rw [ed, hx _ _ _ _ (by decide) (by decide), hm _ _ (by decide), hl _ _ _ _ (by decide)]
    exact h.fd.w
  · rw [hx _ _ _ _ (by decide) (by decide), hx _ _ _ _ (by decide) (by decide), hl _ _ _ _ (by decide), hl _ _ _ _ (by decide)]
    exact h.fd.r p hp
  · rw [hx _ _ _ _ (by decide) (by decide), hx _ _ _ _ (by decide) (by decide), hl _ _ _ _ (by decide), hl _ _ _ _ (by decide)]
    exact h.fd.g
  · have e9 : (fun p => (μ'.2 309 0 0 p).toInt) = fun p => (μ.2 309 0 0 p).toInt := funext fun p => by rw [hl _ _ _ _ (by decide)]
    rw [e9, hx _ _ _ _ (by decide) (by decide), hl _ _ _ _ (by decide), hm _ _ (by decide)]
    exact h.fd.f
  · rw [hx _ _ _ _ (by decide) (by decide), hl _ _ _ _ (by decide)]
    exact h.fd.l k hk
