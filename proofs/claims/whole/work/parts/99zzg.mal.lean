/-! an act is tried: both answer alike -/
theorem InvB.up2 {TC : Nat → List Cl} {tp tp' : Nat → Nat} {σ σ' μ μ' : St} (h : InvB TC tp σ μ) (eq' : Eq1 σ' μ') (rg' : Rng μ') (tp2 : TP tp' σ' μ') (ev' : EvJ μ') (ot' : OtI σ' μ') (hx : ∀ f a b i, kpX f → σ'.1 f a b i = σ.1 f a b i) (hm : ∀ f a b i, kpM f → μ'.1 f a b i = μ.1 f a b i) (hj : ∀ f a b i, f ≠ 267 ∧ f ≠ 348 → μ'.2 f a b i = μ.2 f a b i) (hv : ∀ p k, p < 20 → evM μ' p k = evM μ p k) : InvB TC tp' σ' μ' := by
  obtain ⟨sa, sr⟩ := kp_sa hm hv
  have eT : nT μ' = nT μ := by unfold nT; rw [hm _ _ _ _ (by decide)]
  have eP : nP μ' = nP μ := by unfold nP; rw [hm _ _ _ _ (by decide)]
  have ed : tdN μ' = tdN μ := by unfold tdN; rw [hm _ _ _ _ (by decide)]
  have er : rwN μ' = rwN μ := by unfold rwN; rw [hm _ _ _ _ (by decide)]
  have eq : rtN μ' = rtN μ := by unfold rtN; rw [hm _ _ _ _ (by decide)]
  have fr : frM μ' = frM μ := funext fun t => by unfold frM; rw [hm _ _ _ _ (by decide)]
  have to : toM μ' = toM μ := funext fun t => by unfold toM; rw [hm _ _ _ _ (by decide)]
  have eb : bkN μ' = bkN μ := by
    unfold bkN
    rw [sa.e.cn]
    exact cnt_cg _ (fun e _ => by rw [hm _ _ _ _ (by decide)])
  have vv : ∀ v, VwI v TC σ μ → VwI v TC σ' μ' := fun v q => VwI.sa (q.mv (fun f b i z => hx f v b i (by omega)) (fun p _ => hx _ _ _ _ (by decide))) sa ed (by omega) (fun _ _ => rfl) (fun t _ => ⟨by rw [fr], by rw [to]⟩)
  refine ⟨eq', rg', tp2, ⟨?_, ?_, fun t ht => ?_, fun t ht => ?_, fun t t' q1 q2 => ?_, fun k hk => ?_, ?_⟩, ev', vv 0 h.v0, vv 1 h.v1, ⟨fun p hp => ?_, fun v p hv q1 q2 => ?_⟩, ?_, ⟨?_, fun p hp => ?_, ?_, ?_, fun k hk => ?_⟩, ot'⟩
  · rw [fr, to, eT]
    exact h.tx.x.mv (fun f a b i q1 q2 => hx f a b i (by omega))
  · rw [eT]
    exact h.tx.m.mv (fun f i q1 q2 => hm f 0 0 i (by omega))
  · rw [hx _ _ _ _ (by decide), hm _ _ _ _ (by decide)]
    exact h.tx.o t (by omega)
  · rw [hm _ _ _ _ (by decide), hm _ _ _ _ (by decide)]
    exact h.tx.l t (by omega)
  · rw [hm _ _ _ _ (by decide), hm _ _ _ _ (by decide)]
    exact h.tx.a t t' q1 (by omega)
  · rw [hm _ _ _ _ (by decide)]
    exact h.tx.d k hk
  · rw [hm _ _ _ _ (by decide)]
    exact h.tx.y
  · rw [hx _ _ _ _ (by decide), er, eq, sa.e.cn, eb]
    exact h.ch.c p hp
  · rw [hx _ _ _ _ (by decide)]
    exact h.ch.s v p hv (by omega) q2
  · rw [eP]
    exact h.rn.mv (fun k => sr _ k h.rg.cns.P.2) (fun f i q => hm f 0 0 i (by omega)) (fun f i q => hj f 0 0 i (by omega))
  · rw [ed, hx _ _ _ _ (by decide), hm _ _ _ _ (by decide), hj _ _ _ _ (by decide)]
    exact h.fd.w
  · rw [hx _ _ _ _ (by decide), hx _ _ _ _ (by decide), hj _ _ _ _ (by decide), hj _ _ _ _ (by decide)]
    exact h.fd.r p hp
  · rw [hx _ _ _ _ (by decide), hx _ _ _ _ (by decide), hj _ _ _ _ (by decide), hj _ _ _ _ (by decide)]
    exact h.fd.g
  · have e9 : (fun p => (μ'.2 309 0 0 p).toInt) = fun p => (μ.2 309 0 0 p).toInt := funext fun p => by rw [hj _ _ _ _ (by decide)]
    rw [e9, hx _ _ _ _ (by decide), hj _ _ _ _ (by decide), hm _ _ _ _ (by decide)]
    exact h.fd.f
  · rw [hx _ _ _ _ (by decide), hj _ _ _ _ (by decide)]
    exact h.fd.l k hk
theorem InvB.tr {TC : Nat → List Cl} {tp : Nat → Nat} {σ μ τ ν : St} (h : InvB TC tp σ μ) (hx : ∀ f a b i, f ≠ 158 → f ≠ 161 → τ.1 f a b i = σ.1 f a b i) (hm : ∀ f a b i, f ≠ 347 → f ≠ 349 → f ≠ 350 → ν.1 f a b i = μ.1 f a b i) (hj : ∀ f a b i, f ≠ 348 → ν.2 f a b i = μ.2 f a b i) (e : ∀ i, τ.1 161 0 0 i = ν.1 347 0 0 i) (b : ∀ i, 0 ≤ (ν.1 347 0 0 i).toInt ∧ (ν.1 347 0 0 i).toInt ≤ 1) (ht : ∀ t, t < 9 → τ.1 158 0 0 (3 * t) = (ν.2 348 0 0 t).toInt32 ∧ τ.1 158 0 0 (3 * t + 1) = ν.1 349 0 0 t ∧ τ.1 158 0 0 (3 * t + 2) = ν.1 350 0 0 t) : InvB TC tp τ ν := by
  refine h.up2 (fun q hq i => ?_) (fun q hq i => ?_) (h.tp.mv (fun i => hx _ _ _ _ (by decide) (by decide)) (fun i => hm _ _ _ _ (by decide) (by decide) (by decide))) (h.ev.mv (fun f i q => hm _ _ _ _ (by omega) (by omega) (by omega))) ⟨fun p hp => ?_, fun i hi => ?_, ht, by rw [hx _ _ _ _ (by decide) (by decide), hm _ _ _ _ (by decide) (by decide) (by decide)]; exact h.ot.p⟩ (fun f a b i q => hx _ _ _ _ (by omega) (by omega)) (fun f a b i q => hm _ _ _ _ (by omega) (by omega) (by omega)) (fun f a b i q => hj f a b i q.2) (fun p k _ => evM_c (fun f a b i q => by
    have w : ∀ f ∈ LO, f ≠ 347 ∧ f ≠ 349 ∧ f ≠ 350 := by decide
    obtain ⟨w1, w2, w3⟩ := w f q
    exact hm f a b i w1 w2 w3) p k)
  · have h2 : eqF.all (fun q => decide (q = (161, 347) ∨ (q.1 ≠ 158 ∧ q.1 ≠ 161 ∧ q.2 ≠ 347 ∧ q.2 ≠ 349 ∧ q.2 ≠ 350))) = true := by decide
    rcases of_decide_eq_true (List.all_eq_true.mp h2 q hq) with rfl | ⟨a1, a2, a3, a4, a5⟩
    · exact e i
    · rw [hx _ _ _ _ a1 a2, hm _ _ _ _ a3 a4 a5]
      exact h.eq q hq i
  · have h2 : rngF.all (fun q => decide (q = (347, 0, 1) ∨ (q.1 ≠ 347 ∧ q.1 ≠ 349 ∧ q.1 ≠ 350))) = true := by decide
    rcases of_decide_eq_true (List.all_eq_true.mp h2 q hq) with rfl | ⟨a3, a4, a5⟩
    · exact b i
    · rw [hm _ _ _ _ a3 a4 a5]
      exact h.rg q hq i
  · rw [hx _ _ _ _ (by decide) (by decide), hm _ _ _ _ (by decide) (by decide) (by decide), hm _ _ _ _ (by decide) (by decide) (by decide)]
    exact h.ot.s p hp
  · rw [hx _ _ _ _ (by decide) (by decide), hm _ _ _ _ (by decide) (by decide) (by decide)]
    have : csN ν = csN μ := by unfold csN; rw [hm _ _ _ _ (by decide) (by decide) (by decide)]
    exact h.ot.b i (by omega)
theorem zero9 {N : Nat} : ∀ (e i m : Nat) (μ : St), i + e = 9 → e < m → ∃ μ' m', fM_attempt_83 N m (nI i) μ = fM_attempt_83 N (m' + 1) (nI 9) μ' ∧ (∀ f a b j, f ≠ 349 → f ≠ 350 → μ'.1 f a b j = μ.1 f a b j) ∧ (∀ f a b j, f ≠ 348 → μ'.2 f a b j = μ.2 f a b j) ∧ (∀ t, t < i → μ'.2 348 0 0 t = μ.2 348 0 0 t ∧ μ'.1 349 0 0 t = μ.1 349 0 0 t ∧ μ'.1 350 0 0 t = μ.1 350 0 0 t) ∧ ∀ t, i ≤ t → t < 9 → μ'.2 348 0 0 t = 0 ∧ μ'.1 349 0 0 t = 0 ∧ μ'.1 350 0 0 t = 0 := by
  intro e
  induction e with
  | zero =>
    intro i m μ h1 h2
    obtain ⟨m, rfl⟩ : ∃ q, m = q + 1 := ⟨m - 1, by omega⟩
    have : i = 9 := by omega
    subst this
    exact ⟨μ, m, rfl, fun _ _ _ _ _ _ => rfl, fun _ _ _ _ _ => rfl, fun _ _ => ⟨rfl, rfl, rfl⟩, fun t q1 q2 => by omega⟩
  | succ e ih =>
    intro i m μ h1 h2
    obtain ⟨m, rfl⟩ : ∃ q, m = q + 1 := ⟨m - 1, by omega⟩
    obtain ⟨ν, hν⟩ : ∃ ν, ν = sI (sI (sJ μ 348 0 0 i 0) 349 0 0 i 0) 350 0 0 i 0 := ⟨_, rfl⟩
    have l1 : ∀ f a b j, f ≠ 349 → f ≠ 350 → ν.1 f a b j = μ.1 f a b j := fun f a b j q1 q2 => by rw [hν, sI_o q2, sI_o q1]; rfl
    have l2 : ∀ f a b j, f ≠ 348 → ν.2 f a b j = μ.2 f a b j := fun f a b j q => by
      rw [hν]
      show (sJ μ 348 0 0 i 0).2 f a b j = _
      rw [sJ_o q]
    have l3 : ∀ t, ν.2 348 0 0 t = (sJ μ 348 0 0 i 0).2 348 0 0 t ∧ ν.1 349 0 0 t = (sI μ 349 0 0 i 0).1 349 0 0 t ∧ ν.1 350 0 0 t = (sI μ 350 0 0 i 0).1 350 0 0 t := fun t => by
      refine ⟨by rw [hν]; rfl, ?_, ?_⟩
      · rw [hν, sI_o (by decide), sI_1, sI_1]
        rfl
      · have y : (sI (sJ μ 348 0 0 i 0) 349 0 0 i 0).1 350 0 0 t = μ.1 350 0 0 t := by
          rw [sI_o (by decide)]
          rfl
        rw [hν, sI_1, y, sI_1]
    obtain ⟨μ', m', r1, r2, r3, r4, r5⟩ := ih (i + 1) m ν (by omega) (by omega)
    refine ⟨μ', m', ?_, fun f a b j q1 q2 => (r2 f a b j q1 q2).trans (l1 f a b j q1 q2), fun f a b j q => (r3 f a b j q).trans (l2 f a b j q), fun t q => ?_, fun t q1 q2 => ?_⟩
    · refine Eq.trans ?_ r1
      show (if (9 : Int32) ≤ nI i then _ else chk (inb (nI i) 9) <| nm (sJ μ 348 0 0 (nI i).toNatClampNeg 0) fun (σ9 : St) => nm (sI σ9 349 0 0 (nI i).toNatClampNeg 0) fun (σ10 : St) => nm (sI σ10 350 0 0 (nI i).toNatClampNeg 0) fun (σ11 : St) => (fM_attempt_83 N m) (nI i + 1) σ11) = _
      rw [show (9 : Int32) = nI 9 from rfl, if_neg (nI_ge (by omega) (by omega)), chk_t (inb_n (by omega) (by decide)), nI_clamp (by omega), nmx, nmx, nmx, ← hν, nI_1]
    · obtain ⟨y1, y2, y3⟩ := r4 t (by omega)
      obtain ⟨z1, z2, z3⟩ := l3 t
      rw [y1, y2, y3, z1, z2, z3, sJ_i (by omega), sI_i (by omega), sI_i (by omega)]
      exact ⟨rfl, rfl, rfl⟩
    · by_cases z : t = i
      · obtain ⟨y1, y2, y3⟩ := r4 t (by omega)
        obtain ⟨z1, z2, z3⟩ := l3 t
        rw [y1, y2, y3, z1, z2, z3, z, sJ_s, sI_s, sI_s]
        exact ⟨rfl, rfl, rfl⟩
      · exact r5 t (by omega) q2
theorem try_ok {N T : Nat} {TC : Nat → List Cl} {tp : Nat → Nat} {σ μ σ2 μ2 : St} {a2 a3 : Int32} (hN : 4000 ≤ N) (h : InvB TC tp σ μ) (hc : μ.1 204 0 0 0 = 0) (eT : nT μ = T) (R : RdB T 0 σ μ σ2 μ2) (b2 : 0 ≤ a2.toInt ∧ a2.toInt ≤ 935) (b3 : 0 ≤ a3.toInt ∧ a3.toInt ≤ 935) :
    StQ (chk (inb (σ2.1 159 0 0 0) 17) <| bn1 (fAct_reign N ((σ2.1 159 0 0 0).toNatClampNeg) a2 a3 (σ2.1 162 0 0 0) σ2) fun σ3 => bn1 (fX_compareWithTry N σ3) fun σ4 => some ((some 0), σ4))
      (chk (inb (μ2.1 219 0 0 0) 17) <| nm (sI μ2 235 0 0 (μ2.1 219 0 0 0).toNatClampNeg a2) fun (σ6 : St) => chk (inb (σ6.1 219 0 0 0) 17) <| nm (sI σ6 236 0 0 (σ6.1 219 0 0 0).toNatClampNeg a3) fun (σ7 : St) => fM_attempt_83 N N 0 σ7) := by
  have c := h.rg.cns
  have cT := c.T
  have cd := c.d
  have cP := c.P
  have hT : T ≤ 16 := by omega
  rw [eT] at cT
  obtain ⟨t, ht⟩ : ∃ t, tdN μ = t := ⟨_, rfl⟩
  rw [ht] at cd
  have x159 : σ2.1 159 0 0 0 = nI T := (R.x _ _ _ _ (by decide) (by omega) (by decide) (by decide)).trans ((h.eq.at (g := 219) 0 (by decide)).trans cT.1)
  have x162 : σ2.1 162 0 0 0 = μ.1 205 0 0 0 := (R.x _ _ _ _ (by decide) (by omega) (by decide) (by decide)).trans (h.eq.at (g := 205) 0 (by decide))
  have m219 : μ2.1 219 0 0 0 = nI T := (R.m _ _ _ _ (by decide) (by decide)).trans cT.1
  -- both after the text
  obtain ⟨τ, hτ⟩ : ∃ τ, τ = sI (sI (sI σ2 13 T 0 0 a2) 14 T 0 0 a3) 15 T 0 0 (μ.1 205 0 0 0) := ⟨_, rfl⟩
  obtain ⟨ν0, hν0⟩ : ∃ ν0, ν0 = sI (sI μ2 235 0 0 T a2) 236 0 0 T a3 := ⟨_, rfl⟩
  obtain ⟨νb, hνb⟩ : ∃ νb, νb = sI ν0 273 0 0 0 0 := ⟨_, rfl⟩
  obtain ⟨νv, hνv⟩ : ∃ νv, νv = sI (sI νb 237 0 0 T (μ.1 205 0 0 0)) 219 0 0 0 (nI (T + 1)) := ⟨_, rfl⟩
  have yX : ∀ f a b i, ¬ (13 ≤ f ∧ f ≤ 15) → τ.1 f a b i = σ2.1 f a b i := fun f a b i q => by rw [hτ, sI_o (by omega), sI_o (by omega), sI_o (by omega)]
  have yXi : ∀ f a b i, a ≠ T → τ.1 f a b i = σ2.1 f a b i := fun f a b i q => by
    rw [hτ, sI_1, if_neg (fun z => q z.2.1), sI_1, if_neg (fun z => q z.2.1), sI_1, if_neg (fun z => q z.2.1)]
  have y0 : ∀ f a b i, f ≠ 235 → f ≠ 236 → ν0.1 f a b i = μ2.1 f a b i := fun f a b i q1 q2 => by rw [hν0, sI_o q2, sI_o q1]
  have y0i : ∀ f i, i ≠ T → ν0.1 f 0 0 i = μ2.1 f 0 0 i := fun f i q => by rw [hν0, sI_1, if_neg (fun z => q z.2.2.2), sI_1, if_neg (fun z => q z.2.2.2)]
  have yb : ∀ f a b i, f ≠ 273 → νb.1 f a b i = ν0.1 f a b i := fun f a b i q => by rw [hνb, sI_o q]
  have yv : ∀ f a b i, f ≠ 237 → f ≠ 219 → νv.1 f a b i = νb.1 f a b i := fun f a b i q1 q2 => by rw [hνv, sI_o q2, sI_o q1]
  have yvi : ∀ f i, i ≠ T → f ≠ 219 → νv.1 f 0 0 i = νb.1 f 0 0 i := fun f i q1 q2 => by rw [hνv, sI_o q2, sI_1, if_neg (fun z => q1 z.2.2.2)]
  have jb : νb.2 = μ.2 := by rw [hνb, hν0]; exact R.j
  have v219 : νv.1 219 0 0 0 = nI (T + 1) := by rw [hνv, sI_s]
  have vT : nT νv = T + 1 := by unfold nT; rw [v219, nI_clamp (by omega)]
  have mb : ∀ f a b i, txm f → νb.1 f a b i = μ.1 f a b i := fun f a b i q => by
    obtain ⟨z1, z2, z3, z4, z5⟩ := q
    rw [yb _ _ _ _ z5, y0 _ _ _ _ (by omega) (by omega), R.m _ _ _ _ z4 (by omega)]
  have b219 : ∀ i, νb.1 219 0 0 i = μ.1 219 0 0 i := fun i => by rw [yb _ _ _ _ (by decide), y0 _ _ _ _ (by decide) (by decide), R.m _ _ _ _ (by decide) (by decide)]
  have b237 : ∀ i, νb.1 237 0 0 i = μ.1 237 0 0 i := fun i => by rw [yb _ _ _ _ (by decide), y0 _ _ _ _ (by decide) (by decide), R.m _ _ _ _ (by decide) (by decide)]
  have bT : nT νb = T := by unfold nT; rw [b219]; exact eT
  have b204 : νb.1 204 0 0 0 = 0 := by rw [yb _ _ _ _ (by decide), y0 _ _ _ _ (by decide) (by decide), R.m _ _ _ _ (by decide) (by decide)]; exact hc
  obtain ⟨l, txv⟩ := h.tx.grow (σ' := σ2) (μ' := μ2) (τ := τ) (ν := νv) (T := T) (fr := a2) (to := a3) eT vT (fun f a b i q1 q2 q3 => by rw [yXi _ _ _ _ (by omega), R.x _ _ _ _ (by omega) (by omega) (by omega) (by omega)]) (fun f b i q1 q2 => yX _ _ _ _ (by omega)) (by rw [hτ, sI_o (by decide), sI_o (by decide), sI_s]) (by rw [hτ, sI_o (by decide), sI_s]) (by rw [hτ, sI_s]) (by rw [yv _ _ _ _ (by decide) (by decide), yb _ _ _ _ (by decide), hν0, sI_o (by decide), sI_s]) (by rw [yv _ _ _ _ (by decide) (by decide), yb _ _ _ _ (by decide), hν0, sI_s]) (by rw [hνv, sI_o (by decide), sI_s]) (fun f i q1 q2 q3 => by rw [yvi _ _ (by omega) (by omega), yb _ _ _ _ (by omega), y0i _ _ (by omega), R.m _ _ _ _ (by omega) (by omega)]) (fun f i q => by rw [yv _ _ _ _ (by omega) (by omega), yb _ _ _ _ (by omega), y0 _ _ _ _ (by omega) (by omega), R.m _ _ _ _ (by omega) (by omega)]) (fun i q => by rw [yv _ _ _ _ (by decide) (by decide), yb _ _ _ _ (by decide), y0 _ _ _ _ (by decide) (by decide), R.c i q]) (fun f i q1 q2 q3 => by rw [yv _ _ _ _ (by omega) (by omega), yb _ _ _ _ (by omega), y0 _ _ _ _ (by omega) (by omega), R.t f i q1 q2 q3]) (fun j q => by rw [yv _ _ _ _ (by decide) (by decide), yb _ _ _ _ (by decide), y0 _ _ _ _ (by decide) (by decide), R.w j q]) (R.d rfl) (fun f i q1 q2 => by rw [yv _ _ _ _ (by omega) (by omega), yb _ _ _ _ (by omega), y0 _ _ _ _ (by omega) (by omega)]) b2 b3
  obtain ⟨TD, hTD⟩ : ∃ TD : Nat → List Cl, TD = fun t => if t = T then l else TC t := ⟨_, rfl⟩
  rw [← hTD] at txv
  have frv : frM νv = frM νb := funext fun t => yv _ _ _ _ (by decide) (by decide)
  have tov : toM νv = toM νb := funext fun t => yv _ _ _ _ (by decide) (by decide)
  have txb : TxI TD τ νb := by
    have X := txv.x
    have M := txv.m
    rw [frv, tov, vT] at X
    rw [vT] at M
    refine ⟨fun t ht => X t (by omega), ?_, fun t ht => ?_, fun t ht => ?_, fun t t' q1 q2 => ?_, fun k hk => ?_, ?_⟩
    · intro t ht
      obtain ⟨z1, z2, z3⟩ := M t (by omega)
      rw [yv _ _ _ _ (by decide) (by decide)] at z1
      exact ⟨z1, z2, fun i c hc => ⟨(z3 i c hc).1, (z3 i c hc).2.mvi (Nat.le_refl _) (fun f q1 q2 => (yv _ _ _ _ (by omega) (by omega)).symm) (fun j _ => (yv _ _ _ _ (by decide) (by decide)).symm)⟩⟩
    · rw [yXi _ _ _ _ (by omega), R.x _ _ _ _ (by decide) (by omega) (by decide) (by decide), b237]
      exact h.tx.o t (by omega)
    · rw [b237, mb 205 _ _ _ (by decide)]
      exact h.tx.l t (by omega)
    · rw [b237, b237]
      exact h.tx.a t t' q1 (by omega)
    · rw [mb _ _ _ _ (by decide)]
      exact h.tx.d k hk
    · rw [mb _ _ _ _ (by decide)]
      exact h.tx.y
  have hx : ∀ f a b i, txx f → τ.1 f a b i = σ.1 f a b i := fun f a b i q => by
    obtain ⟨z1, z2, z3, z4, z5⟩ := q
    rw [yX _ _ _ _ (by omega), R.x _ _ _ _ z3 (by omega) z2 z5]
  have isr : νb.1 273 0 0 0 = 0 := by rw [hνb, sI_s]
  have B : InvB TD tp τ νb := by
    refine h.tx2 (h.eq.rd (fun f i q1 q2 q3 q4 q5 => hx _ _ _ _ ⟨q1, q2, q3, q4, q5⟩) (fun f i q1 q2 q3 q4 q5 => mb _ _ _ _ ⟨q1, q2, q3, q4, q5⟩) (fun i => ?_) (fun i => ?_)) (h.rg.rd (fun f i q1 q2 q3 q4 q5 => mb _ _ _ _ ⟨q1, q2, q3, q4, q5⟩) (fun i => ?_) (fun i => ?_) (fun f i q => ?_)) txb (by omega) (fun t ht => by rw [hTD]; exact if_neg (by omega)) (fun t ht => ?_) hx mb jb (fun q => absurd isr q) (by rw [yX _ _ _ _ (by decide), yb _ _ _ _ (by decide), y0 _ _ _ _ (by decide) (by decide)]; exact R.p)
    · rw [yX _ _ _ _ (by decide), yb _ _ _ _ (by decide), y0 _ _ _ _ (by decide) (by decide)]
      exact R.e i
    · rw [yX _ _ _ _ (by decide), b219, R.x _ _ _ _ (by decide) (by omega) (by decide) (by decide)]
      exact h.eq.at i (by decide)
    · rw [yb _ _ _ _ (by decide), y0 _ _ _ _ (by decide) (by decide)]
      exact R.b i
    · rw [b219]
      exact h.rg.at i (by decide)
    · have hb : 0 ≤ (μ.1 f 0 0 i).toInt ∧ (μ.1 f 0 0 i).toInt ≤ 935 := by
        have w : f = 235 ∨ f = 236 ∨ f = 237 := by omega
        rcases w with rfl | rfl | rfl
        · exact h.rg.at i (by decide)
        · exact h.rg.at i (by decide)
        · exact h.rg.at i (by decide)
      rw [yb _ _ _ _ (by omega)]
      by_cases q2 : i = T
      · have w : f = 235 ∨ f = 236 ∨ f = 237 := by omega
        rcases w with rfl | rfl | rfl
        · rw [q2, hν0, sI_o (by decide), sI_s]
          exact b2
        · rw [q2, hν0, sI_s]
          exact b3
        · rw [y0 _ _ _ _ (by decide) (by decide), R.m _ _ _ _ (by decide) (by decide)]
          exact hb
      · rw [y0i _ _ q2, R.m _ _ _ _ (by omega) (by omega)]
        exact hb
    · unfold frM toM
      rw [yb _ _ _ _ (by decide), yb _ _ _ _ (by decide), y0i _ _ (by omega), y0i _ _ (by omega), R.m _ _ _ _ (by decide) (by decide), R.m _ _ _ _ (by decide) (by decide)]
      exact ⟨rfl, rfl⟩
  have cb := B.rg.cns
  have bd : tdN νb = t := by unfold tdN; rw [mb _ _ _ _ (by decide)]; exact ht
  obtain ⟨P, hP⟩ : ∃ P, nP νb = P := ⟨_, rfl⟩
  have cbP := cb.P
  rw [hP] at cbP
  have cbd := cb.d
  rw [bd] at cbd
  have cbT := cb.T
  rw [bT] at cbT
  -- the reference: sums at nought
  obtain ⟨z, m', z1, z2, z3, -, z5⟩ := zero9 (N := N) 9 0 N ν0 (by omega) (by omega)
  have ev0 : ∀ f a b i, f ≠ 273 → νb.1 f a b i = ν0.1 f a b i := yb
  obtain ⟨νa, hνa⟩ : ∃ νa, νa = sI z 266 0 0 0 1 := ⟨_, rfl⟩
  have ya : ∀ f a b i, f ≠ 266 → f ≠ 273 → f ≠ 349 → f ≠ 350 → νa.1 f a b i = νb.1 f a b i := fun f a b i q1 q2 q3 q4 => by rw [hνa, sI_o q1, z2 f a b i q3 q4, yb f a b i q2]
  have t237 : ∀ t, t < T → νb.1 237 0 0 t ≤ nI (tdN νb) := fun t' ht' => by
    have := B.tx.l t' (by omega)
    rw [cb.d.1] at this
    exact this
  have rgm : ∀ ν : St, (∀ f i, ¬ (260 ≤ f ∧ f ≤ 308) → f ≠ 349 → f ≠ 350 → ν.1 f 0 0 i = νb.1 f 0 0 i) → Rng ν := fun ν hν q hq i => by
    have h2 : rngF.all (fun q => decide (¬ (260 ≤ q.1 ∧ q.1 ≤ 308) ∧ q.1 ≠ 349 ∧ q.1 ≠ 350)) = true := by decide
    obtain ⟨a1, a2, a3⟩ := of_decide_eq_true (List.all_eq_true.mp h2 q hq)
    rw [hν _ _ a1 a2 a3]
    exact B.rg q hq i
  have rnh : ∀ (ν : St) (n : Nat), (∀ f a b i, ¬ (260 ≤ f ∧ f ≤ 308) → f ≠ 349 → f ≠ 350 → ν.1 f a b i = νb.1 f a b i) → n ≤ T + 1 → takes ν (nI t) n → RnH N P n t TD ν := fun ν n hν hn htk => by
    have l0 : ∀ f i, f < 260 → ν.1 f 0 0 i = νb.1 f 0 0 i := fun f i q => hν _ _ _ _ (by omega) (by omega) (by omega)
    have hm : TxM TD (T + 1) ν := by
      have M := txv.m
      rw [vT] at M
      refine M.mv (fun f i q1 q2 => ?_)
      rw [hν _ _ _ _ (by omega) (by omega) (by omega), yv _ _ _ _ (by omega) (by omega)]
    have sE : SmE νb ν := SmE.mk (fun f a b i q => by
      have w : ∀ f ∈ LE, ¬ (260 ≤ f ∧ f ≤ 308) ∧ f ≠ 349 ∧ f ≠ 350 := by decide
      obtain ⟨w1, w2, w3⟩ := w f q
      exact hν f a b i w1 w2 w3)
    refine ⟨rgm ν (fun f i q1 q2 q3 => hν _ _ _ _ q1 q2 q3), fun e he => ?_, hm.tn hn, fun k hk => (l0 _ _ (by decide)).trans (B.tx.d k hk), htk, by omega, (l0 _ _ (by decide)).trans cbP.1, cbP.2, fun e he => ?_, fun o ho => ?_, hN, by omega, by omega⟩
    · rw [sE.cn] at he
      have := B.ev.e e he
      rw [sE.pe, sE.kd, sE.nu, sE.dy, l0 233 _ (by decide), l0 205 _ (by decide), l0 234 _ (by decide), hν 317 _ _ _ (by decide) (by decide) (by decide)]
      exact this
    · rw [sE.pe, ← hP]
      exact B.ev.p e (by rw [← sE.cn]; exact he)
    · rw [hν 324 _ _ _ (by decide) (by decide) (by decide), hν 327 _ _ _ (by decide) (by decide) (by decide)]
      have := B.ev.so o ho
      constructor
      · intro q
        rw [this] at q
        exact fun y => absurd q (by rw [if_pos y]; decide)
      · intro q
        rw [this, if_neg q]
  obtain ⟨n, hn⟩ : ∃ n, n = t + 1 - 312 := ⟨_, rfl⟩
  have n1 : 1 ≤ n ∧ n ≤ 624 ∧ 311 + n = t := by omega
  obtain ⟨tr, htr⟩ : ∃ tr : Nat → Nat, ∀ p, νb.1 211 0 0 p = nI (tr p) ∧ tr p < 8 := by
    refine ⟨fun p => (νb.1 211 0 0 p).toNatClampNeg, fun p => ?_⟩
    obtain ⟨x, x1, -, x3, -, x5⟩ := B.rg.n (g := 211) (lo := 0) (hi := 7) p (by decide) (by decide)
    dsimp only
    rw [x1, x3]
    exact ⟨rfl, by omega⟩
  have srm : ∀ ρ : St, (∀ f a b i, f < 260 ∨ (309 ≤ f ∧ f ≤ 346) → ρ.1 f a b i = νb.1 f a b i) → SmR P t νb ρ := fun ρ hρ => SmA.sr cbP.2 (fun f a b i q => hρ f a b i (by
    have w1 : ∀ f ∈ LO ++ LB ++ LT, f < 260 ∨ (309 ≤ f ∧ f ≤ 346) := by decide
    rcases q with q | q | q | q | q
    · exact w1 f (List.mem_append_left _ (List.mem_append_left _ q))
    · exact w1 f (List.mem_append_left _ (List.mem_append_right _ q))
    · exact w1 f (List.mem_append_right _ q)
    · omega
    · omega))
  -- the first run: with the act
  have fa : ∀ f a b i, ¬ (260 ≤ f ∧ f ≤ 308) → f ≠ 349 → f ≠ 350 → νa.1 f a b i = νb.1 f a b i := fun f a b i q1 q2 q3 => ya f a b i (by omega) (by omega) q2 q3
  have tka : takes νa (nI t) (T + 1) := ⟨T, (fa _ _ _ _ (by decide) (by decide) (by decide)).trans cbT.1, Or.inr ⟨by rw [hνa, sI_s]; decide, rfl, hT, fun t' ht' => by
    rw [fa _ _ _ _ (by decide) (by decide) (by decide)]
    have := t237 t' ht'
    rw [bd] at this
    exact this⟩⟩
  obtain ⟨ρa, a1, a2', a3'⟩ := run_ok (rnh νa (T + 1) fa (Nat.le_refl _) tka)
  have fra : ∀ f a b i, ¬ (260 ≤ f ∧ f ≤ 308) → f ≠ 349 → f ≠ 350 → ρa.1 f a b i = νb.1 f a b i := fun f a b i q1 q2 q3 => (a2'.1 f a b i (by omega)).trans (fa f a b i q1 q2 q3)
  have za : ∀ t, t < 9 → ρa.2 348 0 0 t = 0 ∧ ρa.1 349 0 0 t = 0 ∧ ρa.1 350 0 0 t = 0 := fun t' ht' => by
    obtain ⟨w1, w2, w3⟩ := z5 t' (by omega) ht'
    rw [a2'.2 _ _ _ _ (by decide) (by decide) (by decide), a2'.1 _ _ _ _ (by decide), a2'.1 _ _ _ _ (by decide), hνa, sI_o (by decide), sI_o (by decide)]
    exact ⟨w1, w2, w3⟩
  obtain ⟨ρb, e1, e2, e3, e4⟩ := add2 (N := N) (P := P) (n := n) (b := true) (tr := tr) (c := fun _ _ => 0) (ρ0 := ρa) (by omega) cbP.2 n1.2.1 n1.1 (by rw [fra _ _ _ _ (by decide) (by decide) (by decide), cbd.1, n1.2.2]) ((fra _ _ _ _ (by decide) (by decide) (by decide)).trans cbP.1) (fun p hp => ⟨(fra _ _ _ _ (by decide) (by decide) (by decide)).trans (htr p).1, (htr p).2⟩) (fun p hp => fun i hi => dy_e a3' hp (by omega) i (by omega)) (fun _ _ => ⟨by decide, by decide⟩) P 0 N ρa (by omega) (by omega) (fun _ _ _ _ _ _ => rfl) (fun _ _ _ _ _ => rfl) (fun t' ht' => by
    obtain ⟨w1, w2, w3⟩ := za t' ht'
    rw [w1, w2, w3]
    exact ⟨rfl, rfl, rfl⟩)
  -- the second run: without it
  obtain ⟨νc, hνc⟩ : ∃ νc, νc = sI ρb 266 0 0 0 0 := ⟨_, rfl⟩
  have fc : ∀ f a b i, ¬ (260 ≤ f ∧ f ≤ 308) → f ≠ 349 → f ≠ 350 → νc.1 f a b i = νb.1 f a b i := fun f a b i q1 q2 q3 => by rw [hνc, sI_o (by omega), e2 f a b i q2 q3, fra f a b i q1 q2 q3]
  have tkc : takes νc (nI t) T := ⟨T, (fc _ _ _ _ (by decide) (by decide) (by decide)).trans cbT.1, Or.inl ⟨by rw [hνc, sI_s], Nat.le_refl _, hT, fun t' ht' => by
    rw [fc _ _ _ _ (by decide) (by decide) (by decide)]
    have := t237 t' ht'
    rw [bd] at this
    exact this, fun t' q1 q2 => by omega⟩⟩
  obtain ⟨ρc, c1, c2, c3⟩ := run_ok (rnh νc T fc (by omega) tkc)
  have frc : ∀ f a b i, ¬ (260 ≤ f ∧ f ≤ 308) → f ≠ 349 → f ≠ 350 → ρc.1 f a b i = νb.1 f a b i := fun f a b i q1 q2 q3 => (c2.1 f a b i (by omega)).trans (fc f a b i q1 q2 q3)
  have bda : ∀ p j, p < P → tA ρa n j p ≤ 6300000 := fun p j hp => tA_b (n := n) (by omega) (fun i hi => dy_e a3' hp (by omega) i (by omega)) (Nat.le_refl _)
  have bdc : ∀ p j, p < P → tA ρc n j p ≤ 6300000 := fun p j hp => tA_b (n := n) (by omega) (fun i hi => dy_e c3 hp (by omega) i (by omega)) (Nat.le_refl _)
  have sba : ∀ j t', smT tr (tA ρa n j) t' P ≤ 126000000 := fun j t' => by
    have := smT_b (tr := tr) (A := tA ρa n j) (t := t') P (fun q hq => bda q j hq)
    have := cbP.2
    omega
  have sbc : ∀ j t', smT tr (tA ρc n j) t' P ≤ 126000000 := fun j t' => by
    have := smT_b (tr := tr) (A := tA ρc n j) (t := t') P (fun q hq => bdc q j hq)
    have := cbP.2
    omega
  obtain ⟨ρe, g1, g2, g3, g4⟩ := add2 (N := N) (P := P) (n := n) (b := false) (tr := tr) (c := fun j t' => (smT tr (tA ρa n j) t' P : Int)) (ρ0 := ρc) (by omega) cbP.2 n1.2.1 n1.1 (by rw [frc _ _ _ _ (by decide) (by decide) (by decide), cbd.1, n1.2.2]) ((frc _ _ _ _ (by decide) (by decide) (by decide)).trans cbP.1) (fun p hp => ⟨(frc _ _ _ _ (by decide) (by decide) (by decide)).trans (htr p).1, (htr p).2⟩) (fun p hp => fun i hi => dy_e c3 hp (by omega) i (by omega)) (fun j t' => by
    have := sba j t'
    constructor <;> omega) P 0 N ρc (by omega) (by omega) (fun _ _ _ _ _ _ => rfl) (fun _ _ _ _ _ => rfl) (fun t' ht' => by
    obtain ⟨w1, w2, w3⟩ := e4 t' ht'
    rw [c2.2 _ _ _ _ (by decide) (by decide) (by decide), c2.1 _ _ _ _ (by decide), c2.1 _ _ _ _ (by decide), hνc, sI_o (by decide), sI_o (by decide)]
    have s2 : ∀ f a b i, (sI ρb 266 0 0 0 0).2 f a b i = ρb.2 f a b i := fun _ _ _ _ => rfl
    have s0 : ∀ a : Nat, (0 : Int) + sv true a = (a : Int) + sv false 0 := fun a => by
      rw [sv_0]
      unfold sv
      rw [if_pos rfl]
      omega
    rw [s2, w1, w2, w3, s0, s0, s0]
    exact ⟨rfl, rfl, rfl⟩)
  obtain ⟨μE, hμE⟩ : ∃ μE, μE = sI (sI ρe 347 0 0 0 1) 273 0 0 0 0 := ⟨_, rfl⟩
  have eM : fM_attempt_83 N N 0 ν0 = some (0, μE) := by
    refine z1.trans ?_
    show (if (9 : Int32) ≤ nI 9 then nm (sI z 266 0 0 0 1) (fun (σ1 : St) => bn1 (fM_run N (σ1.1 205 0 0 0) (σ1.1 205 0 0 0) σ1) fun σ2 => bn1 (fM_addUp N 1 σ2) fun σ3 => nm (sI σ3 266 0 0 0 0) fun (σ4 : St) => bn1 (fM_run N (σ4.1 205 0 0 0) (σ4.1 205 0 0 0) σ4) fun σ5 => bn1 (fM_addUp N (-1) σ5) fun σ6 => nm (sI σ6 347 0 0 0 1) fun (σ7 : St) => nm (sI σ7 273 0 0 0 0) fun (σ8 : St) => some (0, σ8)) else _) = _
    unfold fM_addUp
    rw [if_pos (show (9 : Int32) ≤ nI 9 by decide), nmx, ← hνa, fa 205 _ _ _ (by decide) (by decide) (by decide), cbd.1, a1, bn1_e, show fM_addUp_2 N N 1 0 ρa = some ρb from e1, bn1_e, nmx, ← hνc, fc 205 _ _ _ (by decide) (by decide) (by decide), cbd.1, c1, bn1_e, show fM_addUp_2 N N (-1) 0 ρc = some ρe from g1, bn1_e, nmx, nmx, hμE]
  -- the class
  obtain ⟨σ1, x1, x2, x3, x4, x5, x6⟩ := asOfToday_e hN B
  have TX : TxX (TCn TD (T + 1)) (frM νb) (toM νb) (T + 1) τ := by
    have X := txv.x
    rw [frv, tov, vT] at X
    exact X.tn (Nat.le_refl _)
  have fr1 : FrT τ σ1 := fun f a b i q1 q2 => x6.1 f a b i (fun q => by
    rcases q.1 with q | q | q
    · omega
    · rw [q] at q2; exact q2 (by decide)
    · rw [q] at q2; exact q2 (by decide))
  obtain ⟨σs, s1, s2, s3, s4, s5, s6⟩ := settle_v (N := N) (v := 1) (n := T + 1) (on := t) (by omega) (by omega) (TX.mv (fun f a b i q1 q2 => fr1 f a b i (by omega) (by omega))) x5.v1 (by
    have : (νb.1 219 0 0 0).toNatClampNeg = T := bT
    omega)
  have frs : FrT τ σs := fun f a b i q1 q2 => (s2.1 f a b i (fun q => by
    rcases q.1 with q | q | q
    · omega
    · rw [q] at q2; exact q2 (by decide)
    · rw [q] at q2; exact q2 (by decide))).trans (fr1 f a b i q1 q2)
  have o0 : ∀ f b i, f < 300 → σs.1 f 0 b i = σ1.1 f 0 b i := fun f b i _ => s2.1 _ _ _ _ (fun q => absurd q.2 (by decide))
  have o1 : ∀ f b i, σ1.1 f 1 b i = τ.1 f 1 b i := fun f b i => x6.1 _ _ _ _ (fun q => absurd q.2 (by decide))
  obtain ⟨σf, f1, f2, -, f4⟩ := fillMore (N := N) 27 0 N σs (by omega) (by omega)
  have frf : FrT τ σf := fun f a b i q1 q2 => (f2 f a b i q1).trans (frs f a b i q1 q2)
  have x205 : νb.1 205 0 0 0 = nI t := cbd.1
  have e162 : σ1.1 162 0 0 0 = nI t := ((fr1.eq B.eq).at (g := 205) 0 (by decide)).trans x205
  have e159 : σ1.1 159 0 0 0 = nI T := ((fr1.eq B.eq).at (g := 219) 0 (by decide)).trans cbT.1
  obtain ⟨σ', k1, k2, k3, k4, k5, k6⟩ := cmp32 (N := N) (P := P) (t := t) (T := T) (n := n) (TC := TD) (tp := tp) (σ0 := τ) (μ := νb) (ρ1 := ρa) (ρ2 := ρc) (tr := tr) hN B hP bd bT hn TX (srm ρa (fun f a b i q => fra f a b i (by omega) (by omega) (by omega))) a3' (srm ρc (fun f a b i q => frc f a b i (by omega) (by omega) (by omega))) c3 (fun p _ => htr p) P 0 N σf (by omega) (by omega) frf (fun v hv => by
    rw [f2 _ _ _ _ (by decide)]
    rcases (show v = 0 ∨ v = 1 by omega) with rfl | rfl
    · rw [o0 _ _ _ (by decide), x2, bd]
    · exact s3) (fun v hv => by
    rcases (show v = 0 ∨ v = 1 by omega) with rfl | rfl
    · exact x3.mw (fun f b i q => (f2 _ _ _ _ (by omega)).trans (o0 _ _ _ (by omega))) (fun p => (f2 _ _ _ _ (by decide)).trans (o0 _ _ _ (by decide)))
    · exact s4.mw (fun f b i q => f2 _ _ _ _ (by omega)) (fun p => f2 _ _ _ _ (by decide))) (by
    rw [← bT]
    exact x4.mv (fun f b i q => (f2 _ _ _ _ (by omega)).trans (o0 _ _ _ (by omega))) (fun p _ => (f2 _ _ _ _ (by decide)).trans (o0 _ _ _ (by decide)))) (s5.mv (fun f b i q => f2 _ _ _ _ (by omega)) (fun p _ => f2 _ _ _ _ (by decide))) (fun v q hv q1 q2 => by
    rw [f2 _ _ _ _ (by decide)]
    rcases (show v = 0 ∨ v = 1 by omega) with rfl | rfl
    · rw [o0 _ _ _ (by decide)]
      exact x5.ch.s 0 q (by decide) (by omega) q2
    · rcases s6 q q2 with y | y
      · exact y
      · rw [y]
        exact x5.ch.s 1 q (by decide) (by omega) q2) (fun t' j q1 q2 => by
    rw [f4 _ (by omega) (by omega)]
    rfl)
  obtain ⟨σE, hσE⟩ : ∃ σE, σE = sI (sI σ' 62 1 0 0 (-1)) 161 0 0 0 1 := ⟨_, rfl⟩
  have eX : fX_compareWithTry N τ = some σE := by
    unfold fX_compareWithTry fArrays_fill_X_more
    rw [x1, bnd_e, e162, e159, nI_1, s1, bn1_e, show fArrays_fill_X_more_5 N N 0 0 27 σs = some σf from f1, bn1_e, hσE]
    exact k1
  rw [x159, chk_t (inb_n (by omega) (by decide)), nI_clamp (by omega), x162]
  unfold fAct_reign
  rw [nmx, nmx, nmx, bn1_e, ← hτ, eX, bn1_e]
  rw [m219, chk_t (inb_n (by omega) (by decide)), nI_clamp (by omega), nmx, sI_o (by decide), m219, chk_t (inb_n (by omega) (by decide)), nI_clamp (by omega), nmx, ← hν0, eM]
  -- what stands afterwards
  have FE : ∀ f a b i, ¬ (260 ≤ f ∧ f ≤ 308) → f ≠ 347 → f ≠ 349 → f ≠ 350 → μE.1 f a b i = νb.1 f a b i := fun f a b i q1 q2 q3 q4 => by
    rw [hμE, sI_o (by omega), sI_o q2, g2 f a b i q3 q4, frc f a b i q1 q3 q4]
  have FE266 : ∀ a b i, μE.1 266 a b i = νb.1 266 a b i := fun a b i => by
    rw [hμE, sI_o (by decide), sI_o (by decide), g2 _ _ _ _ (by decide) (by decide), c2.1 _ _ _ _ (by decide), hνc, sI_1]
    by_cases q : a = 0 ∧ b = 0 ∧ i = 0
    · obtain ⟨rfl, rfl, rfl⟩ := q
      rw [if_pos ⟨rfl, rfl, rfl, rfl⟩]
      exact B.tx.y.symm
    · rw [if_neg (fun y => q y.2), e2 _ _ _ _ (by decide) (by decide), a2'.1 _ _ _ _ (by decide), hνa, sI_1, if_neg (fun y => q y.2), z2 _ _ _ _ (by decide) (by decide), yb _ _ _ _ (by decide)]
  have FJ : ∀ f a b i, f ≠ 348 → f ≠ 267 → f ≠ 300 → f ≠ 308 → μE.2 f a b i = νb.2 f a b i := fun f a b i q1 q2 q3 q4 => by
    have h1 : μE.2 f a b i = ρe.2 f a b i := by rw [hμE]; rfl
    have h2 : νc.2 f a b i = ρb.2 f a b i := by rw [hνc]; rfl
    have h3 : νa.2 f a b i = z.2 f a b i := by rw [hνa]; rfl
    have h4 : νb.2 f a b i = ν0.2 f a b i := by rw [hνb]; rfl
    rw [h1, g3 f a b i q1, c2.2 f a b i q2 q3 q4, h2, e3 f a b i q1, a2'.2 f a b i q2 q3 q4, h3, z3 f a b i q1, h4]
  have E158 : ∀ i, σE.1 158 0 0 i = σ'.1 158 0 0 i := fun i => by rw [hσE, sI_o (by decide), sI_o (by decide)]
  have E161 : ∀ i, i ≠ 0 → σE.1 161 0 0 i = τ.1 161 0 0 i := fun i q => by rw [hσE, sI_i q, sI_o (by decide), k2 _ _ _ _ (by decide) (by decide)]
  have EX : ∀ f a b i, f ≠ 158 → f ≠ 161 → ¬ ((62 ≤ f ∧ f ≤ 94) ∨ (144 ≤ f ∧ f ≤ 147)) → σE.1 f a b i = τ.1 f a b i := fun f a b i q1 q2 q3 => by rw [hσE, sI_o q2, sI_o (by omega), k2 f a b i q1 q3]
  obtain ⟨γ, hγ⟩ : ∃ γ : St, γ = ((fun f a b i => if f = 158 ∨ f = 161 then σE.1 f a b i else τ.1 f a b i), τ.2) := ⟨_, rfl⟩
  obtain ⟨δ, hδ⟩ : ∃ δ : St, δ = ((fun f a b i => if f = 347 ∨ f = 349 ∨ f = 350 then μE.1 f a b i else νb.1 f a b i), fun f a b i => if f = 348 then μE.2 f a b i else νb.2 f a b i) := ⟨_, rfl⟩
  have γ1 : ∀ f a b i, (f = 158 ∨ f = 161) → γ.1 f a b i = σE.1 f a b i := fun f a b i q => by rw [hγ]; exact if_pos q
  have γ2 : ∀ f a b i, ¬ (f = 158 ∨ f = 161) → γ.1 f a b i = τ.1 f a b i := fun f a b i q => by rw [hγ]; exact if_neg q
  have δ1 : ∀ f a b i, (f = 347 ∨ f = 349 ∨ f = 350) → δ.1 f a b i = μE.1 f a b i := fun f a b i q => by rw [hδ]; exact if_pos q
  have δ2 : ∀ f a b i, ¬ (f = 347 ∨ f = 349 ∨ f = 350) → δ.1 f a b i = νb.1 f a b i := fun f a b i q => by rw [hδ]; exact if_neg q
  have δ3 : ∀ a b i, δ.2 348 a b i = μE.2 348 a b i := fun a b i => by
    rw [hδ]
    show (if 348 = 348 then μE.2 348 a b i else νb.2 348 a b i) = _
    exact if_pos rfl
  have δ4 : ∀ f a b i, f ≠ 348 → δ.2 f a b i = νb.2 f a b i := fun f a b i q => by rw [hδ]; exact if_neg q
  have E347 : ∀ i, i ≠ 0 → μE.1 347 0 0 i = νb.1 347 0 0 i := fun i q => by rw [hμE, sI_o (by decide), sI_i q, g2 _ _ _ _ (by decide) (by decide), frc _ _ _ _ (by decide) (by decide) (by decide)]
  have E3470 : μE.1 347 0 0 0 = 1 := by rw [hμE, sI_o (by decide), sI_s]
  have Bt : InvB TD tp γ δ := by
    refine B.tr (fun f a b i q1 q2 => γ2 _ _ _ _ (by omega)) (fun f a b i q1 q2 q3 => δ2 _ _ _ _ (by omega)) (fun f a b i q => δ4 _ _ _ _ q) (fun i => ?_) (fun i => ?_) (fun t' ht' => ?_)
    · rw [γ1 _ _ _ _ (Or.inr rfl), δ1 _ _ _ _ (Or.inl rfl)]
      by_cases q : i = 0
      · rw [q, E3470, hσE, sI_s]
      · rw [E161 i q, E347 i q]
        exact B.eq.at i (by decide)
    · rw [δ1 _ _ _ _ (Or.inl rfl)]
      by_cases q : i = 0
      · rw [q, E3470]
        decide
      · rw [E347 i q]
        exact B.rg.at i (by decide)
    · obtain ⟨w1, w2, w3⟩ := g4 t' ht'
      have v0 := k6 t' 0 ht' (by decide)
      have v1 := k6 t' 1 ht' (by decide)
      have v2 := k6 t' 2 ht' (by decide)
      have y0 := sba 0 t'
      have y1 := sbc 0 t'
      have sf : ∀ a : Nat, sv false a = -(a : Int) := fun a => if_neg (by decide)
      rw [sf] at w1 w2 w3
      have m1 : μE.2 348 0 0 t' = ρe.2 348 0 0 t' := by rw [hμE]; rfl
      have m2 : ∀ f i, f ≠ 347 → f ≠ 273 → μE.1 f 0 0 i = ρe.1 f 0 0 i := fun f i q1 q2 => by rw [hμE, sI_o q2, sI_o q1]
      rw [γ1 _ _ _ _ (Or.inl rfl), γ1 _ _ _ _ (Or.inl rfl), γ1 _ _ _ _ (Or.inl rfl), δ3, δ1 _ _ _ _ (Or.inr (Or.inl rfl)), δ1 _ _ _ _ (Or.inr (Or.inr rfl)), E158, E158, E158, m1, m2 _ _ (by decide) (by decide), m2 _ _ (by decide) (by decide)]
      refine ⟨?_, ?_, ?_⟩
      · apply Int32.toInt_inj.mp
        have w1' : (ρe.2 348 0 0 t').toInt = (smT tr (tA ρa n 0) t' P : Int) + -(smT tr (tA ρc n 0) t' P : Int) := w1
        rw [Int64.toInt_toInt32, w1']
        refine Eq.trans v0 ?_
        rw [Int.bmod_eq_of_le (by omega) (by omega)]
        omega
      · apply Int32.toInt_inj.mp
        rw [w2]
        exact v1
      · apply Int32.toInt_inj.mp
        rw [w3]
        exact v2
  have saD : SmA νb δ := SmA.mk (fun f a b i q => δ2 f a b i (by
    have w1 : ∀ f ∈ LO ++ LB ++ LT, ¬ (f = 347 ∨ f = 349 ∨ f = 350) := by decide
    rcases q with q | q | q | q | q
    · exact w1 f (List.mem_append_left _ (List.mem_append_left _ q))
    · exact w1 f (List.mem_append_left _ (List.mem_append_right _ q))
    · exact w1 f (List.mem_append_right _ q)
    · omega
    · omega))
  have V0 : VwI 0 TD σE δ := by
    have V : VwI 0 TD σ' νb := ⟨k3 0 (by decide), Or.inr ⟨T, by have : (νb.1 219 0 0 0).toNatClampNeg = T := bT; omega, k4⟩⟩
    have V' : VwI 0 TD σE νb := V.mv (fun f b i q => by rw [hσE, sI_o (by omega), sI_1, if_neg (fun y => absurd y.2.1 (by decide))]) (fun p _ => by rw [hσE, sI_o (by decide), sI_o (by decide)])
    exact V'.sa saD (by unfold tdN; rw [δ2 _ _ _ _ (by decide)]) (by unfold nT; rw [δ2 _ _ _ _ (by decide)]; exact Nat.le_refl _) (fun _ _ => rfl) (fun t _ => ⟨δ2 _ _ _ _ (by decide), δ2 _ _ _ _ (by decide)⟩)
  have V1 : VwI 1 TD σE δ := by
    refine ⟨(k3 1 (by decide)).mw (fun f b i q => by rw [hσE, sI_o (by omega), sI_o (by omega)]) (fun p => by rw [hσE, sI_o (by decide), sI_o (by decide)]), Or.inl ?_⟩
    rw [hσE, sI_o (by decide), sI_s]
  have Bx : InvB TD tp σE δ := by
    refine Bt.xv (fun f a b i q1 q2 => ?_) V0 V1 (fun v q hv q1 q2 => ?_)
    · by_cases q : f = 158 ∨ f = 161
      · exact (γ1 f a b i q).symm
      · rw [γ2 f a b i q]
        exact EX f a b i (fun y => q (Or.inl y)) (fun y => q (Or.inr y)) (by omega)
    · have : nP δ = P := by
        rw [← hP]
        unfold nP
        rw [δ2 _ _ _ _ (by decide)]
      rw [hσE, sI_o (by decide), sI_o (by decide)]
      exact k5 v q hv (by omega) q2
  have isE : μE.1 273 0 0 0 = 0 := by rw [hμE, sI_s]
  refine StQ.ok ⟨TD, tp, Bx.mr ⟨fun f a b i q1 q2 => ?_, fun f a b i q1 q2 q3 => ?_⟩ (fun q => absurd isE q)⟩ (by rw [FE _ _ _ _ (by decide) (by decide) (by decide) (by decide)]; exact b204) rfl
  · by_cases q : f = 347 ∨ f = 349 ∨ f = 350
    · exact (δ1 f a b i q).symm
    · rw [δ2 f a b i q]
      by_cases y : f = 266
      · rw [y]
        exact FE266 a b i
      · exact FE f a b i (fun x => q1 ⟨x, y⟩) (by omega) (by omega) (by omega)
  · by_cases q : f = 348
    · rw [q]
      exact (δ3 a b i).symm
    · rw [δ4 f a b i q]
      exact FJ f a b i q q1 q2 q3
