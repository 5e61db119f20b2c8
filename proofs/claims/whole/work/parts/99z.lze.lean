/-! asking, on both sides -/
theorem InvB.xv {TC : Nat → List Cl} {tp : Nat → Nat} {σ σ' μ : St} (h : InvB TC tp σ μ) (hm : ∀ f a b i, ¬ (62 ≤ f ∧ f ≤ 94) → ¬ (144 ≤ f ∧ f ≤ 147) → σ'.1 f a b i = σ.1 f a b i) (h0 : VwI 0 TC σ' μ) (h1 : VwI 1 TC σ' μ) (hs : ∀ v p, v < 2 → nP μ ≤ p → p < 20 → σ'.1 82 v p 0 = -1) : InvB TC tp σ' μ := by
  refine ⟨fun q hq i => ?_, h.rg, fun i hi => ?_, ⟨h.tx.x.mv (fun f a b i q1 q2 => hm f a b i (by omega) (by omega)), h.tx.m, fun t ht => (hm _ _ _ _ (by decide) (by decide)).trans (h.tx.o t ht), h.tx.l, h.tx.a, h.tx.d, h.tx.y⟩, h.ev, h0, h1, ⟨fun p hp => ?_, hs⟩, h.rn, ⟨?_, fun p hp => ?_, ?_, ?_, fun k hk => ?_⟩, ⟨fun p hp => ?_, fun i hi => ?_, fun t ht => ?_, by rw [hm _ _ _ _ (by decide) (by decide)]; exact h.ot.p⟩⟩
  · have h2 : eqF.all (fun q => decide (¬ (62 ≤ q.1 ∧ q.1 ≤ 94) ∧ ¬ (144 ≤ q.1 ∧ q.1 ≤ 147))) = true := by decide
    have h3 := of_decide_eq_true (List.all_eq_true.mp h2 q hq)
    rw [hm _ _ _ _ h3.1 h3.2]
    exact h.eq q hq i
  · obtain ⟨a1, a2, a3⟩ := h.tp i hi
    exact ⟨a1, (hm _ _ _ _ (by decide) (by decide)).trans a2, a3⟩
  · obtain ⟨c, c1, c2⟩ := h.ch.c p hp
    exact ⟨c, (hm _ _ _ _ (by decide) (by decide)).trans c1, c2⟩
  · obtain ⟨w, w1, w2⟩ := h.fd.w
    exact ⟨w, (hm _ _ _ _ (by decide) (by decide)).trans w1, w2⟩
  · obtain ⟨a1, a2, a3⟩ := h.fd.r p hp
    exact ⟨(hm _ _ _ _ (by decide) (by decide)).trans a1, (hm _ _ _ _ (by decide) (by decide)).trans a2, a3⟩
  · exact ⟨(hm _ _ _ _ (by decide) (by decide)).trans h.fd.g.1, (hm _ _ _ _ (by decide) (by decide)).trans h.fd.g.2⟩
  · rw [hm _ _ _ _ (by decide) (by decide)]
    exact h.fd.f
  · rw [hm _ _ _ _ (by decide) (by decide)]
    exact h.fd.l k hk
  · rw [hm _ _ _ _ (by decide) (by decide)]
    exact h.ot.s p hp
  · rw [hm _ _ _ _ (by decide) (by decide)]
    exact h.ot.b i hi
  · rw [hm _ _ _ _ (by decide) (by decide), hm _ _ _ _ (by decide) (by decide), hm _ _ _ _ (by decide) (by decide)]
    exact h.ot.t t ht
/-- the reference's code and run alone -/
def RnC (μ μ' : St) : Prop := (∀ f a b i, ¬ ((260 ≤ f ∧ f ≤ 308) ∧ f ≠ 266) → f ≠ 204 → μ'.1 f a b i = μ.1 f a b i) ∧ (∀ f a b i, f ≠ 267 → f ≠ 300 → f ≠ 308 → μ'.2 f a b i = μ.2 f a b i)
theorem RnX.c {μ μ' : St} (h : RnX μ μ') : RnC μ μ' := ⟨fun f a b i q _ => h.1 f a b i q, h.2⟩
theorem RnC.s {μ : St} {x : Int32} : RnC μ (sI μ 204 0 0 0 x) := ⟨fun f a b i _ q => sI_o q, fun _ _ _ _ _ _ _ => rfl⟩
theorem RnC.tr {μ μ' μ'' : St} (h : RnC μ μ') (h2 : RnC μ' μ'') : RnC μ μ'' := ⟨fun f a b i q q2 => (h2.1 f a b i q q2).trans (h.1 f a b i q q2), fun f a b i q q2 q3 => (h2.2 f a b i q q2 q3).trans (h.2 f a b i q q2 q3)⟩
theorem RnC.at {μ μ' : St} (h : RnC μ μ') {f i : Nat} (hf : (f < 260 ∨ 308 < f ∨ f = 266) ∧ f ≠ 204) : μ'.1 f 0 0 i = μ.1 f 0 0 i := h.1 f 0 0 i (by omega) hf.2
theorem RnC.sa {μ μ' : St} (h : RnC μ μ') : SmA μ μ' := SmA.mk (fun f a b i q => by
  have : ∀ S : List Nat, (S.all (fun f => decide ((f < 260 ∨ 308 < f) ∧ f ≠ 204))) = true → f ∈ S → (f < 260 ∨ 308 < f) ∧ f ≠ 204 := fun S hS hf => of_decide_eq_true (List.all_eq_true.mp hS f hf)
  have : (f < 260 ∨ 308 < f) ∧ f ≠ 204 := by
    rcases q with q | q | q | q | q
    · exact this LO (by decide) q
    · exact this LB (by decide) q
    · exact this LT (by decide) q
    · omega
    · omega
  exact h.1 f a b i (by omega) this.2)
theorem InvB.mr {TC : Nat → List Cl} {tp : Nat → Nat} {σ μ μ' : St} (h : InvB TC tp σ μ) (hx : RnC μ μ') (hr : RunI (nP μ) TC μ') : InvB TC tp σ μ' := by
  have sa := hx.sa
  have eT : nT μ' = nT μ := by unfold nT; rw [hx.at (by decide)]
  have eP : nP μ' = nP μ := by unfold nP; rw [hx.at (by decide)]
  have ed : tdN μ' = tdN μ := by unfold tdN; rw [hx.at (by decide)]
  have er : rwN μ' = rwN μ := by unfold rwN; rw [hx.at (by decide)]
  have eq : rtN μ' = rtN μ := by unfold rtN; rw [hx.at (by decide)]
  have eo : ofN μ' = ofN μ := by unfold ofN; rw [hx.at (by decide)]
  have ev : vcN μ' = vcN μ := by unfold vcN; rw [hx.at (by decide)]
  have ef : ocN μ' = ocN μ := by unfold ocN; rw [hx.at (by decide)]
  have ec : csN μ' = csN μ := by unfold csN; rw [hx.at (by decide)]
  have fr : frM μ' = frM μ := funext fun t => by unfold frM; rw [hx.at (by decide)]
  have to : toM μ' = toM μ := funext fun t => by unfold toM; rw [hx.at (by decide)]
  have eb : bkN μ' = bkN μ := by
    unfold bkN
    rw [sa.e.cn]
    exact cnt_cg _ (fun e _ => by rw [hx.at (by decide)])
  refine ⟨fun q hq i => ?_, fun q hq i => ?_, fun i hi => ?_, ⟨?_, ?_, fun t ht => ?_, fun t ht => ?_, fun t t' q1 q2 => ?_, fun k hk => ?_, ?_⟩, ⟨?_, fun e he => ?_, fun c hc => ?_, fun o ho => ?_, fun p hp => ?_, fun v hv => ?_, fun o ho => ?_, fun r hr => ?_, fun o ho => ?_, ?_, fun r hr => ?_, fun o ho => ?_⟩, ?_, ?_, ⟨fun p hp => ?_, fun v p hv q1 q2 => ?_⟩, ?_, ⟨?_, fun p hp => ?_, ?_, ?_, fun k hk => ?_⟩, ⟨fun p hp => ?_, fun i hi => ?_, fun t ht => ?_, by rw [hx.at (by decide)]; exact h.ot.p⟩⟩
  · have h2 : eqF.all (fun q => decide ((q.2 < 260 ∨ 308 < q.2 ∨ q.2 = 266) ∧ q.2 ≠ 204)) = true := by decide
    rw [hx.at (of_decide_eq_true (List.all_eq_true.mp h2 q hq))]
    exact h.eq q hq i
  · have h2 : rngF.all (fun q => decide ((q.1 < 260 ∨ 308 < q.1 ∨ q.1 = 266) ∧ q.1 ≠ 204)) = true := by decide
    rw [hx.at (of_decide_eq_true (List.all_eq_true.mp h2 q hq))]
    exact h.rg q hq i
  · obtain ⟨a1, a2, a3⟩ := h.tp i hi
    exact ⟨a1, a2, (hx.at (by decide)).trans a3⟩
  · rw [fr, to, eT]
    exact h.tx.x
  · rw [eT]
    exact h.tx.m.mv (fun f i q1 q2 => hx.at (by omega))
  · rw [hx.at (by decide)]
    exact h.tx.o t (by omega)
  · rw [hx.at (by decide), hx.at (by decide)]
    exact h.tx.l t (by omega)
  · rw [hx.at (by decide), hx.at (by decide)]
    exact h.tx.a t t' q1 (by omega)
  · rw [hx.at (by decide)]
    exact h.tx.d k hk
  · rw [hx.at (by decide)]
    exact h.tx.y
  · intro e he
    rw [sa.e.cn] at he
    have := h.ev.e e he
    rw [sa.e.pe, sa.e.kd, sa.e.nu, sa.e.dy, hx.at (by decide), hx.at (by decide), hx.at (by decide), hx.at (by decide)]
    exact this
  · rw [sa.e.pe, eP]
    exact h.ev.p e (by rw [← sa.e.cn]; exact he)
  · rw [hx.at (by decide), sa.e.cn]
    exact h.ev.c c (by omega)
  · rw [hx.at (by decide), ev]
    exact h.ev.ov o (by omega)
  · rw [hx.at (by decide), ef]
    exact h.ev.po p (by omega)
  · rw [hx.at (by decide), ef]
    exact h.ev.vo v (by omega)
  · rw [hx.at (by decide), hx.at (by decide)]
    exact h.ev.so o ho
  · rw [hx.at (by decide), hx.at (by decide)]
    exact h.ev.br r (by omega)
  · rw [hx.at (by decide)]
    exact h.ev.oc o (by omega)
  · rw [hx.at (by decide), hx.at (by decide)]
    exact h.ev.lk
  · rw [hx.at (by decide), hx.at (by decide)]
    exact h.ev.bt r (by omega)
  · rw [hx.at (by decide), eP]
    exact h.ev.op o (by omega)
  · exact h.v0.sa sa ed (by omega) (fun _ _ => rfl) (fun t _ => ⟨by rw [fr], by rw [to]⟩)
  · exact h.v1.sa sa ed (by omega) (fun _ _ => rfl) (fun t _ => ⟨by rw [fr], by rw [to]⟩)
  · rw [er, eq, sa.e.cn, eb]
    exact h.ch.c p hp
  · exact h.ch.s v p hv (by omega) q2
  · rw [eP]
    exact hr
  · rw [ed, hx.at (by decide), hx.2 _ _ _ _ (by decide) (by decide) (by decide)]
    exact h.fd.w
  · rw [hx.2 _ _ _ _ (by decide) (by decide) (by decide), hx.2 _ _ _ _ (by decide) (by decide) (by decide)]
    exact h.fd.r p hp
  · rw [hx.2 _ _ _ _ (by decide) (by decide) (by decide), hx.2 _ _ _ _ (by decide) (by decide) (by decide)]
    exact h.fd.g
  · have e9 : (fun p => (μ'.2 309 0 0 p).toInt) = fun p => (μ.2 309 0 0 p).toInt := funext fun p => by rw [hx.2 _ _ _ _ (by decide) (by decide) (by decide)]
    rw [e9, hx.2 _ _ _ _ (by decide) (by decide) (by decide), hx.at (by decide)]
    exact h.fd.f
  · rw [hx.2 _ _ _ _ (by decide) (by decide) (by decide)]
    exact h.fd.l k hk
  · rw [hx.at (by decide), hx.at (by decide)]
    exact h.ot.s p hp
  · rw [hx.at (by decide)]
    exact h.ot.b i (by omega)
  · rw [hx.2 _ _ _ _ (by decide) (by decide) (by decide), hx.at (by decide), hx.at (by decide)]
    exact h.ot.t t ht
theorem RunI.mv {P : Nat} {TC : Nat → List Cl} {μ μ' : St} (h : RunI P TC μ) (hs : ∀ k, SmR P k μ μ') (h1 : ∀ f i, f = 219 ∨ f = 237 ∨ f = 266 ∨ f = 260 ∨ f = 261 ∨ (273 ≤ f ∧ f ≤ 307 ∧ f ≠ 278) → μ'.1 f 0 0 i = μ.1 f 0 0 i) (hj : ∀ f i, f = 300 ∨ f = 308 → μ'.2 f 0 0 i = μ.2 f 0 0 i) : RunI P TC μ' := by
  intro hr
  rw [h1 _ _ (by decide)] at hr
  obtain ⟨k, n, k1, k2, k3, ⟨n0, k4, k4'⟩, k5⟩ := h hr
  refine ⟨k, n, (h1 _ _ (by decide)).trans k1, k2, k3, ⟨n0, (h1 _ _ (by decide)).trans k4, ?_⟩, k5.mv k3 (hs k) (fun f i q => h1 f i (by omega)) hj⟩
  have e1 : ∀ t, μ'.1 237 0 0 t = μ.1 237 0 0 t := fun t => h1 _ _ (by decide)
  rw [h1 266 _ (by decide)]
  simp only [e1]
  exact k4'
theorem SmA.sr {P k : Nat} {μ μ' : St} (hP : P ≤ 20) (h : ∀ f a b i, (f ∈ LO ∨ f ∈ LB ∨ f ∈ LT ∨ f = 212 ∨ f = 214) → μ'.1 f a b i = μ.1 f a b i) : SmR P k μ μ' :=
  ⟨(SmA.mk h).e, fun p hp => (SmA.mk h).v p k (by omega), fun f a b i q => h f a b i (Or.inr (Or.inl q)), fun f a b i q => h f a b i (Or.inr (Or.inr (Or.inl q))), fun p _ => ⟨h _ _ _ _ (by decide), h _ _ _ _ (by decide), h _ _ _ _ (by decide)⟩⟩
theorem InvB.code {TC : Nat → List Cl} {tp : Nat → Nat} {σ μ : St} {x : Int32} (h : InvB TC tp σ μ) : InvB TC tp σ (sI μ 204 0 0 0 x) := by
  refine h.mr RnC.s (h.rn.mv (fun k => SmA.sr h.rg.cns.P.2 (fun f a b i q => sI_o ?_)) (fun f i q => sI_o (by omega)) (fun _ _ _ => rfl))
  intro e
  rw [e] at q
  exact absurd q (by decide)
/-- the day as known on which all is told -/
def kD (μ : St) : Nat := if μ.1 206 0 0 0 = -1 then tdN μ else (μ.1 206 0 0 0).toNatClampNeg
theorem kD_e {N : Nat} {TC : Nat → List Cl} {tp : Nat → Nat} {σ μ : St} (h : InvB TC tp σ μ) : fX_dayKnown N σ = some (nI (kD μ)) ∧ (∀ μ', RnC μ μ' → fM_theDay N μ' = some (nI (kD μ))) ∧ 312 ≤ kD μ ∧ kD μ ≤ tdN μ := by
  have c := h.rg.cns
  have e1 : σ.1 163 0 0 0 = μ.1 206 0 0 0 := h.eq.at (f := 163) 0 (by decide)
  have e2 : σ.1 162 0 0 0 = nI (tdN μ) := (h.eq.at (f := 162) 0 (by decide)).trans c.d.1
  unfold fX_dayKnown fM_theDay kD
  rw [e1, e2]
  by_cases z : μ.1 206 0 0 0 = -1
  · rw [if_pos z, if_pos z]
    refine ⟨rfl, fun μ' hx => ?_, c.d.2.1, Nat.le_refl _⟩
    rw [show μ'.1 206 0 0 0 = μ.1 206 0 0 0 from hx.at (by decide), if_pos z, show μ'.1 205 0 0 0 = μ.1 205 0 0 0 from hx.at (by decide), c.d.1]
  · rw [if_neg z, if_neg z]
    rcases h.ev.lk with q | ⟨q1, q2⟩
    · exact absurd q z
    · have e3 := nI_self (x := μ.1 206 0 0 0) (by omega)
      have hl : (μ.1 206 0 0 0).toInt = ((μ.1 206 0 0 0).toNatClampNeg : Int) := by
        have : (μ.1 206 0 0 0).toNatClampNeg = (μ.1 206 0 0 0).toInt.toNat := rfl
        omega
      have ht : (μ.1 205 0 0 0).toInt = (tdN μ : Int) := by
        have : tdN μ = (μ.1 205 0 0 0).toInt.toNat := rfl
        omega
      refine ⟨by rw [← e3], fun μ' hx => ?_, by omega, by omega⟩
      rw [show μ'.1 206 0 0 0 = μ.1 206 0 0 0 from hx.at (by decide), if_neg z, ← e3]
theorem settle_I {N v n on : Nat} {TC : Nat → List Cl} {tp : Nat → Nat} {σ μ : St} (hN : 4000 ≤ N) (h : InvB TC tp σ μ) (hv : v < 2) (hn : n ≤ nT μ) : ∃ σ', fView_settle N v (nI on) (nI n) σ = some σ' ∧ SvX v σ σ' ∧ σ'.1 147 v 0 0 = nI on ∧ PrV v σ' ∧ RdV v n TC σ' μ ∧ InvB TC tp σ' μ := by
  have c := h.rg.cns
  have hT := c.T.2
  have hV : VwI v TC σ μ := by
    rcases (show v = 0 ∨ v = 1 by omega) with rfl | rfl
    · exact h.v0
    · exact h.v1
  obtain ⟨σ', a1, a2, a3, a4, a5, a6⟩ := settle_v (N := N) (on := on) (by omega) (by omega) (h.tx.x.tn hn) hV (by have : (μ.1 219 0 0 0).toNatClampNeg = nT μ := rfl; omega)
  have hV' : VwI v TC σ' μ := ⟨a4, Or.inr ⟨n, hn, a5⟩⟩
  refine ⟨σ', a1, a2, a3, a4, a5, h.xv (fun f a b i q1 q2 => a2.1 f a b i (fun q => ?_)) ?_ ?_ (fun w p hw q1 q2 => ?_)⟩
  · rcases q.1 with z | z | z
    · omega
    · rw [z] at q1
      exact q1 (by decide)
    · rw [z] at q2
      exact q2 (by decide)
  · rcases (show v = 0 ∨ v = 1 by omega) with rfl | rfl
    · exact hV'
    · exact a2.oth (by decide) h.v0
  · rcases (show v = 0 ∨ v = 1 by omega) with rfl | rfl
    · exact a2.oth (by decide) h.v1
    · exact hV'
  · by_cases z : w = v
    · rw [z]
      rcases a6 p q2 with y | y
      · exact y
      · exact y.trans (h.ch.s v p hv q1 q2)
    · exact (a2.1 _ _ _ _ (fun q => z q.2)).trans (h.ch.s w p hw q1 q2)
theorem life_I {N v p n k : Nat} {TC : Nat → List Cl} {tp : Nat → Nat} {σ μ : St} (hN : 4000 ≤ N) (h : InvB TC tp σ μ) (hv : v < 2) (hn : n ≤ nT μ) (hp : p < nP μ) (hk1 : 312 ≤ k) (hk2 : k ≤ tdN μ) (hk3 : v = 0 → k = tdN μ) (hon : σ.1 147 v 0 0 = nI k) (hP : PrV v σ) (hV : RdV v n TC σ μ) : ∃ σ', fView_lifeOf N v (nI p) σ = some ((v, p), σ') ∧ WfX v p σ σ' ∧ LfOK v p k (ENM μ TC p n k) μ (evM μ p k) σ' ∧ PrV v σ' ∧ RdV v n TC σ' μ ∧ InvB TC tp σ' μ := by
  have c := h.rg.cns
  have hT := c.T.2
  have hP2 := c.P.2
  obtain ⟨σ', a1, a2, a3, a4, a5⟩ := life_v (N := N) (p := p) (by omega) h.eq h.rg h.ev.e (by omega) hk1 hk2 hk3 hon (h.tx.x.tn hn) (by omega) hP hV
  have hV' : VwI v TC σ' μ := ⟨a4, Or.inr ⟨n, hn, a5⟩⟩
  refine ⟨σ', a1, a2, a3, a4, a5, h.xv (fun f a b i q1 q2 => a2.1 f a b i (fun q => q1 (by omega)) (fun q => q2 (by omega))) ?_ ?_ (fun w q hw q1 q2 => ?_)⟩
  · rcases (show v = 0 ∨ v = 1 by omega) with rfl | rfl
    · exact hV'
    · exact a2.oth (by decide) h.v0
  · rcases (show v = 0 ∨ v = 1 by omega) with rfl | rfl
    · exact a2.oth (by decide) h.v1
    · exact hV'
  · exact (a2.1 _ _ _ _ (fun z => by have := z.2.2.2; omega) (fun z => by have := z.1; have := z.2.1; omega)).trans (h.ch.s w q hw q1 q2)
theorem know_I {N n k : Nat} {TC : Nat → List Cl} {tp : Nat → Nat} {σ μ : St} (hN : 4000 ≤ N) (h : InvB TC tp σ μ) (hk1 : 312 ≤ k) (hk2 : k < 936) (hn : n ≤ nT μ) (htk : takes μ (nI k) n) : ∃ μ', fM_know N (nI k) μ = some μ' ∧ RnX μ μ' ∧ RunOK (nP μ) n k TC μ' ∧ InvB TC tp σ μ' := by
  obtain ⟨μ', a1, a2, a3, a4, a5, a6⟩ := know_M (h.rh hN hk1 hk2 hn htk) h.rn
  exact ⟨μ', a1, a2, a3, h.mr a2.c a6⟩
