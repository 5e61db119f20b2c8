/-! more plain calls -/
theorem EvJ.mv {μ μ' : St} (h : EvJ μ) (hm : ∀ f i, (205 ≤ f ∧ f ≤ 208) ∨ f = 213 ∨ (216 ≤ f ∧ f ≤ 218) ∨ f = 223 ∨ (228 ≤ f ∧ f ≤ 234) ∨ (316 ≤ f ∧ f ≤ 318) ∨ f = 324 ∨ (325 ≤ f ∧ f ≤ 328) ∨ f = 338 ∨ f = 342 → μ'.1 f 0 0 i = μ.1 f 0 0 i) : EvJ μ' := by
  have e1 : ofN μ' = ofN μ := by unfold ofN; rw [hm _ _ (by decide)]
  have e2 : vcN μ' = vcN μ := by unfold vcN; rw [hm _ _ (by decide)]
  have e3 : ocN μ' = ocN μ := by unfold ocN; rw [hm _ _ (by decide)]
  have e4 : csN μ' = csN μ := by unfold csN; rw [hm _ _ (by decide)]
  refine h.up (fun f i q => hm f i (by omega)) (by omega) (fun c hc => ?_) (fun o ho => ?_) (fun p hp => ?_) (fun v hv => ?_) (fun o ho => ?_) (fun o ho => ?_) ?_ (fun o ho => ?_)
  · rw [hm _ _ (by decide)]
    exact h.c c (by omega)
  · rw [hm _ _ (by decide), e2]
    exact h.ov o (by omega)
  · rw [hm _ _ (by decide), e3]
    exact h.po p hp
  · rw [hm _ _ (by decide), e3]
    exact h.vo v (by omega)
  · rw [hm _ _ (by decide), hm _ _ (by decide)]
    exact h.so o ho
  · rw [hm _ _ (by decide)]
    exact h.oc o (by omega)
  · rw [hm _ _ (by decide), hm _ _ (by decide)]
    exact h.lk
  · rw [hm _ _ (by decide)]
    exact h.op o (by omega)
theorem LO_in {f : Nat} (h : f ∈ LO) : (209 ≤ f ∧ f ≤ 213) ∨ (218 ≤ f ∧ f ≤ 234) ∨ (318 ≤ f ∧ f ≤ 327) := by
  have : ∀ f ∈ LO, (209 ≤ f ∧ f ≤ 213) ∨ (218 ≤ f ∧ f ≤ 234) ∨ (318 ≤ f ∧ f ≤ 327) := by decide
  exact this f h
/-- a call that leaves all that was told as it was -/
theorem InvB.fr {TC : Nat → List Cl} {tp tp' : Nat → Nat} {σ σ' μ μ' : St} (h : InvB TC tp σ μ) (eq' : Eq1 σ' μ') (rg' : Rng μ') (tp2 : TP tp' σ' μ') (ev' : EvJ μ') (ot' : OtI σ' μ') (hx : ∀ f a b i, kpX f → σ'.1 f a b i = σ.1 f a b i) (hm : ∀ f a b i, kpM f ∨ (209 ≤ f ∧ f ≤ 210) ∨ (318 ≤ f ∧ f ≤ 320) ∨ (325 ≤ f ∧ f ≤ 327) → μ'.1 f a b i = μ.1 f a b i) (hj : ∀ f a b i, f ≠ 267 → μ'.2 f a b i = μ.2 f a b i) : InvB TC tp' σ' μ' :=
  h.up eq' rg' tp2 ev' ot' hx (fun f a b i q => hm f a b i (Or.inl q)) hj (fun p k _ => evM_c (fun f a b i q => hm f a b i (by
    have : ∀ f ∈ LO, kpM f ∨ (209 ≤ f ∧ f ≤ 210) ∨ (318 ≤ f ∧ f ≤ 320) ∨ (325 ≤ f ∧ f ≤ 327) := by decide
    exact this f q)) p k)
theorem step_price {N : Nat} {σ μ : St} (h : Inv σ μ) (a1 a2 a3 : Int32) : StI (fX_price N a1 a2 a3 σ) (fM_price N a1 a2 a3 μ) := by
  obtain ⟨TC, tp, h⟩ := h
  rcases e_price (N := N) h.eq h.rg a1 a2 a3 with ⟨e1, e2⟩ | ⟨j, j1, j2, ⟨e1, e2⟩ | ⟨e1, e2⟩⟩
  · rw [e1, e2]
    exact ⟨0, σ, _, rfl, rfl, TC, tp, h.code⟩
  · rw [e1, e2]
    refine ⟨1, _, _, rfl, rfl, TC, tp, h.fr ((h.eq.r (by decide)).w (by decide)) ((h.rg.o (by decide)).w (lo := 0) (hi := 9999) (by decide) j2.1 j2.2) (h.tp.mv (fun i => sI_o (by decide)) (fun i => by rw [sI_o (by decide), sI_o (by decide)])) (h.ev.mv (fun f i q => by rw [sI_o (by omega), sI_o (by omega)])) (h.ot.mv (fun f i q => sI_o (by omega)) (fun f i q => by rw [sI_o (by omega), sI_o (by omega)]) (fun _ => rfl)) (fun f a b i q => sI_o (by omega)) (fun f a b i q => by rw [sI_o (by omega), sI_o (by omega)]) (fun _ _ _ _ _ => rfl)⟩
  · rw [e1, e2]
    refine ⟨1, _, _, rfl, rfl, TC, tp, h.fr ((h.eq.r (by decide)).w (by decide)) ((h.rg.o (by decide)).w (lo := 0) (hi := 9999) (by decide) j2.1 j2.2) (h.tp.mv (fun i => sI_o (by decide)) (fun i => by rw [sI_o (by decide), sI_o (by decide)])) (h.ev.mv (fun f i q => by rw [sI_o (by omega), sI_o (by omega)])) (h.ot.mv (fun f i q => sI_o (by omega)) (fun f i q => by rw [sI_o (by omega), sI_o (by omega)]) (fun _ => rfl)) (fun f a b i q => sI_o (by omega)) (fun f a b i q => by rw [sI_o (by omega), sI_o (by omega)]) (fun _ _ _ _ _ => rfl)⟩
theorem step_judge {N : Nat} {σ μ : St} (h : Inv σ μ) (a1 a2 : Int32) : StI (fX_judge N a1 a2 σ) (fM_judge N a1 a2 μ) := by
  obtain ⟨TC, tp, h⟩ := h
  rcases e_judge (N := N) h.eq h.rg a1 a2 with ⟨e1, e2⟩ | ⟨n, n1, n2, n3, e1, e2⟩
  · rw [e1, e2]
    exact ⟨-1, σ, _, rfl, rfl, TC, tp, h.code⟩
  · rw [e1, e2]
    refine ⟨nI n, _, _, rfl, rfl, TC, tp, h.fr ((((h.eq.r (by decide)).w (by decide)).w (by decide)).w (by decide)) ((((h.rg.o (by decide)).w (lo := 0) (hi := 2) (by decide) (by omega) (by omega)).w (lo := 0) (hi := 99) (by decide) (by omega) (by omega)).w (lo := 0) (hi := 18) (by decide) (by rw [nI_toInt (by omega)]; omega) (by rw [nI_toInt (by omega)]; omega)) (h.tp.mv (fun i => by rw [sI_o (by decide), sI_o (by decide), sI_o (by decide)]) (fun i => by rw [sI_o (by decide), sI_o (by decide), sI_o (by decide), sI_o (by decide)])) (h.ev.mv (fun f i q => by rw [sI_o (by omega), sI_o (by omega), sI_o (by omega), sI_o (by omega)])) (h.ot.mv (fun f i q => by rw [sI_o (by omega), sI_o (by omega), sI_o (by omega)]) (fun f i q => by rw [sI_o (by omega), sI_o (by omega), sI_o (by omega), sI_o (by omega)]) (fun _ => rfl)) (fun f a b i q => by rw [sI_o (by omega), sI_o (by omega), sI_o (by omega)]) (fun f a b i q => by rw [sI_o (by omega), sI_o (by omega), sI_o (by omega), sI_o (by omega)]) (fun _ _ _ _ _ => rfl)⟩
theorem step_look {N : Nat} {σ μ : St} (h : Inv σ μ) (a1 : Int32) : StQ (fX_look N a1 σ) (fM_look N a1 μ) := by
  obtain ⟨TC, tp, h⟩ := h
  have c := h.rg.cns
  rcases e_look (N := N) h.eq a1 with ⟨e1, e2⟩ | ⟨n3, e1, e2⟩
  · rw [e1, e2]
    exact StQ.fail ⟨TC, tp, h.code⟩
  · rw [e1, e2]
    have hd := c.d
    have et : (μ.1 205 0 0 0).toInt = (tdN μ : Int) := by rw [hd.1, nI_toInt (by omega)]
    refine StQ.ok ⟨TC, tp, h.fr ((h.eq.r (by decide)).w (by decide)) ((h.rg.o (by decide)).w (lo := -1) (hi := 935) (by decide) (by omega) (by omega)) (h.tp.mv (fun i => sI_o (by decide)) (fun i => by rw [sI_o (by decide), sI_o (by decide)])) ?_ (h.ot.mv (fun f i q => sI_o (by omega)) (fun f i q => by rw [sI_o (by omega), sI_o (by omega)]) (fun _ => rfl)) (fun f a b i q => sI_o (by omega)) (fun f a b i q => by rw [sI_o (by omega), sI_o (by omega)]) (fun _ _ _ _ _ => rfl)⟩ (by rw [sI_o (by decide), sI_s]) rfl
    have l : ∀ f i, f ≠ 204 → f ≠ 206 → (sI (sI μ 204 0 0 0 0) 206 0 0 0 a1).1 f 0 0 i = μ.1 f 0 0 i := fun f i q1 q2 => by rw [sI_o q2, sI_o q1]
    have e9 : ∀ (g : St → Nat), True := fun _ => trivial
    refine h.ev.up (fun f i q => l f i (by omega) (by omega)) (by unfold ofN; rw [l _ _ (by decide) (by decide)]; omega) (fun c hc => ?_) (fun o ho => ?_) (fun p hp => ?_) (fun v hv => ?_) (fun o ho => ?_) (fun o ho => ?_) ?_ (fun o ho => ?_)
    · unfold csN at hc
      rw [l _ _ (by decide) (by decide)] at hc ⊢
      exact h.ev.c c hc
    · unfold ofN at ho
      unfold vcN
      rw [l _ _ (by decide) (by decide)] at ho ⊢
      rw [l _ _ (by decide) (by decide)]
      exact h.ev.ov o ho
    · unfold ocN
      rw [l _ _ (by decide) (by decide), l _ _ (by decide) (by decide)]
      exact h.ev.po p hp
    · unfold vcN at hv
      unfold ocN
      rw [l _ _ (by decide) (by decide)] at hv ⊢
      rw [l _ _ (by decide) (by decide)]
      exact h.ev.vo v hv
    · rw [l _ _ (by decide) (by decide), l _ _ (by decide) (by decide)]
      exact h.ev.so o ho
    · unfold ofN at ho
      rw [l _ _ (by decide) (by decide)] at ho ⊢
      exact h.ev.oc o ho
    · rw [sI_s, l _ _ (by decide) (by decide)]
      rcases n3 with q | ⟨q1, q2⟩
      · refine Or.inl (Int32.toInt_inj.mp (q.trans ?_))
        decide
      · exact Or.inr ⟨q1, q2⟩
    · unfold ofN at ho
      rw [l _ _ (by decide) (by decide)] at ho ⊢
      exact h.ev.op o ho
theorem step_feed {N : Nat} {σ μ : St} (hN : 4000 ≤ N) (h : Inv σ μ) (a1 a2 a3 a4 a5 : Int32) : StI (fX_feed N a1 a2 a3 a4 a5 σ) (fM_feed N a1 a2 a3 a4 a5 μ) := by
  obtain ⟨TC, tp, h⟩ := h
  rcases e_feedNo (N := N) h.eq h.rg a1 a2 a3 a4 a5 with ⟨s, s1, s2, s3⟩ | ⟨e1, e2⟩
  · rw [e_feedX a1 a2 a3 a4 a5 (by omega) s3 s1, e_feedM a1 a2 a3 a4 a5 (by omega) s2 s1, bs20]
    refine ⟨nI (s + 20), _, _, rfl, rfl, ?_⟩
    have hl : (bs20M a1 a2 a3 a4 a5).length = 20 := by
      unfold bs20M
      rw [List.length_map, List.length_range']
    have hF := joint_fold (P := fun σ μ => ∃ tp, InvB TC tp σ μ) (fun σ μ s w hI q1 q2 q3 q4 q5 => by
      obtain ⟨tp, h⟩ := hI
      obtain ⟨b, rfl, b2, b3⟩ := argN q4
      have hb : b < 256 := by omega
      refine ⟨fun i => if i = s then b else tp i, ?_⟩
      unfold putX putM
      refine h.fr ?_ ((h.rg.w (lo := 0) (hi := 255) (by decide) q4 q5).w (lo := 0) (hi := 600) (by decide) (by rw [nI_toInt (by omega)]; omega) (by rw [nI_toInt (by omega)]; omega)) (fun i hi => ?_) (h.ev.mv (fun f i q => by rw [sI_o (by omega), sI_o (by omega)])) (h.ot.mv (fun f i q => by rw [sI_o (by omega), sI_o (by omega)]) (fun f i q => by rw [sI_o (by omega), sI_o (by omega)]) (fun _ => rfl)) (fun f a b i q => by rw [sI_o (by omega), sI_o (by omega)]) (fun f a b i q => by rw [sI_o (by omega), sI_o (by omega)]) (fun _ _ _ _ _ => rfl)
      · exact ((h.eq.l (by decide)).r (by decide)).w (by decide)
      · by_cases z : i = s
        · rw [z, if_pos rfl]
          exact ⟨hb, (sI_o (by decide)).trans (sI_s _ _ _ _ _ _), (sI_o (by decide)).trans (sI_s _ _ _ _ _ _)⟩
        · rw [if_neg z]
          exact ⟨(h.tp i hi).1, (sI_o (by decide)).trans ((sI_i z).trans (h.tp i hi).2.1), (sI_o (by decide)).trans ((sI_i z).trans (h.tp i hi).2.2)⟩) (bs20M a1 a2 a3 a4 a5) σ (sI μ 204 0 0 0 0) s ⟨tp, h.code⟩ s3 ((sI_o (by decide)).trans s2) (by omega) (bs20_rng a1 a2 a3 a4 a5)
    exact ⟨TC, hF⟩
  · rw [e1, e2]
    exact ⟨-1, σ, _, rfl, rfl, TC, tp, h.code⟩
theorem step_count {N : Nat} {σ μ : St} (hN : 4000 ≤ N) (h : Inv σ μ) (a1 : Int32) : StR (fX_count N a1 σ) (fM_count N a1 μ) σ := by
  obtain ⟨TC, tp, h⟩ := h
  obtain ⟨q, b, μ', e1, e2, e3⟩ := e_count (N := N) (by omega) h.eq h.rg a1
  rw [e1, e2]
  exact e3.sr h
theorem step_tried {N : Nat} {σ μ : St} (h : Inv σ μ) (a1 a2 : Int32) : StR (fX_tried N a1 a2 σ) (fM_tried N a1 a2 μ) σ := by
  obtain ⟨TC, tp, h⟩ := h
  obtain ⟨q, b, μ', e1, e2, e3⟩ := e_tried (N := N) h.eq h.ot.t a1 a2
  rw [e1, e2]
  exact e3.sr h
theorem step_sent {N : Nat} {σ μ : St} (h : Inv σ μ) (a1 : Int32) : StR (fX_sent N a1 σ) (fM_sent N a1 μ) σ := by
  obtain ⟨TC, tp, h⟩ := h
  obtain ⟨q, b, μ', e1, e2, e3⟩ := e_sent (N := N) h.eq h.rg h.ot.s a1
  rw [e1, e2]
  exact e3.sr h
theorem step_offerOf {N : Nat} {σ μ : St} (h : Inv σ μ) (a1 a2 : Int32) : StR (fX_offerOf N a1 a2 σ) (fM_offerOf N a1 a2 μ) σ := by
  obtain ⟨TC, tp, h⟩ := h
  obtain ⟨q, b, μ', e1, e2, e3⟩ := e_offerOf (N := N) h.eq h.rg (fun o m _ ho hm => h.ev.so o (by omega)) a1 a2
  rw [e1, e2]
  exact e3.sr h
theorem step_known {N : Nat} {σ μ : St} (h : Inv σ μ) (a1 a2 : Int32) : StR (fX_known N a1 a2 σ) (fM_known N a1 a2 μ) σ := by
  obtain ⟨TC, tp, h⟩ := h
  rcases e_known (N := N) h.eq h.rg a1 a2 with ⟨e1, e2⟩ | ⟨r, e1, e2⟩
  · rw [e1, e2]
    exact AnsR.n.sr h
  · rw [e1, e2]
    exact AnsR.s.sr h
theorem step_fault {N : Nat} {σ μ : St} (h : Inv σ μ) : ∃ r μ', fX_fault N σ = some r ∧ fM_fault N μ = some (r, μ') ∧ Inv σ μ' := by
  obtain ⟨TC, tp, h⟩ := h
  obtain ⟨r, e1, e2⟩ := e_fault (N := N) h.ot.p
  exact ⟨r, _, e1, e2, TC, tp, h.code⟩
theorem step_fund {N : Nat} {σ μ : St} (hN : 4000 ≤ N) (h : Inv σ μ) (a1 : Int32) : StR (fX_fund N a1 σ) (fM_fund N a1 μ) σ := by
  obtain ⟨TC, tp, h⟩ := h
  obtain ⟨w, w1, w2, w3, w4, w5⟩ := h.fd.w
  obtain ⟨f1, G, f2, f3, f4⟩ := h.fd.f
  have hd := h.rg.cns.d
  have es : (μ.1 315 0 0 0).toInt = (w : Int) := by rw [w2, nI_toInt (by omega)]
  have hs : ∀ n, n ≤ 20 → 0 ≤ sumC (fun p => (μ.2 309 0 0 p).toInt) n ∧ sumC (fun p => (μ.2 309 0 0 p).toInt) n ≤ 6240000 * (n : Int) := by
    intro n
    induction n with
    | zero => intro _; exact ⟨by simp [sumC], by simp [sumC]⟩
    | succ n ih =>
      intro hn
      have h1 := ih (by omega)
      obtain ⟨-, -, r1, r2⟩ := h.fd.r n (by omega)
      show 0 ≤ sumC _ n + (μ.2 309 0 0 n).toInt ∧ sumC _ n + (μ.2 309 0 0 n).toInt ≤ _
      omega
  have hs20 := hs 20 (by omega)
  have hb : -2000000000 ≤ (μ.2 312 0 0 0).toInt ∧ (μ.2 312 0 0 0).toInt ≤ 2000000000 := by
    have : w ≤ 103 := by omega
    omega
  have hh : σ.1 56 0 0 0 = (μ.2 312 0 0 0).toInt32 := by
    apply Int32.toInt_inj.mp
    rw [Int64.toInt_toInt32, f1]
    exact (Int.bmod_eq_of_le (by omega) (by omega)).symm
  obtain ⟨r, r1, r2⟩ := e_lasts (N := N) (σ := σ) (μ := sI μ 204 0 0 0 0) (g := fun k => if k < 4 then (μ.2 311 0 0 k).toInt else 0) (by omega) w1 ((sI_o (by decide)).trans w2) (by omega) (fun k => by
    by_cases z : k < 4
    · rw [if_pos z]
      exact (h.fd.l k z).2
    · rw [if_neg z]
      decide) (fun k hk => by rw [if_pos hk]; exact (h.fd.l k hk).1) (fun k hk => by rw [if_pos hk]; rfl) f1 hb (fun z => by
    have q : (μ.2 312 0 0 0).toInt = 10000 := w5 z
    show 0 ≤ (μ.2 312 0 0 0).toInt
    omega)
  obtain ⟨q, b, μ', e1, e2, e3⟩ := e_fund (N := N) hh h.fd.g.1 h.fd.g.2 ⟨r, r1, r2⟩ a1
  rw [e1, e2]
  exact e3.sr h
