/-! people are sent: both answer alike -/
abbrev sdM (f : Nat) : Prop := ¬ (f = 330 ∨ (333 ≤ f ∧ f ≤ 336))
theorem InvB.sX {TC : Nat → List Cl} {tp : Nat → Nat} {σ σ' μ μ' : St} (h : InvB TC tp σ μ) (hx : ∀ f a b i, ¬ (123 ≤ f ∧ f ≤ 137) → σ'.1 f a b i = σ.1 f a b i) (hm : ∀ f a b i, sdM f → μ'.1 f a b i = μ.1 f a b i) (hj : μ'.2 = μ.2) (hs : ∀ p, p < 20 → σ'.1 123 0 0 p = if μ'.1 333 0 0 0 = 0 then -1 else μ'.1 330 0 0 p) : InvB TC tp σ' μ' := by
  have hc : csN μ' = csN μ := by unfold csN; rw [hm _ _ _ _ (by decide)]
  refine h.up (fun q hq i => ?_) (fun q hq i => ?_) (h.tp.mv (fun i => hx _ _ _ _ (by decide)) (fun i => hm _ _ _ _ (by decide))) (h.ev.mv (fun f i q => hm _ _ _ _ (by omega))) ⟨hs, fun i hi => ?_, fun t ht => ?_, by rw [hx _ _ _ _ (by decide), hm _ _ _ _ (by decide)]; exact h.ot.p⟩ (fun f a b i q => hx _ _ _ _ (by omega)) (fun f a b i q => hm _ _ _ _ (by omega)) (fun f a b i _ => by rw [hj]) (fun p k _ => evM_c (fun f a b i q => hm f a b i (by
    have w : ∀ f ∈ LO, sdM f := by decide
    exact w f q)) p k)
  · have h1 : eqF.all (fun q => decide (¬ (123 ≤ q.1 ∧ q.1 ≤ 137))) = true := by decide
    have h2 : eqF.all (fun q => decide (sdM q.2)) = true := by decide
    rw [hm _ _ _ _ (of_decide_eq_true (List.all_eq_true.mp h2 q hq)), hx _ _ _ _ (of_decide_eq_true (List.all_eq_true.mp h1 q hq))]
    exact h.eq q hq i
  · have h2 : rngF.all (fun q => decide (sdM q.1)) = true := by decide
    rw [hm _ _ _ _ (of_decide_eq_true (List.all_eq_true.mp h2 q hq))]
    exact h.rg q hq i
  · rw [hc] at hi
    rw [hx _ _ _ _ (by decide), hm _ _ _ _ (by decide)]
    exact h.ot.b i hi
  · rw [hx _ _ _ _ (by decide), hx _ _ _ _ (by decide), hx _ _ _ _ (by decide), hm _ _ _ _ (by decide), hm _ _ _ _ (by decide), hj]
    exact h.ot.t t ht
theorem step_send {N : Nat} {σ μ : St} (hN : 4000 ≤ N) (h : Inv σ μ) : StI (fX_send N σ) (fM_send N μ) := by
  obtain ⟨TC, tp, h0⟩ := h
  have h := h0.code (x := 0)
  obtain ⟨σ', μ', G, a1, a2, a3, a4, a5, a6⟩ := gains_e hN h
  have c3 := a3.rg.cns
  have eP : nP μ' = nP (sI μ 204 0 0 0 0) := by unfold nP; rw [a4 _ _ (by decide) (by decide)]
  have eV : vcN μ' = vcN (sI μ 204 0 0 0 0) := by unfold vcN; rw [a4 _ _ (by decide) (by decide)]
  have gX : GnX G (nP μ') (vcN μ') σ' := ⟨fun p v hp hv => (a6 p v (by omega) (by omega)).1, a5, c3.P.2, c3.v.2⟩
  have gM : GnS G (nP μ') (vcN μ') (sI μ' 333 0 0 0 1) := ⟨by rw [sI_o (by decide)]; exact c3.P.1, by rw [sI_o (by decide)]; exact c3.v.1, c3.P.2, c3.v.2, fun p v hp hv => by rw [sI_o (by decide)]; exact (a6 p v (by omega) (by omega)).2, a5⟩
  obtain ⟨τ, b1, b2, b3, b4, b5⟩ := sendBest_e (N := N) (by omega) gX
  obtain ⟨ν, d1, d2, d3, d4⟩ := sendM_e (N := N) hN gM
  have e52 : σ'.1 52 0 0 0 = nI (nP μ') := (a3.eq.at (g := 208) 0 (by decide)).trans c3.P.1
  have e102 : σ'.1 102 0 0 0 = nI (vcN μ') := (a3.eq.at (g := 316) 0 (by decide)).trans c3.v.1
  refine ⟨nI (bW G (vcN μ') (nP μ') 0 (fun _ => false)), τ, ν, ?_, ?_, TC, tp, a3.sX b2 (fun f a b i z => ?_) ?_ (fun p hp => ?_)⟩
  · unfold fX_send
    rw [a1, bn1_e, e52, e102, b1, bnd_e]
  · unfold fM_send
    rw [nmx, a2, bn1_e, nmx]
    exact d1
  · rw [d2.1 f a b i (by omega) ⟨by omega, by omega, by omega⟩, sI_o (by omega)]
  · exact d2.2
  · have i1 : ν.1 333 0 0 0 = 1 := by rw [d2.1 _ _ _ _ (by decide) ⟨by decide, by decide, by decide⟩, sI_s]
    have e : (if ν.1 333 0 0 0 = 0 then (-1 : Int32) else ν.1 330 0 0 p) = ν.1 330 0 0 p := by
      rw [i1]
      exact if_neg (by decide)
    rw [e]
    by_cases q : p < nP μ'
    · exact (b4 p q).trans (d3 p q).symm
    · exact (b5 p (by omega) hp).trans (d4 p (by omega) hp).symm
