/-! events told, answers, cases closed, events taken back -/
theorem mNote_c (μ : St) (n : Nat) (k p v d t : Int32) : (mNote μ n k p v d t).1 204 0 0 0 = μ.1 204 0 0 0 := by
  unfold mNote
  rw [sI_o (by decide), sI_o (by decide), sI_o (by decide), sI_o (by decide), sI_o (by decide), sI_o (by decide), sI_o (by decide), sI_o (by decide)]
theorem step_event {N : Nat} {σ μ : St} (h : Inv σ μ) (a1 a2 a3 a4 : Int32) : StQ (fX_event N a1 a2 a3 a4 σ) (fM_event N a1 a2 a3 a4 μ) := by
  obtain ⟨TC, tp, h⟩ := h
  have c := h.rg.cns
  have hd := c.d
  rcases e_event (N := N) h.eq h.rg a1 a2 a3 a4 with ⟨e1, e2⟩ | ⟨e1, e2⟩ | ⟨n, p, j, k, n1, n2, n3, n4, n5, n6, rfl, rfl, n9, n10, n11, e1, e2⟩
  · rw [e1, e2]
    exact StQ.fail ⟨TC, tp, h.code⟩
  · rw [e1, e2]
    exact StQ.ok ⟨TC, tp, h.code⟩ (sI_s _ _ _ _ _ _) rfl
  · rw [e1, e2]
    have en : cnM μ = n := by unfold cnM; rw [n2, nI_clamp (by omega)]
    have eP : nP μ = p := by unfold nP; rw [n3, nI_clamp (by omega)]
    have ht : (μ.1 205 0 0 0).toInt = (tdN μ : Int) := by rw [hd.1, nI_toInt (by omega)]
    have hc := h.code (x := 0)
    have hv : 0 ≤ a3.toInt ∧ a3.toInt ≤ 9999 := by
      unfold nOk at n9
      omega
    have f : ∀ f i, f ≠ 204 → (sI μ 204 0 0 0 0).1 f 0 0 i = μ.1 f 0 0 i := fun f i q => sI_o q
    have := hc.note (n := n) (j := j) (kk := k) (v := a3) (d := a4) (by unfold cnM; rw [f _ _ (by decide)]; exact en) n1 (by unfold nP; rw [f _ _ (by decide)]; show j < nP μ; omega) (by omega) hv ⟨n10, by unfold tdN; rw [f _ _ (by decide)]; show a4.toInt ≤ (tdN μ : Int); omega⟩ (fun q => by omega) (fun q => by omega)
    rw [f _ _ (by decide)] at this
    exact StQ.ok ⟨TC, tp, this⟩ ((mNote_c _ _ _ _ _ _ _).trans (sI_s _ _ _ _ _ _)) rfl
theorem step_answer {N : Nat} {σ μ : St} (h : Inv σ μ) (a1 a2 : Int32) (hz : a2 = 0 ∨ a2 = 1) : StQ (fX_answer N a1 a2 σ) (fM_answer N a1 a2 μ) := by
  obtain ⟨TC, tp, h⟩ := h
  have c := h.rg.cns
  have hd := c.d
  have ht : (μ.1 205 0 0 0).toInt = (tdN μ : Int) := by rw [hd.1, nI_toInt (by omega)]
  rcases e_answer (N := N) h.eq h.rg a1 a2 hz with ⟨e1, e2⟩ | ⟨e1, e2⟩ | ⟨m, j, n, v, p, n1, n2, n3, n4, n5, n6, n7, n8, n9, n10, n11, n12⟩
  · rw [e1, e2]
    exact StQ.fail ⟨TC, tp, h.code⟩
  · rw [e1, e2]
    exact StQ.ok ⟨TC, tp, h.code⟩ (sI_s _ _ _ _ _ _) rfl
  · have en : cnM μ = n := by unfold cnM; rw [n6, nI_clamp (by omega)]
    have em : ofN μ = m := by unfold ofN; rw [n3, nI_clamp (by omega)]
    have hP := c.P.2
    have hpp : p < nP μ := by
      have := h.ev.op j (by omega)
      rw [n9, nI_clamp (by omega)] at this
      exact this
    rcases n12 with ⟨-, e1, e2⟩ | ⟨-, n13, e1, e2⟩
    · rw [e1, e2]
      have f : ∀ f a b i, f ≠ 204 → f ≠ 328 → (sI (sI μ 204 0 0 0 0) 328 0 0 j 2).1 f a b i = μ.1 f a b i := fun f a b i q1 q2 => by rw [sI_o q2, sI_o q1]
      have h2 : InvB TC tp (sI σ 106 0 0 j 2) (sI (sI μ 204 0 0 0 0) 328 0 0 j 2) := by
        refine h.fr ((h.eq.r (by decide)).w (by decide)) ((h.rg.o (by decide)).w (lo := 0) (hi := 2) (by decide) (by decide) (by decide)) (h.tp.mv (fun i => sI_o (by decide)) (fun i => f _ _ _ _ (by decide) (by decide))) ?_ (h.ot.mv (fun f i q => sI_o (by omega)) (fun g i q => f _ _ _ _ (by omega) (by omega)) (fun _ => rfl)) (fun f a b i q => sI_o (by omega)) (fun g a b i q => f _ _ _ _ (by omega) (by omega)) (fun _ _ _ _ _ => rfl)
        have eo : ofN (sI (sI μ 204 0 0 0 0) 328 0 0 j 2) = ofN μ := by unfold ofN; rw [f _ _ _ _ (by decide) (by decide)]
        have ev : vcN (sI (sI μ 204 0 0 0 0) 328 0 0 j 2) = vcN μ := by unfold vcN; rw [f _ _ _ _ (by decide) (by decide)]
        have ef : ocN (sI (sI μ 204 0 0 0 0) 328 0 0 j 2) = ocN μ := by unfold ocN; rw [f _ _ _ _ (by decide) (by decide)]
        have ec : csN (sI (sI μ 204 0 0 0 0) 328 0 0 j 2) = csN μ := by unfold csN; rw [f _ _ _ _ (by decide) (by decide)]
        refine h.ev.up (fun g i q => f _ _ _ _ (by omega) (by omega)) (by omega) (fun c hc => ?_) (fun o ho => ?_) (fun p hp => ?_) (fun v hv => ?_) (fun o ho => ?_) (fun o ho => ?_) ?_ (fun o ho => ?_)
        · rw [f _ _ _ _ (by decide) (by decide)]
          exact h.ev.c c (by omega)
        · rw [f _ _ _ _ (by decide) (by decide), ev]
          exact h.ev.ov o (by omega)
        · rw [f _ _ _ _ (by decide) (by decide), ef]
          exact h.ev.po p hp
        · rw [f _ _ _ _ (by decide) (by decide), ef]
          exact h.ev.vo v (by omega)
        · rw [f _ _ _ _ (by decide) (by decide), f _ _ _ _ (by decide) (by decide)]
          exact h.ev.so o ho
        · rw [sI_i (by omega), sI_o (by decide)]
          exact h.ev.oc o (by omega)
        · rw [f _ _ _ _ (by decide) (by decide), f _ _ _ _ (by decide) (by decide)]
          exact h.ev.lk
        · rw [f _ _ _ _ (by decide) (by decide)]
          exact h.ev.op o (by omega)
      have := h2.note (n := n) (j := p) (kk := 7) (v := nI j) (d := μ.1 205 0 0 0) (by unfold cnM; rw [f _ _ _ _ (by decide) (by decide)]; exact en) n5 (by unfold nP; rw [f _ _ _ _ (by decide) (by decide)]; exact hpp) (by omega) (by rw [nI_toInt (by omega)]; omega) ⟨by omega, by unfold tdN; rw [f _ _ _ _ (by decide) (by decide)]; show (μ.1 205 0 0 0).toInt ≤ (tdN μ : Int); omega⟩ (fun q => by omega) (fun _ => ⟨j, rfl, by unfold ofN; rw [f _ _ _ _ (by decide) (by decide)]; show j < ofN μ; omega⟩)
      rw [f _ _ _ _ (by decide) (by decide)] at this
      exact StQ.ok ⟨TC, tp, this⟩ ((mNote_c _ _ _ _ _ _ _).trans ((sI_o (by decide)).trans (sI_s _ _ _ _ _ _))) rfl
    · rw [e1, e2]
      have f : ∀ f a b i, f ≠ 204 → f ≠ 328 → f ≠ 323 → (sI (sI (sI μ 204 0 0 0 0) 328 0 0 j 1) 323 0 0 v 1).1 f a b i = μ.1 f a b i := fun f a b i q1 q2 q3 => by rw [sI_o q3, sI_o q2, sI_o q1]
      have h2 : InvB TC tp (sI (sI σ 106 0 0 j 1) 101 0 0 v 1) (sI (sI (sI μ 204 0 0 0 0) 328 0 0 j 1) 323 0 0 v 1) := by
        refine h.fr (((h.eq.r (by decide)).w (by decide)).w (by decide)) (((h.rg.o (by decide)).w (lo := 0) (hi := 2) (by decide) (by decide) (by decide)).w (lo := 0) (hi := 1) (by decide) (by decide) (by decide)) (h.tp.mv (fun i => by rw [sI_o (by decide), sI_o (by decide)]) (fun i => f _ _ _ _ (by decide) (by decide) (by decide))) ?_ (h.ot.mv (fun f i q => by rw [sI_o (by omega), sI_o (by omega)]) (fun g i q => f _ _ _ _ (by omega) (by omega) (by omega)) (fun _ => rfl)) (fun f a b i q => by rw [sI_o (by omega), sI_o (by omega)]) (fun g a b i q => f _ _ _ _ (by omega) (by omega) (by omega)) (fun _ _ _ _ _ => rfl)
        have eo : ofN (sI (sI (sI μ 204 0 0 0 0) 328 0 0 j 1) 323 0 0 v 1) = ofN μ := by unfold ofN; rw [f _ _ _ _ (by decide) (by decide) (by decide)]
        have ev : vcN (sI (sI (sI μ 204 0 0 0 0) 328 0 0 j 1) 323 0 0 v 1) = vcN μ := by unfold vcN; rw [f _ _ _ _ (by decide) (by decide) (by decide)]
        have ef : ocN (sI (sI (sI μ 204 0 0 0 0) 328 0 0 j 1) 323 0 0 v 1) = ocN μ := by unfold ocN; rw [f _ _ _ _ (by decide) (by decide) (by decide)]
        have ec : csN (sI (sI (sI μ 204 0 0 0 0) 328 0 0 j 1) 323 0 0 v 1) = csN μ := by unfold csN; rw [f _ _ _ _ (by decide) (by decide) (by decide)]
        refine h.ev.up (fun g i q => f _ _ _ _ (by omega) (by omega) (by omega)) (by omega) (fun c hc => ?_) (fun o ho => ?_) (fun p hp => ?_) (fun v hv => ?_) (fun o ho => ?_) (fun o ho => ?_) ?_ (fun o ho => ?_)
        · rw [f _ _ _ _ (by decide) (by decide) (by decide)]
          exact h.ev.c c (by omega)
        · rw [f _ _ _ _ (by decide) (by decide) (by decide), ev]
          exact h.ev.ov o (by omega)
        · rw [f _ _ _ _ (by decide) (by decide) (by decide), ef]
          exact h.ev.po p hp
        · rw [f _ _ _ _ (by decide) (by decide) (by decide), ef]
          exact h.ev.vo v (by omega)
        · rw [f _ _ _ _ (by decide) (by decide) (by decide), f _ _ _ _ (by decide) (by decide) (by decide)]
          exact h.ev.so o ho
        · rw [sI_o (by decide), sI_i (by omega), sI_o (by decide)]
          exact h.ev.oc o (by omega)
        · rw [f _ _ _ _ (by decide) (by decide) (by decide), f _ _ _ _ (by decide) (by decide) (by decide)]
          exact h.ev.lk
        · rw [f _ _ _ _ (by decide) (by decide) (by decide)]
          exact h.ev.op o (by omega)
      have hw := h.rg.at (g := 320) (lo := 0) (hi := 999) v (by decide)
      have := h2.note (n := n) (j := p) (kk := 1) (v := μ.1 320 0 0 v) (d := μ.1 205 0 0 0) (by unfold cnM; rw [f _ _ _ _ (by decide) (by decide) (by decide)]; exact en) n5 (by unfold nP; rw [f _ _ _ _ (by decide) (by decide) (by decide)]; exact hpp) (by omega) (by omega) ⟨by omega, by unfold tdN; rw [f _ _ _ _ (by decide) (by decide) (by decide)]; show (μ.1 205 0 0 0).toInt ≤ (tdN μ : Int); omega⟩ (fun q => by omega) (fun q => by omega)
      rw [f _ _ _ _ (by decide) (by decide) (by decide)] at this
      exact StQ.ok ⟨TC, tp, this⟩ ((mNote_c _ _ _ _ _ _ _).trans ((sI_o (by decide)).trans ((sI_o (by decide)).trans (sI_s _ _ _ _ _ _)))) rfl
