/-! plain calls: both answer alike -/
/-- a call that only gives a number -/
def StI (x y : Option (Int32 × St)) : Prop := ∃ r σ' μ', x = some (r, σ') ∧ y = some (r, μ') ∧ Inv σ' μ'
def StR (x : Option (Option Int32)) (y : Option (Int32 × St)) (σ : St) : Prop := ∃ q b μ', x = some q ∧ y = some (b, μ') ∧ μ'.1 204 0 0 0 = (if q.isSome then 0 else 1) ∧ (∀ r, q = some r → r = b) ∧ Inv σ μ'
theorem AnsR.sr {TC : Nat → List Cl} {tp : Nat → Nat} {σ μ μ' : St} {q : Option Int32} {b : Int32} (h : InvB TC tp σ μ) (ha : AnsR q b μ μ') : StR (some q) (some (b, μ')) σ := by
  rcases ha with ⟨rfl, rfl, rfl⟩ | ⟨rfl, rfl⟩
  · exact ⟨none, 0, _, rfl, rfl, sI_s _ _ _ _ _ _, fun r q => absurd q (by simp), TC, tp, h.code.code⟩
  · exact ⟨some b, b, _, rfl, rfl, sI_s _ _ _ _ _ _, fun r q => (Option.some.inj q).symm, TC, tp, h.code⟩
theorem TP.mv {tp : Nat → Nat} {σ σ' μ μ' : St} (h : TP tp σ μ) (h1 : ∀ i, σ'.1 110 0 0 i = σ.1 110 0 0 i) (h2 : ∀ i, μ'.1 246 0 0 i = μ.1 246 0 0 i) : TP tp σ' μ' := fun i hi => ⟨(h i hi).1, (h1 i).trans (h i hi).2.1, (h2 i).trans (h i hi).2.2⟩
theorem OtI.mvp {σ σ' μ μ' : St} (h : OtI σ μ) (h1 : ∀ f i, f = 33 ∨ f = 123 ∨ f = 158 → σ'.1 f 0 0 i = σ.1 f 0 0 i) (h2 : ∀ f i, f = 330 ∨ f = 333 ∨ f = 338 ∨ f = 344 ∨ f = 349 ∨ f = 350 → μ'.1 f 0 0 i = μ.1 f 0 0 i) (h3 : ∀ i, μ'.2 348 0 0 i = μ.2 348 0 0 i) (hp : σ'.1 112 0 0 0 = μ'.1 257 0 0 0) : OtI σ' μ' := by
  have ec : csN μ' = csN μ := by unfold csN; rw [h2 _ _ (by decide)]
  refine ⟨fun p hp => ?_, fun i hi => ?_, fun t ht => ?_, hp⟩
  · rw [h1 _ _ (by decide), h2 _ _ (by decide), h2 _ _ (by decide)]
    exact h.s p hp
  · rw [h1 _ _ (by decide), h2 _ _ (by decide)]
    exact h.b i (by omega)
  · rw [h1 _ _ (by decide), h1 _ _ (by decide), h1 _ _ (by decide), h2 _ _ (by decide), h2 _ _ (by decide), h3]
    exact h.t t ht
theorem OtI.mv {σ σ' μ μ' : St} (h : OtI σ μ) (h1 : ∀ f i, f = 33 ∨ f = 112 ∨ f = 123 ∨ f = 158 → σ'.1 f 0 0 i = σ.1 f 0 0 i) (h2 : ∀ f i, f = 257 ∨ f = 330 ∨ f = 333 ∨ f = 338 ∨ f = 344 ∨ f = 349 ∨ f = 350 → μ'.1 f 0 0 i = μ.1 f 0 0 i) (h3 : ∀ i, μ'.2 348 0 0 i = μ.2 348 0 0 i) : OtI σ' μ' :=
  h.mvp (fun f i q => h1 f i (by omega)) (fun f i q => h2 f i (by omega)) h3 (by rw [h1 _ _ (by decide), h2 _ _ (by decide)]; exact h.p)
theorem mi_at {μ μ' : St} {a b : Nat} (h : ∀ f i, (f = 209 ∨ f = 210) → (i = a ∨ i = b) → μ'.1 f 0 0 i = μ.1 f 0 0 i) : mi μ' a b = mi μ a b := by
  unfold mi
  rw [h _ _ (by decide) (Or.inl rfl), h _ _ (by decide) (Or.inr rfl), h _ _ (by decide) (Or.inl rfl), h _ _ (by decide) (Or.inr rfl)]
theorem step_office {N : Nat} {σ μ : St} (h : Inv σ μ) (a1 a2 : Int32) : StI (fX_office N a1 a2 σ) (fM_office N a1 a2 μ) := by
  obtain ⟨TC, tp, h⟩ := h
  have c := h.rg.cns
  rcases e_office (N := N) h.eq h.rg a1 a2 with ⟨e1, e2⟩ | ⟨n, n8, n1, n2, e1, e2⟩
  · rw [e1, e2]
    exact ⟨-1, σ, _, rfl, rfl, TC, tp, h.code⟩
  · rw [e1, e2]
    refine ⟨nI n, _, _, rfl, rfl, TC, tp, ?_⟩
    have en : ocN μ = n := by unfold ocN; rw [n1, nI_clamp (by omega)]
    have l : ∀ f a b i, f ≠ 204 → ¬ (209 ≤ f ∧ f ≤ 210) → f ≠ 207 → (sI (sI (sI (sI μ 204 0 0 0 0) 209 0 0 n a1) 210 0 0 n a2) 207 0 0 0 (nI (n + 1))).1 f a b i = μ.1 f a b i := fun f a b i q1 q2 q3 => by rw [sI_o q3, sI_o (by omega), sI_o (by omega), sI_o q1]
    have en' : ocN (sI (sI (sI (sI μ 204 0 0 0 0) 209 0 0 n a1) 210 0 0 n a2) 207 0 0 0 (nI (n + 1))) = n + 1 := by
      unfold ocN
      rw [sI_s, nI_clamp (by omega)]
    refine h.up ((((h.eq.r (by decide)).w (by decide)).w (by decide)).w (by decide)) ((((h.rg.o (by decide)).w (lo := 0) (hi := 99) (by decide) (by omega) (by omega)).w (lo := 0) (hi := 99) (by decide) (by omega) (by omega)).w (lo := 0) (hi := 8) (by decide) ?_ ?_) (h.tp.mv (fun i => by rw [sI_o (by decide), sI_o (by decide), sI_o (by decide)]) (fun i => l _ _ _ _ (by decide) (by decide) (by decide))) ?_ (h.ot.mv (fun f i q => by rw [sI_o (by omega), sI_o (by omega), sI_o (by omega)]) (fun f i q => l _ _ _ _ (by omega) (by omega) (by omega)) (fun _ => rfl)) (fun f a b i q => by rw [sI_o (by omega), sI_o (by omega), sI_o (by omega)]) (fun f a b i q => l _ _ _ _ (by omega) (by omega) (by omega)) (fun _ _ _ _ _ => rfl) ?_
    · rw [nI_toInt (by omega)]
      omega
    · rw [nI_toInt (by omega)]
      omega
    · have eo : ofN (sI (sI (sI (sI μ 204 0 0 0 0) 209 0 0 n a1) 210 0 0 n a2) 207 0 0 0 (nI (n + 1))) = ofN μ := by unfold ofN; rw [l _ _ _ _ (by decide) (by decide) (by decide)]
      have ev : vcN (sI (sI (sI (sI μ 204 0 0 0 0) 209 0 0 n a1) 210 0 0 n a2) 207 0 0 0 (nI (n + 1))) = vcN μ := by unfold vcN; rw [l _ _ _ _ (by decide) (by decide) (by decide)]
      have ec : csN (sI (sI (sI (sI μ 204 0 0 0 0) 209 0 0 n a1) 210 0 0 n a2) 207 0 0 0 (nI (n + 1))) = csN μ := by unfold csN; rw [l _ _ _ _ (by decide) (by decide) (by decide)]
      refine h.ev.up (fun f i q => l _ _ _ _ (by omega) (by omega) (by omega)) (by omega) (fun c hc => ?_) (fun o ho => ?_) (fun p hp => ?_) (fun v hv => ?_) (fun o ho => ?_) (fun o ho => ?_) ?_ (fun o ho => ?_)
      · rw [l _ _ _ _ (by decide) (by decide) (by decide)]
        exact h.ev.c c (by omega)
      · rw [l _ _ _ _ (by decide) (by decide) (by decide), ev]
        exact h.ev.ov o (by omega)
      · rw [l _ _ _ _ (by decide) (by decide) (by decide)]
        have := h.ev.po p hp
        omega
      · rw [l _ _ _ _ (by decide) (by decide) (by decide)]
        have := h.ev.vo v (by omega)
        omega
      · rw [l _ _ _ _ (by decide) (by decide) (by decide), l _ _ _ _ (by decide) (by decide) (by decide)]
        exact h.ev.so o ho
      · rw [l _ _ _ _ (by decide) (by decide) (by decide)]
        exact h.ev.oc o (by omega)
      · rw [l _ _ _ _ (by decide) (by decide) (by decide), l _ _ _ _ (by decide) (by decide) (by decide)]
        exact h.ev.lk
      · rw [l _ _ _ _ (by decide) (by decide) (by decide)]
        exact h.ev.op o (by omega)
    · intro p k hp
      refine evM_k h.ev.e h.rg (SmE.mk (fun f a b i q => l f a b i ?_ ?_ ?_)) (fun o ho => ⟨l _ _ _ _ (by decide) (by decide) (by decide), l _ _ _ _ (by decide) (by decide) (by decide), l _ _ _ _ (by decide) (by decide) (by decide), fun p hp => ?_⟩) (fun e he hpe => by rw [← hpe]; exact h.ev.p e he) k
      · intro z
        rw [z] at q
        exact absurd q (by decide)
      · intro z
        have : f = 209 ∨ f = 210 := by omega
        rcases this with y | y <;> rw [y] at q <;> exact absurd q (by decide)
      · intro z
        rw [z] at q
        exact absurd q (by decide)
      · have h1 := h.ev.po p hp
        have h2 := h.ev.vo _ (h.ev.ov o ho)
        unfold oV
        rw [l _ _ _ _ (by decide) (by decide) (by decide), l _ _ _ _ (by decide) (by decide) (by decide), l _ _ _ _ (by decide) (by decide) (by decide), l _ _ _ _ (by decide) (by decide) (by decide), l _ _ _ _ (by decide) (by decide) (by decide)]
        rw [mi_at (fun f i q1 q2 => ?_)]
        rw [sI_o (by omega)]
        have hi : i ≠ n := by omega
        rcases q1 with rfl | rfl
        · rw [sI_o (by decide), sI_i hi, sI_o (by decide)]
        · rw [sI_i hi, sI_o (by decide), sI_o (by decide)]
