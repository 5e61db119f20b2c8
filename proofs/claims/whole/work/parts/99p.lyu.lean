/-! a run begins, in the reference -/
theorem EvI.mv {μ μ' : St} (h : EvI μ) (hz : ∀ f i, f < 260 ∨ 309 ≤ f → μ'.1 f 0 0 i = μ.1 f 0 0 i) : EvI μ' ∧ cnM μ' = cnM μ ∧ peM μ' = peM μ ∧ kdM μ' = kdM μ ∧ nuM μ' = nuM μ ∧ dyM μ' = dyM μ ∧ ∀ k, kwM μ' k = kwM μ k := by
  have e1 : cnM μ' = cnM μ := by unfold cnM; rw [hz _ _ (by decide)]
  have e2 : peM μ' = peM μ := funext fun e => by unfold peM; rw [hz _ _ (by decide)]
  have e3 : kdM μ' = kdM μ := funext fun e => by unfold kdM; rw [hz _ _ (by decide)]
  have e4 : nuM μ' = nuM μ := funext fun e => by unfold nuM; rw [hz _ _ (by decide)]
  have e5 : dyM μ' = dyM μ := funext fun e => by unfold dyM; rw [hz _ _ (by decide)]
  have e6 : ∀ k, kwM μ' k = kwM μ k := fun k => funext fun e => by unfold kwM; rw [hz _ _ (by decide), hz _ _ (by decide)]
  refine ⟨fun e he => ?_, e1, e2, e3, e4, e5, e6⟩
  rw [e1] at he
  have := h e he
  rw [e2, e3, e4, e5, hz _ _ (by decide), hz _ _ (by decide), hz _ _ (by decide), hz _ _ (by decide)]
  exact this
theorem beginRun_e {N k : Nat} {μ : St} (hN : 3200 ≤ N) (hR : Rng μ) (hI : EvI μ) : ∃ μ', fM_beginRun N (nI k) μ = some μ' ∧ (∀ f a b i, f < 260 ∨ (262 ≤ f ∧ f ≤ 274) ∨ 288 ≤ f → μ'.1 f a b i = μ.1 f a b i) ∧ μ'.2 = μ.2 ∧ BkM k μ μ' ∧ μ'.1 286 0 0 0 = 0 ∧ μ'.1 287 0 0 0 = 0 ∧ (∀ p, p < 20 → StP μ' p (μ.1 214 0 0 p)) ∧ (∀ q, q < 160 → μ'.1 277 0 0 q = 0) ∧ ∀ q, q < cnM μ → μ'.1 278 0 0 q = clr (cnM μ) (peM μ) (kdM μ) (nuM μ) (kwM μ k) (peM μ q) q := by
  obtain ⟨nc, c1, c2, c3, c4, c5⟩ := hR.n (g := 218) (lo := 0) (hi := 160) 0 (by decide) (by decide)
  obtain ⟨μ1, a1, a2, a3, a3'⟩ := tellBooks_e (N := N) (k := k) hN hR
  obtain ⟨μ3, h3⟩ : ∃ μ3, μ3 = sI (sI μ1 286 0 0 0 0) 287 0 0 0 0 := ⟨_, rfl⟩
  obtain ⟨μ4, b1, b2, -, b4⟩ := start_loop (N := N) (x := nI k) 20 0 N μ3 (by omega) (by omega)
  obtain ⟨μ5, d1, d2, -, d4⟩ := zeroC_loop (N := N) (x := nI k) 160 0 N μ4 (by omega) (by omega)
  have f3 : ∀ f a b i, f ≠ 286 → f ≠ 287 → μ3.1 f a b i = μ1.1 f a b i := fun f a b i q1 q2 => by rw [h3, sI_o q2, sI_o q1]
  have f4 : ∀ f a b i, f < 275 ∨ 286 ≤ f → μ4.1 f a b i = μ3.1 f a b i := fun f a b i q => b2.1 f a b i (by simp [stF]; omega)
  have f5 : ∀ f a b i, f ≠ 277 → f ≠ 278 → μ5.1 f a b i = μ4.1 f a b i := fun f a b i q1 q2 => d2.1 f a b i (by simp [clF, q1, q2])
  have fz : ∀ f a b i, f < 260 ∨ (262 ≤ f ∧ f ≤ 274) ∨ 288 ≤ f → μ5.1 f a b i = μ.1 f a b i := fun f a b i q => (f5 f a b i (by omega) (by omega)).trans ((f4 f a b i (by omega)).trans ((f3 f a b i (by omega) (by omega)).trans (a2.bk (by omega))))
  obtain ⟨z0, z1, z2, z3, z4, -, z6⟩ := hI.mv (μ' := μ5) (fun f i q => fz f 0 0 i (by omega))
  obtain ⟨μ6, g1, g2, g3, g4⟩ := clear_loop (N := N) (k := k) z0 (cnt := nc) ((fz _ _ _ _ (by decide)).trans c1) (by omega) nc 0 N μ5 (by omega) (by omega) (fun _ _ _ => rfl) (fun q hq => by rw [(d4 q (by omega) (by omega)).2]; rfl)
  have f6 : ∀ f a b i, f ≠ 277 → f ≠ 278 → μ6.1 f a b i = μ5.1 f a b i := fun f a b i q1 q2 => g2.1 f a b i (by simp [clF, q1, q2])
  have hcn : cnM μ = nc := by unfold cnM; rw [c1, c3]
  refine ⟨μ6, ?_, fun f a b i q => (f6 f a b i (by omega) (by omega)).trans (fz f a b i q), ?_, ⟨fun p y hp hy => ?_, fun p w hp hw => ?_⟩, ?_, ?_, fun p hp => ?_, fun q hq => ?_, fun q hq => ?_⟩
  · unfold fM_beginRun
    rw [a1, bn1_e, nmx, nmx, ← h3, show fM_beginRun_17 N N (nI k) 0 μ3 = _ from b1, show fM_beginRun_99 N N (nI k) 0 μ4 = _ from d1]
    exact g1
  · rw [g2.2, d2.2, b2.2, h3]
    exact a2.2
  · rw [f6 _ _ _ _ (by decide) (by decide), f5 _ _ _ _ (by decide) (by decide), f4 _ _ _ _ (by decide), f3 _ _ _ _ (by decide) (by decide)]
    exact a3 p y hp hy
  · rw [f6 _ _ _ _ (by decide) (by decide), f5 _ _ _ _ (by decide) (by decide), f4 _ _ _ _ (by decide), f3 _ _ _ _ (by decide) (by decide)]
    exact a3' p w hp hw
  · rw [f6 _ _ _ _ (by decide) (by decide), f5 _ _ _ _ (by decide) (by decide), f4 _ _ _ _ (by decide), h3, sI_o (by decide), sI_s]
  · rw [f6 _ _ _ _ (by decide) (by decide), f5 _ _ _ _ (by decide) (by decide), f4 _ _ _ _ (by decide), h3, sI_s]
  · have := b4 p (Nat.zero_le _) hp
    rw [f3 _ _ _ _ (by decide) (by decide), a2.bk (by decide)] at this
    unfold StP at this ⊢
    have g : ∀ f, f ≠ 277 → f ≠ 278 → μ6.1 f 0 0 p = μ4.1 f 0 0 p := fun f q1 q2 => (f6 f _ _ _ q1 q2).trans (f5 f _ _ _ q1 q2)
    rw [g _ (by decide) (by decide), g _ (by decide) (by decide), g _ (by decide) (by decide), g _ (by decide) (by decide), g _ (by decide) (by decide), g _ (by decide) (by decide), g _ (by decide) (by decide), g _ (by decide) (by decide), g _ (by decide) (by decide)]
    exact this
  · rw [g3 _ _ (by decide)]
    exact (d4 q (Nat.zero_le _) hq).1
  · rw [hcn] at hq ⊢
    have := g4 q hq
    rw [z2, z3, z4, z6] at this
    exact this
