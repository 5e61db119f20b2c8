/-! the reference begins a run -/
def StP (μ : St) (p : Nat) (w : Int32) : Prop := μ.1 275 0 0 p = 1 ∧ μ.1 276 0 0 p = 0 ∧ μ.1 279 0 0 p = 0 ∧ μ.1 280 0 0 p = w ∧ μ.1 281 0 0 p = -1 ∧ μ.1 282 0 0 p = 0 ∧ μ.1 283 0 0 p = 0 ∧ μ.1 284 0 0 p = -1 ∧ μ.1 285 0 0 p = 0
def stF (f : Nat) : Bool := decide (275 ≤ f) && decide (f ≤ 285) && !decide (f = 277) && !decide (f = 278)
theorem start_loop {N : Nat} {x : Int32} : ∀ (e i m : Nat) (μ : St), i + e = 20 → e < m → ∃ μ', fM_beginRun_17 N m x (nI i) μ = fM_beginRun_99 N N x 0 μ' ∧ Fx stF μ μ' ∧ (∀ f p, p < i → μ'.1 f 0 0 p = μ.1 f 0 0 p) ∧ ∀ p, i ≤ p → p < 20 → StP μ' p (μ.1 214 0 0 p) := by
  intro e
  induction e with
  | zero =>
    intro i m μ h1 h2
    obtain ⟨m, rfl⟩ : ∃ q, m = q + 1 := ⟨m - 1, by omega⟩
    obtain rfl : i = 20 := by omega
    exact ⟨μ, rfl, Fx.rf, fun _ _ _ => rfl, fun p a b => by omega⟩
  | succ e ih =>
    intro i m μ h1 h2
    obtain ⟨m, rfl⟩ : ∃ q, m = q + 1 := ⟨m - 1, by omega⟩
    obtain ⟨σ3, h3⟩ : ∃ σ3, σ3 = sI (sI (sI μ 275 0 0 i 1) 276 0 0 i 0) 279 0 0 i 0 := ⟨_, rfl⟩
    obtain ⟨σ9, h9⟩ : ∃ σ9, σ9 = sI (sI (sI (sI (sI (sI σ3 280 0 0 i (μ.1 214 0 0 i)) 281 0 0 i (-1)) 282 0 0 i 0) 283 0 0 i 0) 284 0 0 i (-1)) 285 0 0 i 0 := ⟨_, rfl⟩
    have w3 : σ3.1 214 0 0 i = μ.1 214 0 0 i := by rw [h3, sI_o (by decide), sI_o (by decide), sI_o (by decide)]
    have F9 : Fx stF μ σ9 := by
      rw [h9, h3]
      exact ((((((((Fx.s (by decide)).tr (Fx.s (by decide))).tr (Fx.s (by decide))).tr (Fx.s (by decide))).tr (Fx.s (by decide))).tr (Fx.s (by decide))).tr (Fx.s (by decide))).tr (Fx.s (by decide))).tr (Fx.s (by decide))
    have o9 : ∀ f p, p ≠ i → σ9.1 f 0 0 p = μ.1 f 0 0 p := fun f p q => by
      rw [h9, h3]
      simp only [sI_1]
      repeat rw [if_neg (fun z => q z.2.2.2)]
    obtain ⟨μ', i1, i2, i3, i4⟩ := ih (i + 1) m σ9 (by omega) (by omega)
    refine ⟨μ', ?_, F9.tr i2, fun f p hp => (i3 f p (by omega)).trans (o9 f p (by omega)), fun p a b => ?_⟩
    · show (if (20 : Int32) ≤ nI i then _ else chk (inb (nI i) 20) (nm (sI μ 275 0 0 (nI i).toNatClampNeg (1 &&& 1)) fun (σ1 : St) => nm (sI σ1 276 0 0 (nI i).toNatClampNeg (0 &&& 1)) fun (σ2 : St) => nm (sI σ2 279 0 0 (nI i).toNatClampNeg 0) fun (σ3 : St) => nm (sI σ3 280 0 0 (nI i).toNatClampNeg (σ3.1 214 0 0 (nI i).toNatClampNeg)) fun (σ4 : St) => nm (sI σ4 281 0 0 (nI i).toNatClampNeg (-1)) fun (σ5 : St) => nm (sI σ5 282 0 0 (nI i).toNatClampNeg 0) fun (σ6 : St) => nm (sI σ6 283 0 0 (nI i).toNatClampNeg 0) fun (σ7 : St) => nm (sI σ7 284 0 0 (nI i).toNatClampNeg (-1)) fun (σ8 : St) => nm (sI σ8 285 0 0 (nI i).toNatClampNeg 0) fun (σ9 : St) => fM_beginRun_17 N m x (nI i + 1) σ9)) = _
      rw [if_neg (show ¬ (20 : Int32) ≤ nI i from nI_ge (a := i) (b := 20) (by omega) (by omega)), chk_t (inb_n (by omega) (by decide)), nmx, nmx, nmx, nI_clamp (by omega), show ((1 : Int32) &&& 1) = 1 by decide, show ((0 : Int32) &&& 1) = 0 by decide, ← h3, w3, nmx, nmx, nmx, nmx, nmx, nmx, ← h9, nI_1, i1]
    · by_cases z : p = i
      · subst z
        have g : ∀ f, μ'.1 f 0 0 p = σ9.1 f 0 0 p := fun f => i3 f p (by omega)
        unfold StP
        rw [g, g, g, g, g, g, g, g, g, h9]
        refine ⟨?_, ?_, ?_, ?_, ?_, ?_, ?_, ?_, ?_⟩
        · rw [sI_o (by decide), sI_o (by decide), sI_o (by decide), sI_o (by decide), sI_o (by decide), sI_o (by decide), h3, sI_o (by decide), sI_o (by decide), sI_s]
        · rw [sI_o (by decide), sI_o (by decide), sI_o (by decide), sI_o (by decide), sI_o (by decide), sI_o (by decide), h3, sI_o (by decide), sI_s]
        · rw [sI_o (by decide), sI_o (by decide), sI_o (by decide), sI_o (by decide), sI_o (by decide), sI_o (by decide), h3, sI_s]
        · rw [sI_o (by decide), sI_o (by decide), sI_o (by decide), sI_o (by decide), sI_o (by decide), sI_s]
        · rw [sI_o (by decide), sI_o (by decide), sI_o (by decide), sI_o (by decide), sI_s]
        · rw [sI_o (by decide), sI_o (by decide), sI_o (by decide), sI_s]
        · rw [sI_o (by decide), sI_o (by decide), sI_s]
        · rw [sI_o (by decide), sI_s]
        · exact sI_s ..
      · have := i4 p (by omega) b
        rw [o9 _ _ z] at this
        exact this
