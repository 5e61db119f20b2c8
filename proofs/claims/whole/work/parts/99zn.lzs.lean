/-! offers: both answer alike -/
/-- a vacancy is open and known at a person's office -/
abbrev isOp (μ : St) (p w : Nat) : Prop := μ.1 323 0 0 w = 0 ∧ kf μ w (μ.1 213 0 0 p).toNatClampNeg ≤ (tdN μ : Int)
theorem opTo_X {N p w : Nat} {σ0 σ μ : St} (hE : Eq1 σ0 μ) (hR : Rng μ) (hp : p < 20) (hw : w < 24) (hx : ∀ f a b i, f < 103 → σ.1 f a b i = σ0.1 f a b i) : fMarket_isOpenTo N (nI p) (nI w) (nI (tdN μ)) σ = some (if isOp μ p w then 1 else 0) := by
  have hd := hR.cns.d
  obtain ⟨a, a1, a2, a3, a4, a5⟩ := hR.n (g := 213) (lo := 0) (hi := 7) p (by decide) (by decide)
  obtain ⟨n, n1, n2, n3⟩ := e_knownM (N := N) hR hw (show a < 8 by omega)
  have hk : fMarket_knownFrom N (nI w) (nI a) σ = some (nI n) := by
    rw [← n3, ← e_knownX hE hR hw (by omega)]
    unfold fMarket_knownFrom fLand_miles
    rw [hx 96 _ _ _ (by decide), hx 100 _ _ _ (by decide), hx 44 _ _ _ (by decide), hx 44 _ _ _ (by decide), hx 45 _ _ _ (by decide), hx 45 _ _ _ (by decide)]
    rfl
  unfold fMarket_isOpenTo isOp
  rw [chk_t (inb_n hw (by decide)), nI_clamp (n := w) (by omega), hx 101 _ _ _ (by decide), show σ0.1 101 0 0 w = μ.1 323 0 0 w from hE.at (f := 101) w (by decide), a1, a3]
  by_cases z : μ.1 323 0 0 w = 0
  · rw [if_pos z, chk_t (inb_n hp (by decide)), nI_clamp (n := p) (by omega), hx 49 _ _ _ (by decide), show σ0.1 49 0 0 p = nI a from (hE.at (f := 49) p (by decide)).trans a1, hk, bn1_e]
    by_cases y : nI (tdN μ) < nI n
    · rw [if_pos y, if_neg]
      rintro ⟨-, q⟩
      have := (nI_ltI (by omega) (by omega)).mp y
      omega
    · rw [if_neg y, if_pos]
      refine ⟨z, ?_⟩
      have : ¬ tdN μ < n := fun q => y (nI_lt q (by omega))
      omega
  · rw [if_neg z, if_neg (fun q => z q.1)]
theorem mayBe_M {N p w c nc : Nat} {cm : Nat → Nat} {μ μ' : St} {s : Lfe} (hR : Rng μ) (hp : p < 20) (hw : w < 24) (hC : RfC p μ' s c nc cm) (hm : ∀ f i, f = 205 ∨ f = 209 ∨ f = 210 ∨ f = 213 ∨ f = 318 ∨ f = 322 ∨ f = 323 → μ'.1 f 0 0 i = μ.1 f 0 0 i) : fM_mayBe N (nI p) (nI w) μ' = some (if s 85 0 = 0 then 0 else if isOp μ p w then 1 else 0) := by
  have hd := hR.cns.d
  obtain ⟨a, a1, a2, a3, a4, a5⟩ := hR.n (g := 213) (lo := 0) (hi := 7) p (by decide) (by decide)
  obtain ⟨n, n1, n2, n3⟩ := e_knownM (N := N) hR hw (show a < 8 by omega)
  have hk : fM_knownFrom N (nI w) (nI a) μ' = some (nI n) := by
    rw [← n3]
    unfold fM_knownFrom fM_milesOf
    rw [hm 318 _ (by decide), hm 322 _ (by decide), hm 209 _ (by decide), hm 209 _ (by decide), hm 210 _ (by decide), hm 210 _ (by decide)]
    rfl
  unfold fM_mayBe isOp
  rw [openOf_e hC hp, bn1_e, a1, a3]
  by_cases o : s 85 0 = 0
  · rw [if_pos ((open_m1 hC).mpr o), if_pos o]
  · rw [if_neg (fun q => o ((open_m1 hC).mp q)), if_neg o, chk_t (inb_n hw (by decide)), nI_clamp (n := w) (by omega), hm 323 _ (by decide)]
    by_cases z : μ.1 323 0 0 w = 0
    · rw [if_pos z, chk_t (inb_n hp (by decide)), nI_clamp (n := p) (by omega), hm 213 _ (by decide), show μ.1 213 0 0 p = nI a from a1, hk, bn1_e, hm 205 _ (by decide), show μ.1 205 0 0 0 = nI (tdN μ) from hd.1]
      by_cases y : nI (tdN μ) < nI n
      · rw [if_pos y, if_neg]
        rintro ⟨-, q⟩
        have := (nI_ltI (by omega) (by omega)).mp y
        omega
      · rw [if_neg y, if_pos]
        refine ⟨z, ?_⟩
        have : ¬ tdN μ < n := fun q => y (nI_lt q (by omega))
        omega
    · rw [if_neg z, if_neg (fun q => z q.1)]
theorem Eq1.ls {σ μ : St} {f i : Nat} {x : Int32} (h : Eq1 σ μ) (hx : σ.1 f 0 0 i = x) : Eq1 (sI σ f 0 0 i x) μ := by
  intro q hq j
  rw [sI_1]
  by_cases z : q.1 = f ∧ 0 = 0 ∧ 0 = 0 ∧ j = i
  · rw [if_pos z, ← hx, ← z.1, ← z.2.2.2]
    exact h q hq j
  · rw [if_neg z]
    exact h q hq j
/-- a vacancy, asked for by number -/
theorem vac_e {x : Int32} {μ : St} (hR : Rng μ) (h : ¬ (x < 0 ∨ μ.1 316 0 0 0 ≤ x)) : ∃ w, w < vcN μ ∧ x = nI w := by
  have c := hR.cns
  have hV := c.v.2
  rcases arg32 x with q | ⟨j, j1, rfl⟩
  · exact absurd (Or.inl q) h
  · refine ⟨j, ?_, rfl⟩
    refine Classical.byContradiction fun q => h (Or.inr ?_)
    rw [c.v.1]
    exact nI_le (by omega) (by omega)
