/-! a row is placed: the class reaches column by column -/
def raX (σ : St) (j : Nat) : Nat := (σ.1 131 0 0 j).toNatClampNeg
def fmX (σ : St) (j : Nat) : Nat := (σ.1 133 0 0 j).toNatClampNeg
def leX (σ : St) (j : Nat) : Int := (σ.1 134 0 0 j).toInt
def reX (σ : St) (j : Nat) : Bool := !decide (σ.1 135 0 0 j = 0)
theorem reX_f {σ : St} {j : Nat} : reX σ j = false ↔ σ.1 135 0 0 j = 0 := by
  unfold reX
  simp
theorem reX_t {σ : St} {j : Nat} : reX σ j = true ↔ ¬ σ.1 135 0 0 j = 0 := by
  unfold reX
  simp
theorem cst_b {G : Nat → Nat → Nat} {P V R C : Nat} {wh wr : Nat → Nat} (h : SC G P V R C wh wr) : ∀ i j, -999 ≤ cst G R C wh wr i j ∧ cst G R C wh wr i j ≤ 1 := fun i j => by
  have := h.k (wh (i - 1)) (wr (j - 1))
  unfold cst
  split
  · omega
  · split <;> omega
/-- what is written while a row is placed -/
def plX (σ ρ : St) : Prop := (∀ f a b i, ¬ (129 ≤ f ∧ f ≤ 135 ∧ f ≠ 132) → ρ.1 f a b i = σ.1 f a b i) ∧ ρ.2 = σ.2
theorem plX.rfl' {σ : St} : plX σ σ := ⟨fun _ _ _ _ _ => rfl, rfl⟩
theorem plX.tr {σ ρ τ : St} (h : plX σ ρ) (k : plX ρ τ) : plX σ τ := ⟨fun f a b i z => (k.1 f a b i z).trans (h.1 f a b i z), k.2.trans h.2⟩
theorem plX.w {σ ρ : St} {f a b i : Nat} {x : Int32} (h : plX σ ρ) (hf : 129 ≤ f ∧ f ≤ 135 ∧ f ≠ 132) : plX σ (sI ρ f a b i x) := ⟨fun f' a' b' i' z => by
  rw [sI_o (fun e => z (by rw [e]; exact hf))]
  exact h.1 f' a' b' i' z, h.2⟩
theorem plX.x {G : Nat → Nat → Nat} {P V R C : Nat} {wh wr : Nat → Nat} {σ ρ : St} (h : plX σ ρ) (x : SX G P V R C wh wr σ) : SX G P V R C wh wr ρ := x.mv fun f a b i z => h.1 f a b i (by omega)
abbrev PlS (G : Nat → Nat → Nat) (P V R C : Nat) (wh wr : Nat → Nat) (k : Nat) (σ : St) (j0 step : Nat) : Prop := (SX G P V R C wh wr σ) ∧ (PG (cst G R C wh wr) (R + C) k (rpX σ) (cpX σ) (raX σ) (reX σ) (fmX σ) (leX σ) j0 step) ∧ (∀ j, j ≤ R + C → σ.1 131 0 0 j = nI (raX σ j)) ∧ (1 ≤ step → ∀ j, 1 ≤ j → j ≤ R + C → σ.1 133 0 0 j = nI (fmX σ j))
theorem PlS.x {G : Nat → Nat → Nat} {P V R C : Nat} {wh wr : Nat → Nat} {k : Nat} {σ : St} {j0 step : Nat} (h : PlS G P V R C wh wr k σ j0 step) : SX G P V R C wh wr σ := h.1
theorem PlS.g {G : Nat → Nat → Nat} {P V R C : Nat} {wh wr : Nat → Nat} {k : Nat} {σ : St} {j0 step : Nat} (h : PlS G P V R C wh wr k σ j0 step) : PG (cst G R C wh wr) (R + C) k (rpX σ) (cpX σ) (raX σ) (reX σ) (fmX σ) (leX σ) j0 step := h.2.1
theorem PlS.t {G : Nat → Nat → Nat} {P V R C : Nat} {wh wr : Nat → Nat} {k : Nat} {σ : St} {j0 step : Nat} (h : PlS G P V R C wh wr k σ j0 step) : ∀ j, j ≤ R + C → σ.1 131 0 0 j = nI (raX σ j) := h.2.2.1
theorem PlS.f {G : Nat → Nat → Nat} {P V R C : Nat} {wh wr : Nat → Nat} {k : Nat} {σ : St} {j0 step : Nat} (h : PlS G P V R C wh wr k σ j0 step) : 1 ≤ step → ∀ j, 1 ≤ j → j ≤ R + C → σ.1 133 0 0 j = nI (fmX σ j) := h.2.2.2
theorem nlt_of {a b : Nat} (hb : b < 2 ^ 31) (ha : a < 2 ^ 31) (h : b ≤ a) : ¬ nI a < nI b := fun z => by
  have := Int32.lt_iff_toInt_lt.mp z
  rw [nI_toInt ha, nI_toInt hb] at this
  omega
theorem reach16 {N P V R C i0 j0 : Nat} {G : Nat → Nat → Nat} {wh wr : Nat → Nat} {σ0 : St} (hX : SX G P V R C wh wr σ0) (hi : 1 ≤ i0) (hi2 : i0 ≤ 44) (hj : j0 ≤ 44) (hu : -1000 ≤ rpX σ0 i0 ∧ rpX σ0 i0 ≤ 1) (hw : ∀ j, 1 ≤ j → j ≤ R + C → -1001 ≤ cpX σ0 j ∧ cpX σ0 j ≤ 0) (hle : ∀ j, 1 ≤ j → j ≤ R + C → reX σ0 j = false → leX σ0 j ≤ 1000000000) : ∀ (e j m near : Nat) (σ : St) (way : Int32), j + e = R + C + 1 → e < m → 1 ≤ j → (∀ f a b i, f ≠ 133 → f ≠ 134 → σ.1 f a b i = σ0.1 f a b i) → σ.2 = σ0.2 → (∀ j', 1 ≤ j' → j' < j → reX σ0 j' = false → leX σ j' = leN (cst G R C wh wr) (rpX σ0) (cpX σ0) i0 (leX σ0) j' ∧ σ.1 133 0 0 j' = if cst G R C wh wr i0 j' - rpX σ0 i0 - cpX σ0 j' < leX σ0 j' then nI j0 else σ0.1 133 0 0 j') → (∀ j', (j ≤ j' ∨ reX σ0 j' = true) → σ.1 134 0 0 j' = σ0.1 134 0 0 j' ∧ σ.1 133 0 0 j' = σ0.1 133 0 0 j') → ((near = 0 ∧ way = 1000000000 ∧ ∀ j', 1 ≤ j' → j' < j → reX σ0 j' = true) ∨ (1 ≤ near ∧ near < j ∧ reX σ0 near = false ∧ way.toInt = leN (cst G R C wh wr) (rpX σ0) (cpX σ0) i0 (leX σ0) near ∧ ∀ j', 1 ≤ j' → j' < j → reX σ0 j' = false → way.toInt ≤ leN (cst G R C wh wr) (rpX σ0) (cpX σ0) i0 (leX σ0) j')) → ∃ σ' near' way', fSending_reachFrom_16 N m (nI j0) (nI i0) (nI near) way (nI j) σ = fSending_reachFrom_109 N N (nI near') way' (nI 0) σ' ∧ (∀ f a b i, f ≠ 133 → f ≠ 134 → σ'.1 f a b i = σ0.1 f a b i) ∧ σ'.2 = σ0.2 ∧ (∀ j', 1 ≤ j' → j' ≤ R + C → reX σ0 j' = false → leX σ' j' = leN (cst G R C wh wr) (rpX σ0) (cpX σ0) i0 (leX σ0) j' ∧ σ'.1 133 0 0 j' = if cst G R C wh wr i0 j' - rpX σ0 i0 - cpX σ0 j' < leX σ0 j' then nI j0 else σ0.1 133 0 0 j') ∧ (∀ j', reX σ0 j' = true → σ'.1 133 0 0 j' = σ0.1 133 0 0 j') ∧ ((near' = 0 ∧ ∀ j', 1 ≤ j' → j' ≤ R + C → reX σ0 j' = true) ∨ (1 ≤ near' ∧ near' ≤ R + C ∧ reX σ0 near' = false ∧ way'.toInt = leN (cst G R C wh wr) (rpX σ0) (cpX σ0) i0 (leX σ0) near' ∧ ∀ j', 1 ≤ j' → j' ≤ R + C → reX σ0 j' = false → way'.toInt ≤ leN (cst G R C wh wr) (rpX σ0) (cpX σ0) i0 (leX σ0) j')) := by
  have p2 := hX.s.P2
  have v2 := hX.s.V2
  have r2 := hX.s.R2
  have c2 := hX.s.C2
  have cb := cst_b hX.s
  intro e
  induction e with
  | zero =>
    intro j m near σ way h1 h2 h3 hF hF2 hA hB hC
    obtain ⟨m, rfl⟩ : ∃ q, m = q + 1 := ⟨m - 1, by omega⟩
    have ej : j = R + C + 1 := by omega
    refine ⟨σ, near, way, ?_, hF, hF2, fun j' a b z => hA j' a (by omega) z, fun j' z => (hB j' (Or.inr z)).2, ?_⟩
    · show (if σ.1 128 0 0 0 < nI j then fSending_reachFrom_109 N N (nI near) way 0 σ else _) = _
      rw [hF _ _ _ _ (by decide) (by decide), hX.n, if_pos (nI_lt (by omega) (by omega))]
      rfl
    · rcases hC with ⟨c1, _, c3⟩ | ⟨c1, c2, c3, c4, c5⟩
      · exact Or.inl ⟨c1, fun j' a b => c3 j' a (by omega)⟩
      · exact Or.inr ⟨c1, by omega, c3, c4, fun j' a b => c5 j' a (by omega)⟩
  | succ e ih =>
    intro j m near σ way h1 h2 h3 hF hF2 hA hB hC
    obtain ⟨m, rfl⟩ : ∃ q, m = q + 1 := ⟨m - 1, by omega⟩
    have x' : SX G P V R C wh wr σ := hX.mv fun f a b i z => hF f a b i (by omega) (by omega)
    have eu : ∀ i, rpX σ i = rpX σ0 i := fun i => by unfold rpX; rw [hF _ _ _ _ (by decide) (by decide)]
    have ew : ∀ i, cpX σ i = cpX σ0 i := fun i => by unfold cpX; rw [hF _ _ _ _ (by decide) (by decide)]
    have wj := hw j h3 (by omega)
    obtain ⟨x, x1, x2⟩ := over_e (N := N) (i := i0) (j := j) x' hi h3 hi2 (by omega) (by rw [eu]; omega) (by rw [ew]; omega)
    rw [eu, ew] at x2
    have r135 : σ.1 135 0 0 j = σ0.1 135 0 0 j := hF _ _ _ _ (by decide) (by decide)
    have e0 : fSending_reachFrom_16 N (m + 1) (nI j0) (nI i0) (nI near) way (nI j) σ = if σ0.1 135 0 0 j = 0 then if σ.1 134 0 0 j ≤ x then fSending_reachFrom_76 N (fSending_reachFrom_16 N m) (nI j0) (nI i0) (nI near) way (nI j) σ else fSending_reachFrom_76 N (fSending_reachFrom_16 N m) (nI j0) (nI i0) (nI near) way (nI j) (sI (sI σ 134 0 0 j x) 133 0 0 j (nI j0)) else fSending_reachFrom_16 N m (nI j0) (nI i0) (nI near) way (nI (j + 1)) σ := by
      show (if σ.1 128 0 0 0 < nI j then _ else chk (inb (nI j) 45) <| if (σ.1 135 0 0 (nI j).toNatClampNeg) = 0 then bn1 (fSending_overPrice N (nI i0) (nI j) σ) fun r1 => if (σ.1 134 0 0 (nI j).toNatClampNeg) ≤ r1 then fSending_reachFrom_76 N (fSending_reachFrom_16 N m) (nI j0) (nI i0) (nI near) way (nI j) σ else nm (sI σ 134 0 0 (nI j).toNatClampNeg r1) fun (σ2 : St) => nm (sI σ2 133 0 0 (nI j).toNatClampNeg (nI j0)) fun (σ3 : St) => fSending_reachFrom_76 N (fSending_reachFrom_16 N m) (nI j0) (nI i0) (nI near) way (nI j) σ3 else (fSending_reachFrom_16 N m) (nI j0) (nI i0) (nI near) way (nI j + 1) σ) = _
      rw [x'.n, if_neg (nlt_of (by omega) (by omega) (by omega)), chk_t (inb_n (by omega) (by decide)), x1, bn1_e, nmx, nmx, nI_clamp (by omega), nI_1, r135]
    rw [e0]
    by_cases q : σ0.1 135 0 0 j = 0
    · rw [if_pos q]
      have qf : reX σ0 j = false := reX_f.mpr q
      -- what follows once least and from of j stand
      have go : ∀ τ : St, (∀ f a b i, f ≠ 133 → f ≠ 134 → τ.1 f a b i = σ0.1 f a b i) → τ.2 = σ0.2 → (∀ i, i ≠ j → τ.1 134 0 0 i = σ.1 134 0 0 i ∧ τ.1 133 0 0 i = σ.1 133 0 0 i) → leX τ j = leN (cst G R C wh wr) (rpX σ0) (cpX σ0) i0 (leX σ0) j → (τ.1 133 0 0 j = if cst G R C wh wr i0 j - rpX σ0 i0 - cpX σ0 j < leX σ0 j then nI j0 else σ0.1 133 0 0 j) → ∃ near' way', fSending_reachFrom_76 N (fSending_reachFrom_16 N m) (nI j0) (nI i0) (nI near) way (nI j) τ = fSending_reachFrom_16 N m (nI j0) (nI i0) (nI near') way' (nI (j + 1)) τ ∧ (1 ≤ near' ∧ near' < j + 1 ∧ reX σ0 near' = false ∧ way'.toInt = leN (cst G R C wh wr) (rpX σ0) (cpX σ0) i0 (leX σ0) near' ∧ ∀ j', 1 ≤ j' → j' < j + 1 → reX σ0 j' = false → way'.toInt ≤ leN (cst G R C wh wr) (rpX σ0) (cpX σ0) i0 (leX σ0) j') := by
        intro τ t1 t2 t3 t4 t5
        have e7 : fSending_reachFrom_76 N (fSending_reachFrom_16 N m) (nI j0) (nI i0) (nI near) way (nI j) τ = if way ≤ τ.1 134 0 0 j then fSending_reachFrom_16 N m (nI j0) (nI i0) (nI near) way (nI (j + 1)) τ else fSending_reachFrom_16 N m (nI j0) (nI i0) (nI j) (τ.1 134 0 0 j) (nI (j + 1)) τ := by
          unfold fSending_reachFrom_76
          rw [chk_t (inb_n (by omega) (by decide)), nmx, nI_clamp (by omega), nI_1]
        have e8 : (τ.1 134 0 0 j).toInt = leN (cst G R C wh wr) (rpX σ0) (cpX σ0) i0 (leX σ0) j := t4
        rw [e7]
        by_cases y : way ≤ τ.1 134 0 0 j
        · rw [if_pos y]
          have y2 := Int32.le_iff_toInt_le.mp y
          rw [e8] at y2
          rcases hC with ⟨c1, c2, c3⟩ | ⟨c1, c2, c3, c4, c5⟩
          · exfalso
            have : leN (cst G R C wh wr) (rpX σ0) (cpX σ0) i0 (leX σ0) j ≤ cst G R C wh wr i0 j - rpX σ0 i0 - cpX σ0 j := by
              unfold leN
              split <;> omega
            have := cb i0 j
            rw [c2, show (1000000000 : Int32).toInt = 1000000000 from rfl] at y2
            omega
          · refine ⟨near, way, rfl, c1, by omega, c3, c4, fun j' a b z => ?_⟩
            by_cases k : j' = j
            · rw [k]; exact y2
            · exact c5 j' a (by omega) z
        · rw [if_neg y]
          have y2 := Int32.lt_iff_toInt_lt.mp (Int32.not_le.mp y)
          rw [e8] at y2
          refine ⟨j, τ.1 134 0 0 j, rfl, h3, by omega, qf, e8, fun j' a b z => ?_⟩
          rw [e8]
          by_cases k : j' = j
          · rw [k]; exact Int.le_refl _
          · rcases hC with ⟨c1, c2, c3⟩ | ⟨c1, c2, c3, c4, c5⟩
            · rw [c3 j' a (by omega)] at z
              exact absurd z (by decide)
            · have := c5 j' a (by omega) z
              omega
      have fin : ∀ τ : St, (∀ f a b i, f ≠ 133 → f ≠ 134 → τ.1 f a b i = σ0.1 f a b i) → τ.2 = σ0.2 → (∀ i, i ≠ j → τ.1 134 0 0 i = σ.1 134 0 0 i ∧ τ.1 133 0 0 i = σ.1 133 0 0 i) → leX τ j = leN (cst G R C wh wr) (rpX σ0) (cpX σ0) i0 (leX σ0) j → (τ.1 133 0 0 j = if cst G R C wh wr i0 j - rpX σ0 i0 - cpX σ0 j < leX σ0 j then nI j0 else σ0.1 133 0 0 j) → ∃ σ' near' way', fSending_reachFrom_76 N (fSending_reachFrom_16 N m) (nI j0) (nI i0) (nI near) way (nI j) τ = fSending_reachFrom_109 N N (nI near') way' (nI 0) σ' ∧ (∀ f a b i, f ≠ 133 → f ≠ 134 → σ'.1 f a b i = σ0.1 f a b i) ∧ σ'.2 = σ0.2 ∧ (∀ j', 1 ≤ j' → j' ≤ R + C → reX σ0 j' = false → leX σ' j' = leN (cst G R C wh wr) (rpX σ0) (cpX σ0) i0 (leX σ0) j' ∧ σ'.1 133 0 0 j' = if cst G R C wh wr i0 j' - rpX σ0 i0 - cpX σ0 j' < leX σ0 j' then nI j0 else σ0.1 133 0 0 j') ∧ (∀ j', reX σ0 j' = true → σ'.1 133 0 0 j' = σ0.1 133 0 0 j') ∧ ((near' = 0 ∧ ∀ j', 1 ≤ j' → j' ≤ R + C → reX σ0 j' = true) ∨ (1 ≤ near' ∧ near' ≤ R + C ∧ reX σ0 near' = false ∧ way'.toInt = leN (cst G R C wh wr) (rpX σ0) (cpX σ0) i0 (leX σ0) near' ∧ ∀ j', 1 ≤ j' → j' ≤ R + C → reX σ0 j' = false → way'.toInt ≤ leN (cst G R C wh wr) (rpX σ0) (cpX σ0) i0 (leX σ0) j')) := by
        intro τ t1 t2 t3 t4 t5
        obtain ⟨near', way', g1, g2⟩ := go τ t1 t2 t3 t4 t5
        rw [g1]
        refine ih (j + 1) m near' τ way' (by omega) (by omega) (by omega) t1 t2 (fun j' a b z => ?_) (fun j' z => ?_) (Or.inr g2)
        · by_cases k : j' = j
          · rw [k]; exact ⟨t4, t5⟩
          · have o := hA j' a (by omega) z
            obtain ⟨s1, s2⟩ := t3 j' k
            refine ⟨?_, s2.trans o.2⟩
            rw [← o.1]
            unfold leX
            rw [s1]
        · have k : j' ≠ j := fun k => by
            rcases z with z | z
            · omega
            · rw [k, qf] at z; exact absurd z (by decide)
          obtain ⟨s1, s2⟩ := t3 j' k
          have o := hB j' (by
            rcases z with z | z
            · exact Or.inl (by omega)
            · exact Or.inr z)
          exact ⟨s1.trans o.1, s2.trans o.2⟩
      have b0 := hB j (Or.inl (Nat.le_refl j))
      by_cases y : σ.1 134 0 0 j ≤ x
      · rw [if_pos y]
        have y2 := Int32.le_iff_toInt_le.mp y
        rw [b0.1, x2] at y2
        have y3 : ¬ cst G R C wh wr i0 j - rpX σ0 i0 - cpX σ0 j < leX σ0 j := by
          unfold leX
          omega
        refine fin σ hF hF2 (fun _ _ => ⟨rfl, rfl⟩) ?_ ?_
        · unfold leN
          rw [if_neg y3]
          unfold leX
          rw [b0.1]
        · rw [if_neg y3]; exact b0.2
      · rw [if_neg y]
        have y2 := Int32.lt_iff_toInt_lt.mp (Int32.not_le.mp y)
        rw [b0.1, x2] at y2
        have y3 : cst G R C wh wr i0 j - rpX σ0 i0 - cpX σ0 j < leX σ0 j := y2
        refine fin _ (fun f a b i z1 z2 => by rw [sI_o z1, sI_o z2]; exact hF f a b i z1 z2) hF2 (fun i z => ⟨by rw [sI_o (by decide), sI_i z], by rw [sI_i z, sI_o (by decide)]⟩) ?_ ?_
        · unfold leN
          rw [if_pos y3]
          unfold leX
          rw [sI_o (by decide), sI_s, x2]
        · rw [if_pos y3, sI_s]
    · rw [if_neg q]
      have qt : reX σ0 j = true := reX_t.mpr q
      refine ih (j + 1) m near σ way (by omega) (by omega) (by omega) hF hF2 (fun j' a b z => ?_) (fun j' z => hB j' ?_) ?_
      · by_cases k : j' = j
        · rw [k, qt] at z; exact absurd z (by decide)
        · exact hA j' a (by omega) z
      · rcases z with z | z
        · exact Or.inl (by omega)
        · exact Or.inr z
      · rcases hC with ⟨c1, c2, c3⟩ | ⟨c1, c2, c3, c4, c5⟩
        · refine Or.inl ⟨c1, c2, fun j' a b => ?_⟩
          by_cases k : j' = j
          · rw [k]; exact qt
          · exact c3 j' a (by omega)
        · refine Or.inr ⟨c1, by omega, c3, c4, fun j' a b z => ?_⟩
          by_cases k : j' = j
          · rw [k, qt] at z; exact absurd z (by decide)
          · exact c5 j' a (by omega) z
theorem reach109 {N n near : Nat} {σ0 : St} {way : Int32} (hn : n ≤ 44) (h128 : σ0.1 128 0 0 0 = nI n) (ht : ∀ j, j ≤ n → σ0.1 131 0 0 j = nI (raX σ0 j) ∧ raX σ0 j ≤ 44) (hi : ∀ j j', j ≤ n → j' ≤ n → reX σ0 j = true → reX σ0 j' = true → raX σ0 j = raX σ0 j' → j = j') (hw : -3000 ≤ way.toInt ∧ way.toInt ≤ 3000) (b1 : ∀ j, j ≤ n → reX σ0 j = true → -3000 ≤ rpX σ0 (raX σ0 j) ∧ rpX σ0 (raX σ0 j) ≤ 3000) (b2 : ∀ j, 1 ≤ j → j ≤ n → -3000 ≤ cpX σ0 j ∧ cpX σ0 j ≤ 3000) (b3 : ∀ j, 1 ≤ j → j ≤ n → reX σ0 j = false → -3000 ≤ leX σ0 j ∧ leX σ0 j ≤ 3000) (h0 : reX σ0 0 = true) : ∀ (e j m : Nat) (σ : St), j + e = n + 1 → e < m → (∀ f a b i, f ≠ 129 → f ≠ 130 → f ≠ 134 → σ.1 f a b i = σ0.1 f a b i) → σ.2 = σ0.2 → (∀ j', 1 ≤ j' → j' < j → reX σ0 j' = false → leX σ j' = leX σ0 j' - way.toInt) → (∀ j', 1 ≤ j' → j' < j → reX σ0 j' = true → cpX σ j' = cpX σ0 j' - way.toInt) → (∀ j', j' < j → reX σ0 j' = true → rpX σ (raX σ0 j') = rpX σ0 (raX σ0 j') + way.toInt) → (∀ j', j ≤ j' → σ.1 134 0 0 j' = σ0.1 134 0 0 j') → (∀ j', (j ≤ j' ∨ reX σ0 j' = false) → σ.1 130 0 0 j' = σ0.1 130 0 0 j') → (∀ i, (∀ j', j' < j → reX σ0 j' = true → raX σ0 j' ≠ i) → σ.1 129 0 0 i = σ0.1 129 0 0 i) → ∃ σ', fSending_reachFrom_109 N m (nI near) way (nI j) σ = some (nI near, σ') ∧ (∀ f a b i, f ≠ 129 → f ≠ 130 → f ≠ 134 → σ'.1 f a b i = σ0.1 f a b i) ∧ σ'.2 = σ0.2 ∧ (∀ j', 1 ≤ j' → j' ≤ n → reX σ0 j' = false → leX σ' j' = leX σ0 j' - way.toInt) ∧ (∀ j', 1 ≤ j' → j' ≤ n → cpX σ' j' = if reX σ0 j' = true then cpX σ0 j' - way.toInt else cpX σ0 j') ∧ (∀ j', j' ≤ n → reX σ0 j' = true → rpX σ' (raX σ0 j') = rpX σ0 (raX σ0 j') + way.toInt) ∧ (∀ i, (∀ j', j' ≤ n → reX σ0 j' = true → raX σ0 j' ≠ i) → rpX σ' i = rpX σ0 i) := by
  intro e
  induction e with
  | zero =>
    intro j m σ h1 h2 hF hF2 hA hB hC hD hE hG
    obtain ⟨m, rfl⟩ : ∃ q, m = q + 1 := ⟨m - 1, by omega⟩
    refine ⟨σ, ?_, hF, hF2, fun j' a b z => hA j' a (by omega) z, fun j' a b => ?_, fun j' b z => hC j' (by omega) z, fun i z => ?_⟩
    · show (if σ.1 128 0 0 0 < nI j then some (nI near, σ) else _) = _
      rw [hF _ _ _ _ (by decide) (by decide) (by decide), h128, if_pos (nI_lt (by omega) (by omega))]
    · cases z : reX σ0 j' with
      | true => rw [if_pos rfl]; exact hB j' a (by omega) z
      | false =>
        rw [if_neg (by decide)]
        unfold cpX
        rw [hE j' (Or.inr z)]
    · unfold rpX
      rw [hG i fun j' a b => z j' (by omega) b]
  | succ e ih =>
    intro j m σ h1 h2 hF hF2 hA hB hC hD hE hG
    obtain ⟨m, rfl⟩ : ∃ q, m = q + 1 := ⟨m - 1, by omega⟩
    obtain ⟨t1, t2⟩ := ht j (by omega)
    have s131 : σ.1 131 0 0 j = nI (raX σ0 j) := (hF _ _ _ _ (by decide) (by decide) (by decide)).trans t1
    have e0 : fSending_reachFrom_109 N (m + 1) (nI near) way (nI j) σ = if σ0.1 135 0 0 j = 0 then fSending_reachFrom_109 N m (nI near) way (nI (j + 1)) (sI σ 134 0 0 j (σ.1 134 0 0 j - way)) else fSending_reachFrom_109 N m (nI near) way (nI (j + 1)) (sI (sI σ 129 0 0 (raX σ0 j) (σ.1 129 0 0 (raX σ0 j) + way)) 130 0 0 j (σ.1 130 0 0 j - way)) := by
      have i1 : inb (σ.1 131 0 0 (nI j).toNatClampNeg) 45 := by
        rw [nI_clamp (by omega), s131]
        exact inb_n (by omega) (by decide)
      show (if σ.1 128 0 0 0 < nI j then _ else chk (inb (nI j) 45) <| if (σ.1 135 0 0 (nI j).toNatClampNeg) = 0 then nm (sI σ 134 0 0 (nI j).toNatClampNeg ((σ.1 134 0 0 (nI j).toNatClampNeg) - way)) fun (σ1 : St) => (fSending_reachFrom_109 N m) (nI near) way (nI j + 1) σ1 else chk (inb (σ.1 131 0 0 (nI j).toNatClampNeg) 45) <| nm (sI σ 129 0 0 (σ.1 131 0 0 (nI j).toNatClampNeg).toNatClampNeg ((σ.1 129 0 0 (σ.1 131 0 0 (nI j).toNatClampNeg).toNatClampNeg) + way)) fun (σ2 : St) => nm (sI σ2 130 0 0 (nI j).toNatClampNeg ((σ2.1 130 0 0 (nI j).toNatClampNeg) - way)) fun (σ3 : St) => (fSending_reachFrom_109 N m) (nI near) way (nI j + 1) σ3) = _
      rw [hF 128 _ _ _ (by decide) (by decide) (by decide), h128, if_neg (nlt_of (by omega) (by omega) (by omega)), chk_t (inb_n (by omega) (by decide)), chk_t i1, nmx, nmx, nmx, nI_clamp (n := j) (by omega), s131, nI_clamp (n := raX σ0 j) (by omega), sI_o (by decide), nI_1, hF 135 _ _ _ (by decide) (by decide) (by decide)]
    rw [e0]
    by_cases q : σ0.1 135 0 0 j = 0
    · rw [if_pos q]
      have qf : reX σ0 j = false := reX_f.mpr q
      have j1 : 1 ≤ j := by
        by_cases z : j = 0
        · rw [z, h0] at qf; exact absurd qf (by decide)
        · omega
      refine ih (j + 1) m _ (by omega) (by omega) (fun f a b i z1 z2 z3 => by rw [sI_o z3]; exact hF f a b i z1 z2 z3) hF2 (fun j' a b z => ?_) (fun j' a b z => ?_) (fun j' b z => ?_) (fun j' b => ?_) (fun j' z => ?_) (fun i z => ?_)
      · unfold leX
        by_cases k : j' = j
        · rw [k, sI_s, hD j (Nat.le_refl j)]
          have := b3 j j1 (by omega) qf
          unfold leX at this
          rw [Int32.toInt_sub]
          exact Int.bmod_eq_of_le (by omega) (by omega)
        · rw [sI_i k]
          exact hA j' a (by omega) z
      · have k : j' ≠ j := fun k => by rw [k, qf] at z; exact absurd z (by decide)
        unfold cpX
        rw [sI_o (by decide)]
        exact hB j' a (by omega) z
      · have k : j' ≠ j := fun k => by rw [k, qf] at z; exact absurd z (by decide)
        unfold rpX
        rw [sI_o (by decide)]
        exact hC j' (by omega) z
      · rw [sI_i (by omega)]
        exact hD j' (by omega)
      · rw [sI_o (by decide)]
        refine hE j' ?_
        rcases z with z | z
        · exact Or.inl (by omega)
        · exact Or.inr z
      · rw [sI_o (by decide)]
        exact hG i fun j' a b => z j' (by omega) b
    · rw [if_neg q]
      have qt : reX σ0 j = true := reX_t.mpr q
      have nr : ∀ j', j' < j → reX σ0 j' = true → raX σ0 j' ≠ raX σ0 j := fun j' a b z => by
        have := hi j' j (by omega) (by omega) b qt z
        omega
      refine ih (j + 1) m _ (by omega) (by omega) (fun f a b i z1 z2 z3 => by rw [sI_o z2, sI_o z1]; exact hF f a b i z1 z2 z3) hF2 (fun j' a b z => ?_) (fun j' a b z => ?_) (fun j' b z => ?_) (fun j' b => ?_) (fun j' z => ?_) (fun i z => ?_)
      · have k : j' ≠ j := fun k => by rw [k, qt] at z; exact absurd z (by decide)
        unfold leX
        rw [sI_o (by decide), sI_o (by decide)]
        exact hA j' a (by omega) z
      · unfold cpX
        by_cases k : j' = j
        · rw [k, sI_s, hE j (Or.inl (Nat.le_refl j))]
          have := b2 j (by omega) (by omega)
          unfold cpX at this
          rw [Int32.toInt_sub]
          exact Int.bmod_eq_of_le (by omega) (by omega)
        · rw [sI_i k, sI_o (by decide)]
          exact hB j' a (by omega) z
      · unfold rpX
        rw [sI_o (by decide)]
        by_cases k : j' = j
        · rw [k, sI_s, hG (raX σ0 j) nr]
          have := b1 j (by omega) qt
          unfold rpX at this
          rw [Int32.toInt_add]
          exact Int.bmod_eq_of_le (by omega) (by omega)
        · rw [sI_i (nr j' (by omega) z)]
          exact hC j' (by omega) z
      · rw [sI_o (by decide), sI_o (by decide)]
        exact hD j' (by omega)
      · have k : j' ≠ j := fun k => by
          rcases z with z | z
          · omega
          · rw [k, qt] at z; exact absurd z (by decide)
        rw [sI_i k, sI_o (by decide)]
        refine hE j' ?_
        rcases z with z | z
        · exact Or.inl (by omega)
        · exact Or.inr z
      · rw [sI_o (by decide), sI_i (fun e => z j (by omega) qt e.symm)]
        exact hG i fun j' a b => z j' (by omega) b
