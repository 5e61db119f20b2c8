/-! the class gives a column to a row, if others can move on -/
def coX (σ : St) (i : Nat) : Nat := (σ.1 132 0 0 i).toNatClampNeg
abbrev P2S (G : Nat → Nat → Nat) (P V R C : Nat) (wh wr : Nat → Nat) (r : Nat) (σ : St) : Prop := (SX G P V R C wh wr σ) ∧ (PTr (cst G R C wh wr) (R + C) (rpX σ) (cpX σ) (raX σ) (coX σ) r) ∧ (∀ j, 1 ≤ j → j ≤ R + C → σ.1 131 0 0 j = nI (raX σ j)) ∧ (∀ i, 1 ≤ i → i ≤ R + C → σ.1 132 0 0 i = nI (coX σ i)) ∧ (∀ j, 1 ≤ j → j ≤ R + C → (σ.1 136 0 0 j = 0 ↔ r ≤ raX σ j)) ∧ (∀ i, 1 ≤ i → i ≤ R + C → -1000 ≤ rpX σ i ∧ rpX σ i ≤ 1) ∧ (∀ j, 1 ≤ j → j ≤ R + C → -1001 ≤ cpX σ j ∧ cpX σ j ≤ 0)
theorem P2S.x {G : Nat → Nat → Nat} {P V R C : Nat} {wh wr : Nat → Nat} {r : Nat} {σ : St} (h : P2S G P V R C wh wr r σ) : SX G P V R C wh wr σ := h.1
theorem P2S.g {G : Nat → Nat → Nat} {P V R C : Nat} {wh wr : Nat → Nat} {r : Nat} {σ : St} (h : P2S G P V R C wh wr r σ) : PTr (cst G R C wh wr) (R + C) (rpX σ) (cpX σ) (raX σ) (coX σ) r := h.2.1
theorem P2S.t {G : Nat → Nat → Nat} {P V R C : Nat} {wh wr : Nat → Nat} {r : Nat} {σ : St} (h : P2S G P V R C wh wr r σ) : ∀ j, 1 ≤ j → j ≤ R + C → σ.1 131 0 0 j = nI (raX σ j) := h.2.2.1
theorem P2S.c {G : Nat → Nat → Nat} {P V R C : Nat} {wh wr : Nat → Nat} {r : Nat} {σ : St} (h : P2S G P V R C wh wr r σ) : ∀ i, 1 ≤ i → i ≤ R + C → σ.1 132 0 0 i = nI (coX σ i) := h.2.2.2.1
theorem P2S.z {G : Nat → Nat → Nat} {P V R C : Nat} {wh wr : Nat → Nat} {r : Nat} {σ : St} (h : P2S G P V R C wh wr r σ) : ∀ j, 1 ≤ j → j ≤ R + C → (σ.1 136 0 0 j = 0 ↔ r ≤ raX σ j) := h.2.2.2.2.1
theorem P2S.bu {G : Nat → Nat → Nat} {P V R C : Nat} {wh wr : Nat → Nat} {r : Nat} {σ : St} (h : P2S G P V R C wh wr r σ) : ∀ i, 1 ≤ i → i ≤ R + C → -1000 ≤ rpX σ i ∧ rpX σ i ≤ 1 := h.2.2.2.2.2.1
theorem P2S.bw {G : Nat → Nat → Nat} {P V R C : Nat} {wh wr : Nat → Nat} {r : Nat} {σ : St} (h : P2S G P V R C wh wr r σ) : ∀ j, 1 ≤ j → j ≤ R + C → -1001 ≤ cpX σ j ∧ cpX σ j ≤ 0 := h.2.2.2.2.2.2
def quX (σ : St) (i : Nat) : Int32 := σ.1 137 0 0 i
/-- what a search writes -/
def sfX (σ ρ : St) : Prop := (∀ f a b i, f ≠ 133 → f ≠ 135 → f ≠ 137 → ρ.1 f a b i = σ.1 f a b i) ∧ ρ.2 = σ.2
theorem sfX.rfl' {σ : St} : sfX σ σ := ⟨fun _ _ _ _ _ _ _ => rfl, rfl⟩
theorem sfX.w {σ ρ : St} {f a b i : Nat} {x : Int32} (h : sfX σ ρ) (hf : f = 133 ∨ f = 135 ∨ f = 137) : sfX σ (sI ρ f a b i x) := ⟨fun f' a' b' i' z1 z2 z3 => by
  rw [sI_o (by omega)]
  exact h.1 f' a' b' i' z1 z2 z3, h.2⟩
theorem sfX.p {G : Nat → Nat → Nat} {P V R C r : Nat} {wh wr : Nat → Nat} {σ ρ : St} (h : sfX σ ρ) (p : P2S G P V R C wh wr r σ) : P2S G P V R C wh wr r ρ := by
  have e : ∀ f i, f ≠ 133 → f ≠ 135 → f ≠ 137 → ρ.1 f 0 0 i = σ.1 f 0 0 i := fun f i z1 z2 z3 => h.1 _ _ _ _ z1 z2 z3
  have eu : rpX ρ = rpX σ := funext fun i => by unfold rpX; rw [e _ _ (by decide) (by decide) (by decide)]
  have ew : cpX ρ = cpX σ := funext fun i => by unfold cpX; rw [e _ _ (by decide) (by decide) (by decide)]
  have et : raX ρ = raX σ := funext fun i => by unfold raX; rw [e _ _ (by decide) (by decide) (by decide)]
  have ec : coX ρ = coX σ := funext fun i => by unfold coX; rw [e _ _ (by decide) (by decide) (by decide)]
  refine ⟨p.x.mv fun f a b i z => h.1 f a b i (by omega) (by omega) (by omega), ?_, ?_, ?_, ?_, ?_, ?_⟩
  · rw [eu, ew, et, ec]; exact p.g
  · intro j j1 j2; rw [et, e _ _ (by decide) (by decide) (by decide)]; exact p.t j j1 j2
  · intro j j1 j2; rw [ec, e _ _ (by decide) (by decide) (by decide)]; exact p.c j j1 j2
  · intro j j1 j2; rw [et, e _ _ (by decide) (by decide) (by decide)]; exact p.z j j1 j2
  · rw [eu]; exact p.bu
  · rw [ew]; exact p.bw
/-- a search, under way -/
abbrev XS (G : Nat → Nat → Nat) (P V R C : Nat) (wh wr : Nat → Nat) (r c0 : Nat) (σ0 σ : St) (qd : Nat) : Prop := (sfX σ0 σ) ∧ (XB (cst G R C wh wr) (R + C) (rpX σ0) (cpX σ0) (raX σ0) r c0 (coX σ0 r) (reX σ) (fmX σ) (quX σ) qd) ∧ (∀ j, 1 ≤ j → j ≤ R + C → reX σ j = true → j ≠ c0 → σ.1 133 0 0 j = nI (fmX σ j)) ∧ (∀ j, reX σ j = true → σ.1 135 0 0 j = 1 ∨ R + C < j)
theorem XS.f {G : Nat → Nat → Nat} {P V R C : Nat} {wh wr : Nat → Nat} {r c0 : Nat} {σ0 σ : St} {qd : Nat} (h : XS G P V R C wh wr r c0 σ0 σ qd) : sfX σ0 σ := h.1
theorem XS.b {G : Nat → Nat → Nat} {P V R C : Nat} {wh wr : Nat → Nat} {r c0 : Nat} {σ0 σ : St} {qd : Nat} (h : XS G P V R C wh wr r c0 σ0 σ qd) : XB (cst G R C wh wr) (R + C) (rpX σ0) (cpX σ0) (raX σ0) r c0 (coX σ0 r) (reX σ) (fmX σ) (quX σ) qd := h.2.1
theorem XS.m {G : Nat → Nat → Nat} {P V R C : Nat} {wh wr : Nat → Nat} {r c0 : Nat} {σ0 σ : St} {qd : Nat} (h : XS G P V R C wh wr r c0 σ0 σ qd) : ∀ j, 1 ≤ j → j ≤ R + C → reX σ j = true → j ≠ c0 → σ.1 133 0 0 j = nI (fmX σ j) := h.2.2.1
theorem XS.o {G : Nat → Nat → Nat} {P V R C : Nat} {wh wr : Nat → Nat} {r c0 : Nat} {σ0 σ : St} {qd : Nat} (h : XS G P V R C wh wr r c0 σ0 σ qd) : ∀ j, reX σ j = true → σ.1 135 0 0 j = 1 ∨ R + C < j := h.2.2.2
theorem exch58 {N P V R C r c0 i : Nat} {G : Nat → Nat → Nat} {wh wr : Nat → Nat} {σ0 : St} {go : Int32 → Int32 → Int32 → Int32 → Int32 → St → Option (Int32 × St)} (p : P2S G P V R C wh wr r σ0) (hr : 1 ≤ r) (hr2 : r ≤ R + C) : ∀ (e j m qd : Nat) (σ : St), j + e = R + C + 1 → e < m → 1 ≤ j → XS G P V R C wh wr r c0 σ0 σ qd → i < qd → CLq (cst G R C wh wr) (R + C) (rpX σ0) (cpX σ0) (raX σ0) r (reX σ) (quX σ) qd i j → ∃ σ' qd', fSending_exchange_58 N go m (nI r) (nI c0) (nI (coX σ0 r)) (nI qd) (nI i) (nI j) σ = go (nI r) (nI c0) (nI (coX σ0 r)) (nI qd') (nI (i + 1)) σ' ∧ XS G P V R C wh wr r c0 σ0 σ' qd' ∧ qd ≤ qd' ∧ CLq (cst G R C wh wr) (R + C) (rpX σ0) (cpX σ0) (raX σ0) r (reX σ') (quX σ') qd' (i + 1) 0 := by
  have p2 := p.x.s.P2
  have v2 := p.x.s.V2
  have r2 := p.x.s.R2
  have c2 := p.x.s.C2
  have gc := p.g.c1 r hr hr2
  intro e
  induction e with
  | zero =>
    intro j m qd σ h1 h2 h3 h h4 hC
    obtain ⟨m, rfl⟩ : ∃ q, m = q + 1 := ⟨m - 1, by omega⟩
    refine ⟨σ, qd, ?_, h, Nat.le_refl _, fun i' j' jq a b d1 d2 => hC i' j' jq a (by omega) d1 d2⟩
    show (if σ.1 128 0 0 0 < nI j then go (nI r) (nI c0) (nI (coX σ0 r)) (nI qd) (nI i + 1) σ else _) = _
    rw [h.f.1 _ _ _ _ (by decide) (by decide) (by decide), p.x.n, if_pos (nI_lt (by omega) (by omega)), nI_1]
  | succ e ih =>
    intro j m qd σ h1 h2 h3 h h4 hC
    obtain ⟨m, rfl⟩ : ∃ q, m = q + 1 := ⟨m - 1, by omega⟩
    have pσ := h.f.p p
    have ql := h.b.le
    obtain ⟨jq, jq1, jq2, jq3, jq4, jq5⟩ := h.b.qe i h4
    obtain ⟨tq1, tq2, tq3⟩ := p.g.t1 jq jq1 jq2
    have so : ∀ f i, f ≠ 133 → f ≠ 135 → f ≠ 137 → σ.1 f 0 0 i = σ0.1 f 0 0 i := fun f i z1 z2 z3 => h.f.1 _ _ _ _ z1 z2 z3
    have eu : rpX σ = rpX σ0 := funext fun i => by unfold rpX; rw [so _ _ (by decide) (by decide) (by decide)]
    have ew : cpX σ = cpX σ0 := funext fun i => by unfold cpX; rw [so _ _ (by decide) (by decide) (by decide)]
    have bu := p.bu (raX σ0 jq) tq1 tq2
    have bw := p.bw j h3 (by omega)
    obtain ⟨x, x1, x2⟩ := over_e (N := N) (i := raX σ0 jq) (j := j) pσ.x tq1 h3 (by omega) (by omega) (by rw [eu]; omega) (by rw [ew]; omega)
    rw [eu, ew] at x2
    have q137 : σ.1 137 0 0 i = nI (raX σ0 jq) := jq5
    have uq : ∀ jq', 1 ≤ jq' → jq' ≤ R + C → quX σ i = nI (raX σ0 jq') → raX σ0 jq' = raX σ0 jq := fun jq' a b z => by
      have t2 := p.g.t1 jq' a b
      rw [jq5] at z
      exact (nIj (by omega) (by omega) z).symm
    have e0 : fSending_exchange_58 N go (m + 1) (nI r) (nI c0) (nI (coX σ0 r)) (nI qd) (nI i) (nI j) σ = if σ.1 135 0 0 j = 0 then if σ0.1 136 0 0 j = 0 then if x = 0 then if nI j = nI (coX σ0 r) then fSending_exchange_58 N go m (nI r) (nI c0) (nI (coX σ0 r)) (nI qd) (nI i) (nI (j + 1)) (sI (sI σ 135 0 0 j 1) 133 0 0 j (nI (raX σ0 jq))) else fSending_exchange_58 N go m (nI r) (nI c0) (nI (coX σ0 r)) (nI (qd + 1)) (nI i) (nI (j + 1)) (sI (sI (sI σ 135 0 0 j 1) 133 0 0 j (nI (raX σ0 jq))) 137 0 0 qd (nI (raX σ0 j))) else fSending_exchange_58 N go m (nI r) (nI c0) (nI (coX σ0 r)) (nI qd) (nI i) (nI (j + 1)) σ else fSending_exchange_58 N go m (nI r) (nI c0) (nI (coX σ0 r)) (nI qd) (nI i) (nI (j + 1)) σ else fSending_exchange_58 N go m (nI r) (nI c0) (nI (coX σ0 r)) (nI qd) (nI i) (nI (j + 1)) σ := by
      show (if σ.1 128 0 0 0 < nI j then _ else chk (inb (nI j) 45) <| if (σ.1 135 0 0 (nI j).toNatClampNeg) = 0 then if (σ.1 136 0 0 (nI j).toNatClampNeg) = 0 then chk (inb (nI i) 45) <| bn1 (fSending_overPrice N (σ.1 137 0 0 (nI i).toNatClampNeg) (nI j) σ) fun r1 => if r1 = 0 then nm (sI σ 135 0 0 (nI j).toNatClampNeg (1 &&& 1)) fun (σ2 : St) => nm (sI σ2 133 0 0 (nI j).toNatClampNeg (σ2.1 137 0 0 (nI i).toNatClampNeg)) fun (σ3 : St) => if nI j = nI (coX σ0 r) then (fSending_exchange_58 N go m) (nI r) (nI c0) (nI (coX σ0 r)) (nI qd) (nI i) (nI j + 1) σ3 else if 45 ≤ nI qd then (fSending_exchange_58 N go m) (nI r) (nI c0) (nI (coX σ0 r)) (nI qd) (nI i) (nI j + 1) σ3 else chk (inb (nI qd) 45) <| nm (sI σ3 137 0 0 (nI qd).toNatClampNeg (σ3.1 131 0 0 (nI j).toNatClampNeg)) fun (σ4 : St) => (fSending_exchange_58 N go m) (nI r) (nI c0) (nI (coX σ0 r)) (nI qd + 1) (nI i) (nI j + 1) σ4 else (fSending_exchange_58 N go m) (nI r) (nI c0) (nI (coX σ0 r)) (nI qd) (nI i) (nI j + 1) σ else (fSending_exchange_58 N go m) (nI r) (nI c0) (nI (coX σ0 r)) (nI qd) (nI i) (nI j + 1) σ else (fSending_exchange_58 N go m) (nI r) (nI c0) (nI (coX σ0 r)) (nI qd) (nI i) (nI j + 1) σ) = _
      rw [pσ.x.n, if_neg (nlt_of (by omega) (by omega) (by omega)), chk_t (inb_n (by omega) (by decide)), chk_t (inb_n (by omega) (by decide)), nI_clamp (n := i) (by omega), nI_clamp (n := j) (by omega), q137, x1, bn1_e, nmx, nmx, chk_t (inb_n (n := qd) (by omega) (by decide)), nmx, nI_clamp (n := qd) (by omega), if_neg (show ¬ (45 : Int32) ≤ nI qd from nI_ge (a := qd) (b := 45) (by omega) (by decide)), sI_o (by decide), q137, sI_o (by decide), sI_o (by decide), so 131 j (by decide) (by decide) (by decide), p.t j h3 (by omega), nI_1, nI_1, so 136 j (by decide) (by decide) (by decide)]
      rfl
    rw [e0]
    have skip : (r ≤ raX σ0 j → rpX σ0 (raX σ0 jq) + cpX σ0 j = cst G R C wh wr (raX σ0 jq) j → reX σ j = true) → ∃ σ' qd', fSending_exchange_58 N go m (nI r) (nI c0) (nI (coX σ0 r)) (nI qd) (nI i) (nI (j + 1)) σ = go (nI r) (nI c0) (nI (coX σ0 r)) (nI qd') (nI (i + 1)) σ' ∧ XS G P V R C wh wr r c0 σ0 σ' qd' ∧ qd ≤ qd' ∧ CLq (cst G R C wh wr) (R + C) (rpX σ0) (cpX σ0) (raX σ0) r (reX σ') (quX σ') qd' (i + 1) 0 := fun z => by
      refine ih (j + 1) m qd σ (by omega) (by omega) (by omega) h h4 fun i' j' jq' a b d1 d2 d3 d4 d5 d6 d7 => ?_
      by_cases k : i' = i ∧ j' = j
      · rw [k.1] at d5
        have := uq jq' d3 d4 d5
        rw [k.2] at d6 d7 ⊢
        rw [this] at d7
        exact z d6 d7
      · exact hC i' j' jq' a (by omega) d1 d2 d3 d4 d5 d6 d7
    by_cases k1 : σ.1 135 0 0 j = 0
    · rw [if_pos k1]
      have qf : reX σ j = false := reX_f.mpr k1
      have zj := p.z j h3 (by omega)
      by_cases k2 : σ0.1 136 0 0 j = 0
      · rw [if_pos k2]
        by_cases k3 : x = 0
        · rw [if_pos k3]
          have x3 : cst G R C wh wr (raX σ0 jq) j - rpX σ0 (raX σ0 jq) - cpX σ0 j = 0 := by rw [← x2, k3]; rfl
          -- both writes
          have fin : ∀ (τ : St) (q' : Nat), sfX σ0 τ → (reX τ = insU (reX σ) j) → fmX τ j = raX σ0 jq → τ.1 133 0 0 j = nI (raX σ0 jq) → (∀ k, k ≠ j → τ.1 133 0 0 k = σ.1 133 0 0 k) → τ.1 135 0 0 j = 1 → (∀ k, k ≠ j → τ.1 135 0 0 k = σ.1 135 0 0 k) → q' = (if j = coX σ0 r then qd else qd + 1) → (j ≠ coX σ0 r → quX τ qd = nI (raX σ0 j)) → (∀ k, k < qd → quX τ k = quX σ k) → ∃ σ' qd', fSending_exchange_58 N go m (nI r) (nI c0) (nI (coX σ0 r)) (nI q') (nI i) (nI (j + 1)) τ = go (nI r) (nI c0) (nI (coX σ0 r)) (nI qd') (nI (i + 1)) σ' ∧ XS G P V R C wh wr r c0 σ0 σ' qd' ∧ qd ≤ qd' ∧ CLq (cst G R C wh wr) (R + C) (rpX σ0) (cpX σ0) (raX σ0) r (reX σ') (quX σ') qd' (i + 1) 0 := by
            intro τ q' t1 t2 t3 t4 t5 t6 t7 t8 t9 t10
            have ql' : qd ≤ q' := by rw [t8]; split <;> omega
            have X : XS G P V R C wh wr r c0 σ0 τ q' := by
              refine ⟨t1, ?_, fun k a b z y => ?_, fun k z => ?_⟩
              · rw [t2, t8]
                exact h.b.add h4 jq1 jq2 jq3 jq4 h3 (by omega) qf (zj.mp k2) (by omega) t3 (fun k z => by unfold fmX; rw [t5 k z]) t9 t10
              · by_cases w : k = j
                · rw [w, t3]; exact t4
                · rw [t2, insU_o w] at z
                  unfold fmX
                  rw [t5 k w]
                  exact h.m k a b z y
              · by_cases w : k = j
                · rw [w]; exact Or.inl t6
                · rw [t2, insU_o w] at z
                  rw [t7 k w]
                  exact h.o k z
            obtain ⟨σ', qd', a1, a2, a3, a4⟩ := ih (j + 1) m q' τ (by omega) (by omega) (by omega) X (by omega) fun i' j' jq' a b d1 d2 d3 d4 d5 d6 d7 => by
              rw [t2]
              by_cases y : j' = j
              · rw [y]; exact insU_s _ _
              · rw [insU_o y]
                rw [t10 i' (by omega)] at d5
                exact hC i' j' jq' (by omega) (by omega) d1 d2 d3 d4 d5 d6 d7
            exact ⟨σ', qd', a1, a2, by omega, a4⟩
          have rQ : ∀ τ : St, τ.1 135 0 0 j = 1 → (∀ k, k ≠ j → τ.1 135 0 0 k = σ.1 135 0 0 k) → reX τ = insU (reX σ) j := fun τ a b => funext fun k => by
            by_cases y : k = j
            · rw [y, insU_s]
              exact reX_t.mpr (by rw [a]; decide)
            · rw [insU_o y]
              unfold reX
              rw [b k y]
          by_cases k4 : j = coX σ0 r
          · rw [if_pos (by rw [k4])]
            have w1 : (sI (sI σ 135 0 0 j 1) 133 0 0 j (nI (raX σ0 jq))).1 135 0 0 j = 1 := by rw [sI_o (by decide), sI_s]
            have w2 : ∀ k, k ≠ j → (sI (sI σ 135 0 0 j 1) 133 0 0 j (nI (raX σ0 jq))).1 135 0 0 k = σ.1 135 0 0 k := fun k z => by rw [sI_o (by decide), sI_i z]
            have w3 : (sI (sI σ 135 0 0 j 1) 133 0 0 j (nI (raX σ0 jq))).1 133 0 0 j = nI (raX σ0 jq) := sI_s _ _ _ _ _ _
            refine fin _ qd ((h.f.w (by omega)).w (by omega)) (rQ _ w1 w2) (by unfold fmX; rw [w3, nI_clamp (by omega)]) w3 (fun k z => by rw [sI_i z, sI_o (by decide)]) w1 w2 (by rw [if_pos k4]) (fun z => absurd k4 z) (fun k z => ?_)
            unfold quX
            rw [sI_o (by decide), sI_o (by decide)]
          · rw [if_neg (fun z => k4 (nIj (by omega) (by omega) z))]
            have w1 : (sI (sI (sI σ 135 0 0 j 1) 133 0 0 j (nI (raX σ0 jq))) 137 0 0 qd (nI (raX σ0 j))).1 135 0 0 j = 1 := by rw [sI_o (by decide), sI_o (by decide), sI_s]
            have w2 : ∀ k, k ≠ j → (sI (sI (sI σ 135 0 0 j 1) 133 0 0 j (nI (raX σ0 jq))) 137 0 0 qd (nI (raX σ0 j))).1 135 0 0 k = σ.1 135 0 0 k := fun k z => by rw [sI_o (by decide), sI_o (by decide), sI_i z]
            have w3 : (sI (sI (sI σ 135 0 0 j 1) 133 0 0 j (nI (raX σ0 jq))) 137 0 0 qd (nI (raX σ0 j))).1 133 0 0 j = nI (raX σ0 jq) := by rw [sI_o (by decide), sI_s]
            refine fin _ (qd + 1) (((h.f.w (by omega)).w (by omega)).w (by omega)) (rQ _ w1 w2) (by unfold fmX; rw [w3, nI_clamp (by omega)]) w3 (fun k z => by rw [sI_o (by decide), sI_i z, sI_o (by decide)]) w1 w2 (by rw [if_neg k4]) (fun _ => sI_s _ _ _ _ _ _) (fun k z => ?_)
            unfold quX
            rw [sI_i (by omega), sI_o (by decide), sI_o (by decide)]
        · rw [if_neg k3]
          refine skip fun _ z => absurd (Int32.toInt_inj.mp ?_) k3
          rw [x2, ← z]
          show _ = (0 : Int)
          omega
      · rw [if_neg k2]
        exact skip fun z => absurd (zj.mpr z) k2
    · rw [if_neg k1]
      exact skip fun _ _ => reX_t.mpr k1
theorem exch39 {N P V R C r c0 : Nat} {G : Nat → Nat → Nat} {wh wr : Nat → Nat} {σ0 : St} (hN : 100 ≤ N) (p : P2S G P V R C wh wr r σ0) (hr : 1 ≤ r) (hr2 : r ≤ R + C) : ∀ (e i m qd : Nat) (σ : St), i + e = R + C → e < m → XS G P V R C wh wr r c0 σ0 σ qd → CLq (cst G R C wh wr) (R + C) (rpX σ0) (cpX σ0) (raX σ0) r (reX σ) (quX σ) qd i 0 → ∃ σ' qd', fSending_exchange_39 N m (nI r) (nI c0) (nI (coX σ0 r)) (nI qd) (nI i) σ = fSending_exchange_170 N (nI r) (nI c0) (nI (coX σ0 r)) σ' ∧ XS G P V R C wh wr r c0 σ0 σ' qd' ∧ (reX σ' (coX σ0 r) = false → CLq (cst G R C wh wr) (R + C) (rpX σ0) (cpX σ0) (raX σ0) r (reX σ') (quX σ') qd' qd' 0) := by
  have p2 := p.x.s.P2
  have v2 := p.x.s.V2
  have r2 := p.x.s.R2
  have c2 := p.x.s.C2
  have gc := p.g.c1 r hr hr2
  intro e
  induction e with
  | zero =>
    intro i m qd σ h1 h2 h hC
    obtain ⟨m, rfl⟩ : ∃ q, m = q + 1 := ⟨m - 1, by omega⟩
    have ql := h.b.le
    refine ⟨σ, qd, ?_, h, fun _ i' j' jq a b => hC i' j' jq a (by omega)⟩
    show (if nI qd ≤ nI i then fSending_exchange_170 N (nI r) (nI c0) (nI (coX σ0 r)) σ else _) = _
    rw [if_pos (Int32.le_iff_toInt_le.mpr (by rw [nI_toInt (by omega), nI_toInt (by omega)]; omega))]
  | succ e ih =>
    intro i m qd σ h1 h2 h hC
    obtain ⟨m, rfl⟩ : ∃ q, m = q + 1 := ⟨m - 1, by omega⟩
    have ql := h.b.le
    have e0 : fSending_exchange_39 N (m + 1) (nI r) (nI c0) (nI (coX σ0 r)) (nI qd) (nI i) σ = if nI qd ≤ nI i then fSending_exchange_170 N (nI r) (nI c0) (nI (coX σ0 r)) σ else if σ.1 135 0 0 (coX σ0 r) = 0 then fSending_exchange_58 N (fSending_exchange_39 N m) N (nI r) (nI c0) (nI (coX σ0 r)) (nI qd) (nI i) (nI 1) σ else fSending_exchange_170 N (nI r) (nI c0) (nI (coX σ0 r)) σ := by
      show (if nI qd ≤ nI i then fSending_exchange_170 N (nI r) (nI c0) (nI (coX σ0 r)) σ else chk (inb (nI (coX σ0 r)) 45) <| if (σ.1 135 0 0 (nI (coX σ0 r)).toNatClampNeg) = 0 then fSending_exchange_58 N (fSending_exchange_39 N m) N (nI r) (nI c0) (nI (coX σ0 r)) (nI qd) (nI i) (nI 1) σ else fSending_exchange_170 N (nI r) (nI c0) (nI (coX σ0 r)) σ) = _
      rw [chk_t (inb_n (by omega) (by decide)), nI_clamp (n := coX σ0 r) (by omega)]
    rw [e0]
    by_cases k : qd ≤ i
    · rw [if_pos (Int32.le_iff_toInt_le.mpr (by rw [nI_toInt (by omega), nI_toInt (by omega)]; omega))]
      exact ⟨σ, qd, rfl, h, fun _ i' j' jq a b => hC i' j' jq a (by omega)⟩
    · rw [if_neg (nI_ge (by omega) (by omega))]
      by_cases k2 : σ.1 135 0 0 (coX σ0 r) = 0
      · rw [if_pos k2]
        obtain ⟨σ', qd', a1, a2, a3, a4⟩ := exch58 (N := N) (i := i) (c0 := c0) (go := fSending_exchange_39 N m) p hr hr2 (R + C) 1 N qd σ (by omega) (by omega) (Nat.le_refl 1) h (by omega) (fun i' j' jq a b d1 d2 => hC i' j' jq a (by omega) d1 d2)
        rw [a1]
        exact ih (i + 1) m qd' σ' (by omega) (by omega) a2 a4
      · rw [if_neg k2]
        exact ⟨σ, qd, rfl, h, fun z => by
          rw [reX_t.mpr k2] at z
          exact absurd z (by decide)⟩
theorem move5 {N P V R C r c0 : Nat} {G : Nat → Nat → Nat} {wh wr : Nat → Nat} {σ0 σ1 : St} {qd : Nat} {o : Nat → Nat} (p : P2S G P V R C wh wr r σ0) (hr : 1 ≤ r) (hr2 : r ≤ R + C) (hc : c0 ≤ R + C) (X : XS G P V R C wh wr r c0 σ0 σ1 qd) (o0 : o c0 = 0) (ho : ∀ j, 1 ≤ j → j ≤ R + C → reX σ1 j = true → j ≠ c0 → ∃ j', 1 ≤ j' ∧ j' ≤ R + C ∧ reX σ1 j' = true ∧ j' ≠ coX σ0 r ∧ fmX σ1 j = raX σ0 j' ∧ o j' < o j ∧ o j < cnt (reX σ1) (R + C + 1) ∧ rpX σ0 (raX σ0 j') + cpX σ0 j = cst G R C wh wr (raX σ0 j') j) : ∀ (e f m x4 : Nat) (σ : St), o f ≤ e → x4 + e ≤ R + C → e < m → (∀ f a b i, f ≠ 131 → f ≠ 132 → σ.1 f a b i = σ1.1 f a b i) → σ.2 = σ1.2 → (∀ j, 1 ≤ j → j ≤ R + C → j ≠ f → σ.1 131 0 0 j = nI (raX σ j)) → (∀ i, 1 ≤ i → i ≤ R + C → i ≠ r → σ.1 132 0 0 i = nI (coX σ i)) → MVg (cst G R C wh wr) (R + C) (rpX σ0) (cpX σ0) (raX σ0) r (coX σ0 r) (reX σ1) o (raX σ) (coX σ) f → ∃ σ', fSending_moveOn_5 N m (nI c0) (nI f) (nI x4) σ = some σ' ∧ (∀ f a b i, f ≠ 131 → f ≠ 132 → σ'.1 f a b i = σ1.1 f a b i) ∧ σ'.2 = σ1.2 ∧ (∀ j, 1 ≤ j → j ≤ R + C → j ≠ c0 → σ'.1 131 0 0 j = nI (raX σ' j)) ∧ (∀ i, 1 ≤ i → i ≤ R + C → i ≠ r → σ'.1 132 0 0 i = nI (coX σ' i)) ∧ MVg (cst G R C wh wr) (R + C) (rpX σ0) (cpX σ0) (raX σ0) r (coX σ0 r) (reX σ1) o (raX σ') (coX σ') c0 := by
  have p2 := p.x.s.P2
  have v2 := p.x.s.V2
  have r2 := p.x.s.R2
  have c2 := p.x.s.C2
  have x1 := (X.f.p p).x
  intro e
  induction e with
  | zero =>
    intro f m x4 σ h1 h2 h3 hF hF2 hT hC M
    obtain ⟨m, rfl⟩ : ∃ q, m = q + 1 := ⟨m - 1, by omega⟩
    have : f = c0 := Classical.byContradiction fun z => by
      obtain ⟨_, _, _, _, _, _, y, _⟩ := ho f M.f.1 M.f.2.1 M.f.2.2 z
      omega
    subst this
    refine ⟨σ, ?_, hF, hF2, hT, hC, M⟩
    show (if σ.1 128 0 0 0 < nI x4 then some σ else if nI f = nI f then some σ else _) = _
    by_cases y : σ.1 128 0 0 0 < nI x4
    · rw [if_pos y]
    · rw [if_neg y, if_pos rfl]
  | succ e ih =>
    intro f m x4 σ h1 h2 h3 hF hF2 hT hC M
    obtain ⟨m, rfl⟩ : ∃ q, m = q + 1 := ⟨m - 1, by omega⟩
    by_cases k : f = c0
    · subst k
      refine ⟨σ, ?_, hF, hF2, hT, hC, M⟩
      show (if σ.1 128 0 0 0 < nI x4 then some σ else if nI f = nI f then some σ else _) = _
      by_cases y : σ.1 128 0 0 0 < nI x4
      · rw [if_pos y]
      · rw [if_neg y, if_pos rfl]
    · have mf := M.f
      obtain ⟨j', a1, a2, a3, a4, a5, a6, a7, a8⟩ := ho f M.f.1 M.f.2.1 M.f.2.2 k
      obtain ⟨tq1, tq2, tq3⟩ := p.g.t1 j' a1 a2
      have nf : j' ≠ f := fun z => by rw [z] at a6; omega
      have tj := M.o j' a1 a2 a3 a4 a6
      have tb := M.b j' a1 a2 nf
      rw [tj] at tb
      have s133 : σ.1 133 0 0 f = nI (raX σ0 j') := (hF _ _ _ _ (by decide) (by decide)).trans (by rw [← a5]; exact X.m f mf.1 mf.2.1 mf.2.2 k)
      have s132 : σ.1 132 0 0 (raX σ0 j') = nI j' := by rw [hC _ tq1 tq2 tb.2.2.1, tb.2.2.2]
      have e0 : fSending_moveOn_5 N (m + 1) (nI c0) (nI f) (nI x4) σ = fSending_moveOn_5 N m (nI c0) (nI j') (nI (x4 + 1)) (sI (sI σ 132 0 0 (raX σ0 j') (nI f)) 131 0 0 f (nI (raX σ0 j'))) := by
        have i1 : inb (σ.1 133 0 0 (nI f).toNatClampNeg) 45 := by
          rw [nI_clamp (by omega), s133]
          exact inb_n (by omega) (by decide)
        show (if σ.1 128 0 0 0 < nI x4 then _ else if nI f = nI c0 then some σ else chk (inb (nI f) 45) <| nm ((σ.1 133 0 0 (nI f).toNatClampNeg)) fun (y1 : Int32) => chk (inb y1 45) <| nm ((σ.1 132 0 0 y1.toNatClampNeg)) fun (y2 : Int32) => nm (sI σ 132 0 0 y1.toNatClampNeg (nI f)) fun (σ3 : St) => nm (sI σ3 131 0 0 (nI f).toNatClampNeg y1) fun (σ4 : St) => (fSending_moveOn_5 N m) (nI c0) y2 (nI x4 + 1) σ4) = _
        rw [hF 128 _ _ _ (by decide) (by decide), x1.n, if_neg (nlt_of (by omega) (by omega) (by omega)), if_neg (fun z => k (nIj (by omega) (by omega) z)), chk_t (inb_n (by omega) (by decide)), nmx, chk_t i1, nmx, nmx, nmx, nI_clamp (n := f) (by omega), s133, nI_clamp (n := raX σ0 j') (by omega), s132, nI_1]
      rw [e0]
      obtain ⟨τ, hτ⟩ : ∃ τ, τ = sI (sI σ 132 0 0 (raX σ0 j') (nI f)) 131 0 0 f (nI (raX σ0 j')) := ⟨_, rfl⟩
      have t131 : ∀ j, j ≠ f → τ.1 131 0 0 j = σ.1 131 0 0 j := fun j z => by rw [hτ, sI_i z, sI_o (by decide)]
      have t132 : ∀ i, i ≠ raX σ0 j' → τ.1 132 0 0 i = σ.1 132 0 0 i := fun i z => by rw [hτ, sI_o (by decide), sI_i z]
      have u131 : τ.1 131 0 0 f = nI (raX σ0 j') := by rw [hτ, sI_s]
      have u132 : τ.1 132 0 0 (raX σ0 j') = nI f := by rw [hτ, sI_o (by decide), sI_s]
      have r1 : raX τ f = raX σ0 j' := by rw [show raX τ f = (τ.1 131 0 0 f).toNatClampNeg from rfl, u131]; exact nI_clamp (by omega)
      have r3 : ∀ j, j ≠ f → raX τ j = raX σ j := fun j z => by unfold raX; rw [t131 j z]
      have q1 : coX τ (raX σ0 j') = f := by rw [show coX τ (raX σ0 j') = (τ.1 132 0 0 (raX σ0 j')).toNatClampNeg from rfl, u132]; exact nI_clamp (by omega)
      have q3 : ∀ i, i ≠ raX σ0 j' → coX τ i = coX σ i := fun i z => by unfold coX; rw [t132 i z]
      rw [← hτ]
      refine ih j' m (x4 + 1) τ (by omega) (by omega) (by omega) (fun f' a b i z1 z2 => by rw [hτ, sI_o z1, sI_o z2]; exact hF f' a b i z1 z2) (by rw [hτ]; exact hF2) (fun j b1 b2 b3 => ?_) (fun i b1 b2 b3 => ?_) (M.step X.b.qs a1 a2 a3 a4 a6 a8 q1 q3 r1 r3).1
      · by_cases y : j = f
        · rw [y, r1, u131]
        · rw [r3 j y, t131 j y]
          exact hT j b1 b2 y
      · by_cases y : i = raX σ0 j'
        · rw [y, q1, u132]
        · rw [q3 i y, t132 i y]
          exact hC i b1 b2 b3
