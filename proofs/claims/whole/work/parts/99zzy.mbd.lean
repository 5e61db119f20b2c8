/-! a row is settled in the class: the first place that is best -/
def exX (σ ρ : St) : Prop := (∀ f a b i, ¬ (131 ≤ f ∧ f ≤ 137 ∧ f ≠ 134 ∧ f ≠ 136) → ρ.1 f a b i = σ.1 f a b i) ∧ ρ.2 = σ.2
theorem exX.rfl' {σ : St} : exX σ σ := ⟨fun _ _ _ _ _ => rfl, rfl⟩
theorem exX.tr {σ ρ τ : St} (h : exX σ ρ) (k : exX ρ τ) : exX σ τ := ⟨fun f a b i z => (k.1 f a b i z).trans (h.1 f a b i z), k.2.trans h.2⟩
theorem cnt_sg {c0 : Nat} : ∀ n, c0 < n → cnt (fun j => decide (j = c0)) n = 1 := fun n h => by
  have := cnt_add (p := fun _ => false) (q := fun j => decide (j = c0)) (i := c0) rfl (by simp) (fun x z => by simp [z]) n h
  rw [this, cnt_zero _ _ (fun _ _ => rfl)]
theorem exchange_e {N P V R C r c0 : Nat} {G : Nat → Nat → Nat} {wh wr : Nat → Nat} {σ : St} (hN : 100 ≤ N) (p : P2S G P V R C wh wr r σ) (hr : r ≤ R) (c1 : 1 ≤ c0) (c2 : c0 ≤ C) (hs : r ≤ raX σ c0) (hne : coX σ r ≠ c0) (ht : rpX σ r + cpX σ c0 = cst G R C wh wr r c0) : ∃ b : Bool, ∃ σ', fSending_exchange N (nI r) (nI c0) σ = some (if b then 1 else 0, σ') ∧ exX σ σ' ∧ P2S G P V R C wh wr r σ' ∧ (∀ j, 1 ≤ j → j ≤ R + C → (raX σ' j < r ↔ raX σ j < r)) ∧ (b = true → coX σ' r = c0) ∧ (b = false → ∃ u w : Nat → Int, PTr (cst G R C wh wr) (R + C) u w (raX σ') (coX σ') r ∧ u r + w c0 < cst G R C wh wr r c0) := by
  have p2 := p.x.s.P2
  have v2 := p.x.s.V2
  have r2 := p.x.s.R2
  have cc2 := p.x.s.C2
  have r1 := p.g.r1
  have gc := p.g.c1 r r1 (by omega)
  have tc := p.g.t1 c0 c1 (by omega)
  obtain ⟨σa, a1, a2, a3, a4⟩ := unmark_reached (N := N) hN σ
  obtain ⟨τ, hτ⟩ : ∃ τ, τ = sI (sI σa 135 0 0 c0 1) 137 0 0 0 (nI (raX σ c0)) := ⟨_, rfl⟩
  have tf : sfX σ τ := ⟨fun f a b i z1 z2 z3 => by rw [hτ, sI_o z3, sI_o z2]; exact a2 f a b i z2, by rw [hτ]; exact a3⟩
  have tq : ∀ j, j < 45 → reX τ j = decide (j = c0) := fun j hj => by
    by_cases y : j = c0
    · rw [decide_eq_true y, y]
      exact reX_t.mpr (by rw [hτ, sI_o (by decide), sI_s]; decide)
    · rw [decide_eq_false y]
      exact reX_f.mpr (by rw [hτ, sI_o (by decide), sI_i y]; exact a4 j hj)
  have tj : ∀ j, j ≤ R + C → reX τ j = true → j = c0 := fun j hj z => by
    rw [tq j (by omega)] at z
    exact of_decide_eq_true z
  have X0 : XS G P V R C wh wr r c0 σ τ 1 := by
    refine ⟨tf, ⟨by rw [tq 0 (by omega)]; exact decide_eq_false (by omega), by rw [tq c0 (by omega)]; exact decide_eq_true rfl, fun j j1 j2 z => by rw [tj j j2 z]; exact hs, ?_, fun i hi => ⟨c0, c1, by omega, by rw [tq c0 (by omega)]; exact decide_eq_true rfl, fun z => hne z.symm, ?_⟩, fun j j1 j2 z _ => ⟨0, by omega, ?_⟩, ⟨fun _ => 0, rfl, fun j j1 j2 z y => absurd (tj j j2 z) y⟩⟩, fun j j1 j2 z y => absurd (tj j j2 z) y, fun j z => ?_⟩
    · rw [tq _ (by omega), if_neg (by rw [decide_eq_false hne]; decide), cnt_cg (p := reX τ) (q := fun j => decide (j = c0)) (R + C + 1) (fun j hj => tq j (by omega)), cnt_sg _ (by omega)]
    · rw [show i = 0 by omega]
      unfold quX
      rw [hτ, sI_s]
    · rw [tj j j2 z]
      unfold quX
      rw [hτ, sI_s]
    · by_cases y : j ≤ R + C
      · rw [tj j y z, hτ, sI_o (by decide), sI_s]
        exact Or.inl rfl
      · exact Or.inr (by omega)
  obtain ⟨σb, qd, b1, b2, b3⟩ := exch39 (N := N) (c0 := c0) hN p r1 (by omega) (R + C) 0 N 1 τ (by omega) (by omega) X0 (fun i j jq _ z => absurd z (by omega))
  have e0 : fSending_exchange N (nI r) (nI c0) σ = fSending_exchange_170 N (nI r) (nI c0) (nI (coX σ r)) σb := by
    unfold fSending_exchange
    rw [chk_t (inb_n (by omega) (by decide)), nmx, a1, bn1_e, chk_t (inb_n (by omega) (by decide)), nmx, nmx, nI_clamp (n := r) (by omega), nI_clamp (n := c0) (by omega), p.c r r1 (by omega), sI_o (by decide), a2 _ _ _ _ (by decide), p.t c0 c1 (by omega)]
    rw [show sI (sI σa 135 0 0 c0 (1 &&& 1)) 137 0 0 0 (nI (raX σ c0)) = τ from hτ.symm]
    exact b1
  rw [e0]
  have pb := b2.f.p p
  have so : ∀ f i, f ≠ 133 → f ≠ 135 → f ≠ 137 → σb.1 f 0 0 i = σ.1 f 0 0 i := fun f i z1 z2 z3 => b2.f.1 _ _ _ _ z1 z2 z3
  have et : raX σb = raX σ := funext fun i => by unfold raX; rw [so _ _ (by decide) (by decide) (by decide)]
  have ec : coX σb = coX σ := funext fun i => by unfold coX; rw [so _ _ (by decide) (by decide) (by decide)]
  have e1 : fSending_exchange_170 N (nI r) (nI c0) (nI (coX σ r)) σb = if σb.1 135 0 0 (coX σ r) = 0 then fSending_exchange_199 N (nI (coX σ r)) σb else bn1 (fSending_moveOn_5 N N (nI c0) (nI (coX σ r)) (nI 0) σb) fun σ1 => fSending_exchange_199 N (nI (coX σ r)) (sI (sI σ1 132 0 0 r (nI c0)) 131 0 0 c0 (nI r)) := by
    show chk (inb (nI (coX σ r)) 45) (if (σb.1 135 0 0 (nI (coX σ r)).toNatClampNeg) = 0 then fSending_exchange_199 N (nI (coX σ r)) σb else bn1 (fSending_moveOn_5 N N (nI c0) (nI (coX σ r)) (nI 0) σb) fun σ1 => chk (inb (nI r) 45) <| nm (sI σ1 132 0 0 (nI r).toNatClampNeg (nI c0)) fun (σ2 : St) => chk (inb (nI c0) 45) <| nm (sI σ2 131 0 0 (nI c0).toNatClampNeg (nI r)) fun (σ3 : St) => fSending_exchange_199 N (nI (coX σ r)) σ3) = _
    rw [chk_t (inb_n (by omega) (by decide)), nI_clamp (n := coX σ r) (by omega)]
    by_cases z : σb.1 135 0 0 (coX σ r) = 0
    · rw [if_pos z, if_pos z]
    · rw [if_neg z, if_neg z]
      congr 1
      funext σ1
      rw [chk_t (inb_n (by omega) (by decide)), nmx, chk_t (inb_n (by omega) (by decide)), nmx, nI_clamp (n := r) (by omega), nI_clamp (n := c0) (by omega)]
  have e2 : ∀ ρ : St, fSending_exchange_199 N (nI (coX σ r)) ρ = some ((ρ.1 135 0 0 (coX σ r)) &&& 1, ρ) := fun ρ => by
    unfold fSending_exchange_199
    rw [chk_t (inb_n (by omega) (by decide)), nI_clamp (n := coX σ r) (by omega)]
  rw [e1]
  by_cases z : σb.1 135 0 0 (coX σ r) = 0
  · rw [if_pos z, e2, z]
    have qf : reX σb (coX σ r) = false := reX_f.mpr z
    obtain ⟨n1, n2, n3⟩ := no_way p.g b2.b qf (b3 qf)
    refine ⟨false, σb, rfl, ⟨fun f a b i y => b2.f.1 f a b i (by omega) (by omega) (by omega), b2.f.2⟩, pb, fun j _ _ => by rw [et], fun y => absurd y (by decide), fun _ => ⟨uS (rpX σ) (coX σ) (reX σb), wS (cpX σ) (reX σb), by rw [et, ec]; exact n1, by rw [n2, n3]; omega⟩⟩
  · rw [if_neg z]
    have qt : reX σb (coX σ r) = true := reX_t.mpr z
    obtain ⟨o, o0, o1⟩ := b2.b.od
    have ql := b2.b.le
    have og : o (coX σ r) ≤ R + C := by
      obtain ⟨_, _, _, _, _, _, _, y, _⟩ := o1 (coX σ r) gc.1 gc.2.1 qt hne
      omega
    have M0 : MVg (cst G R C wh wr) (R + C) (rpX σ) (cpX σ) (raX σ) r (coX σ r) (reX σb) o (raX σ) (coX σ) (coX σ r) := by
      refine ⟨⟨gc.1, gc.2.1, qt⟩, fun i i1 i2 i3 => ?_, fun j j1 j2 j3 => ?_, fun i i1 i2 _ => p.g.ti i i1 i2, fun _ _ _ _ => Iff.rfl, fun _ _ _ _ _ _ => rfl⟩
      · obtain ⟨k1, k2, k3⟩ := p.g.c1 i i1 i2
        refine ⟨k1, k2, fun y => ?_, k3⟩
        rw [y, gc.2.2] at k3
        exact i3 k3.symm
      · obtain ⟨k1, k2, k3⟩ := p.g.t1 j j1 j2
        refine ⟨k1, k2, fun y => ?_, k3⟩
        rw [y] at k3
        exact j3 k3.symm
    obtain ⟨σc, d1, d2, d3, d4, d5, d6⟩ := move5 (N := N) (c0 := c0) p r1 (by omega) (by omega) b2 o0 o1 (R + C) (coX σ r) N 0 σb og (by omega) (by omega) (fun _ _ _ _ _ _ => rfl) rfl (fun j j1 j2 _ => by rw [et, so _ _ (by decide) (by decide) (by decide)]; exact p.t j j1 j2) (fun i i1 i2 _ => by rw [ec, so _ _ (by decide) (by decide) (by decide)]; exact p.c i i1 i2) (by rw [et, ec]; exact M0)
    rw [d1, bn1_e, e2]
    obtain ⟨ρ, hρ⟩ : ∃ ρ, ρ = sI (sI σc 132 0 0 r (nI c0)) 131 0 0 c0 (nI r) := ⟨_, rfl⟩
    have r135 : ρ.1 135 0 0 (coX σ r) = 1 := by
      rw [hρ, sI_o (by decide), sI_o (by decide), d2 _ _ _ _ (by decide) (by decide)]
      exact (b2.o _ qt).resolve_right (by omega)
    have rF : ∀ f a b i, f ≠ 131 → f ≠ 132 → ρ.1 f a b i = σb.1 f a b i := fun f a b i z1 z2 => by rw [hρ, sI_o z1, sI_o z2]; exact d2 f a b i z1 z2
    have x131 : ρ.1 131 0 0 c0 = nI r := by rw [hρ, sI_s]
    have y131 : ∀ j, j ≠ c0 → ρ.1 131 0 0 j = σc.1 131 0 0 j := fun j y => by rw [hρ, sI_i y, sI_o (by decide)]
    have x132 : ρ.1 132 0 0 r = nI c0 := by rw [hρ, sI_o (by decide), sI_s]
    have y132 : ∀ i, i ≠ r → ρ.1 132 0 0 i = σc.1 132 0 0 i := fun i y => by rw [hρ, sI_o (by decide), sI_i y]
    have ra1 : raX ρ c0 = r := by rw [show raX ρ c0 = (ρ.1 131 0 0 c0).toNatClampNeg from rfl, x131]; exact nI_clamp (by omega)
    have ra2 : ∀ j, j ≠ c0 → raX ρ j = raX σc j := fun j y => by unfold raX; rw [y131 j y]
    have co1 : coX ρ r = c0 := by rw [show coX ρ r = (ρ.1 132 0 0 r).toNatClampNeg from rfl, x132]; exact nI_clamp (by omega)
    have co2 : ∀ i, i ≠ r → coX ρ i = coX σc i := fun i y => by unfold coX; rw [y132 i y]
    obtain ⟨L1, L2⟩ := d6.last p.g (by omega) b2.b.qs ht co1 co2 ra1 ra2
    have eu : rpX ρ = rpX σ := funext fun i => by unfold rpX; rw [rF _ _ _ _ (by decide) (by decide), so _ _ (by decide) (by decide) (by decide)]
    have ew : cpX ρ = cpX σ := funext fun i => by unfold cpX; rw [rF _ _ _ _ (by decide) (by decide), so _ _ (by decide) (by decide) (by decide)]
    rw [← hρ, r135]
    refine ⟨true, ρ, rfl, ⟨fun f a b i y => by rw [rF f a b i (by omega) (by omega)]; exact b2.f.1 f a b i (by omega) (by omega) (by omega), by rw [hρ]; exact d3.trans b2.f.2⟩, ⟨pb.x.mv fun f a b i y => rF f a b i (by omega) (by omega), by rw [eu, ew]; exact L1, fun j j1 j2 => ?_, fun i i1 i2 => ?_, fun j j1 j2 => ?_, by rw [eu]; exact p.bu, by rw [ew]; exact p.bw⟩, L2, fun _ => co1, fun y => absurd y (by decide)⟩
    · by_cases y : j = c0
      · rw [y, ra1, x131]
      · rw [ra2 j y, y131 j y]
        exact d4 j j1 j2 y
    · by_cases y : i = r
      · rw [y, co1, x132]
      · rw [co2 i y, y132 i y]
        exact d5 i i1 i2 y
    · rw [rF _ _ _ _ (by decide) (by decide), so _ _ (by decide) (by decide) (by decide)]
      have := L2 j j1 j2
      have := p.z j j1 j2
      rw [this]
      omega
/-- what a row's settling may write -/
def stX (σ ρ : St) : Prop := (∀ f a b i, ¬ (131 ≤ f ∧ f ≤ 137 ∧ f ≠ 134) → f ≠ 123 → ρ.1 f a b i = σ.1 f a b i) ∧ ρ.2 = σ.2
theorem stX.rfl' {σ : St} : stX σ σ := ⟨fun _ _ _ _ _ _ => rfl, rfl⟩
theorem stX.tr {σ ρ τ : St} (h : stX σ ρ) (k : stX ρ τ) : stX σ τ := ⟨fun f a b i y z => (k.1 f a b i y z).trans (h.1 f a b i y z), k.2.trans h.2⟩
theorem exX.s {σ ρ : St} (h : exX σ ρ) : stX σ ρ := ⟨fun f a b i y _ => h.1 f a b i (by omega), h.2⟩
theorem P2S.nx {G : Nat → Nat → Nat} {P V R C r : Nat} {wh wr : Nat → Nat} {σ : St} (p : P2S G P V R C wh wr r σ) (hr : r ≤ R) : P2S G P V R C wh wr (r + 1) (sI σ 136 0 0 (coX σ r) 1) := by
  have gc := p.g.c1 r p.g.r1 (by omega)
  have eu : rpX (sI σ 136 0 0 (coX σ r) 1) = rpX σ := funext fun i => by unfold rpX; rw [sI_o (by decide)]
  have ew : cpX (sI σ 136 0 0 (coX σ r) 1) = cpX σ := funext fun i => by unfold cpX; rw [sI_o (by decide)]
  have et : raX (sI σ 136 0 0 (coX σ r) 1) = raX σ := funext fun i => by unfold raX; rw [sI_o (by decide)]
  have ec : coX (sI σ 136 0 0 (coX σ r) 1) = coX σ := funext fun i => by unfold coX; rw [sI_o (by decide)]
  refine ⟨p.x.mv fun f a b i z => sI_o (by omega), ?_, fun j j1 j2 => ?_, fun i i1 i2 => ?_, fun j j1 j2 => ?_, by rw [eu]; exact p.bu, by rw [ew]; exact p.bw⟩
  · rw [eu, ew, et, ec]
    exact ⟨by omega, p.g.t1, p.g.c1, fun i j i1 i2 j1 j2 j3 => p.g.f i j (by omega) i2 j1 j2 (by omega), fun i i1 i2 => p.g.ti i (by omega) i2⟩
  · rw [et, sI_o (by decide)]; exact p.t j j1 j2
  · rw [ec, sI_o (by decide)]; exact p.c i i1 i2
  · rw [et]
    by_cases y : j = coX σ r
    · rw [y, sI_s, gc.2.2]
      exact ⟨fun z => absurd z (by decide), fun z => by omega⟩
    · rw [sI_i y, p.z j j1 j2]
      have : raX σ j ≠ r := fun z => by
        have := (p.g.t1 j j1 j2).2.2
        rw [z] at this
        exact y this.symm
      omega
theorem settle2 {N P V R C r q k : Nat} {G : Nat → Nat → Nat} {wh wr : Nat → Nat} {U : Nat → Bool} (hN : 100 ≤ N) (hr : r ≤ R) (hq : wh (r - 1) = q) (hk : P - q = k + 1) : ∀ (e c m : Nat) (σ : St), c + e = C + 1 → e < m → 1 ≤ c → P2S G P V R C wh wr r σ → (∀ c, c < C → (U (wr c) = true ↔ raX σ (c + 1) < r)) → (∀ c', c' + 1 < c → okR G V k q U (wr c') = false) → ∃ σ1 σ', exX σ σ1 ∧ P2S G P V R C wh wr r σ1 ∧ (∀ c, c < C → (U (wr c) = true ↔ raX σ1 (c + 1) < r)) ∧ ((∃ c1, coX σ1 r = c1 + 1 ∧ c1 < C ∧ okR G V k q U (wr c1) = true ∧ (∀ c', c' < c1 → okR G V k q U (wr c') = false) ∧ σ' = sI (sI σ1 136 0 0 (coX σ1 r) 1) 123 0 0 q (nI (wr c1)) ∧ fSending_settleRow_2 N m (nI r) (nI c) σ = some (nI (G q (wr c1)), σ')) ∨ (C < coX σ1 r ∧ (∀ c', c' < C → okR G V k q U (wr c') = false) ∧ σ' = sI σ1 136 0 0 (coX σ1 r) 1 ∧ fSending_settleRow_2 N m (nI r) (nI c) σ = some (nI 0, σ'))) := by
  intro e
  induction e with
  | zero =>
    intro c m σ h1 h2 h3 p hU hC
    obtain ⟨m, rfl⟩ : ∃ q, m = q + 1 := ⟨m - 1, by omega⟩
    have p2 := p.x.s.P2
    have v2 := p.x.s.V2
    have r2 := p.x.s.R2
    have cc2 := p.x.s.C2
    have gc := p.g.c1 r p.g.r1 (by omega)
    have r1 := p.g.r1
    refine ⟨σ, _, exX.rfl', p, hU, Or.inr ⟨Nat.lt_of_not_le fun z => ?_, fun c' a => hC c' (by omega), rfl, ?_⟩⟩
    · have y := ok_yes p.x.s p.g hr hq hk hU z
      rw [hC (coX σ r - 1) (by omega)] at y
      exact absurd y (by decide)
    · have i1 : inb (σ.1 132 0 0 (nI r).toNatClampNeg) 45 := by
        rw [nI_clamp (by omega), p.c r r1 (by omega)]
        exact inb_n (by omega) (by decide)
      show (if σ.1 127 0 0 0 < nI c then chk (inb (nI r) 45) <| chk (inb (σ.1 132 0 0 (nI r).toNatClampNeg) 45) <| nm (sI σ 136 0 0 (σ.1 132 0 0 (nI r).toNatClampNeg).toNatClampNeg (1 &&& 1)) fun (σ1 : St) => some (0, σ1) else _) = _
      rw [p.x.c, if_pos (nI_lt (by omega) (by omega)), chk_t (inb_n (by omega) (by decide)), chk_t i1, nmx, nI_clamp (n := r) (by omega), p.c r r1 (by omega), nI_clamp (n := coX σ r) (by omega)]
      rfl
  | succ e ih =>
    intro c m σ h1 h2 h3 p hU hC
    obtain ⟨m, rfl⟩ : ∃ q, m = q + 1 := ⟨m - 1, by omega⟩
    have p2 := p.x.s.P2
    have v2 := p.x.s.V2
    have r2 := p.x.s.R2
    have cc2 := p.x.s.C2
    have r1 := p.g.r1
    have gc := p.g.c1 r r1 (by omega)
    have q20 := p.x.s.a (r - 1) (by omega)
    rw [hq] at q20
    have bu := p.bu r r1 (by omega)
    have bw := p.bw c h3 (by omega)
    obtain ⟨x, x1, x2⟩ := over_e (N := N) (i := r) (j := c) p.x r1 h3 (by omega) (by omega) (by omega) (by omega)
    have tc := p.g.t1 c h3 (by omega)
    have uc := hU (c - 1) (by omega)
    rw [show c - 1 + 1 = c by omega] at uc
    have zc := p.z c h3 (by omega)
    have wc := p.x.s.b (c - 1) (by omega)
    have gb := p.x.s.k q (wr (c - 1))
    -- settling here
    have fin : ∀ ρ : St, exX σ ρ → P2S G P V R C wh wr r ρ → (∀ c, c < C → (U (wr c) = true ↔ raX ρ (c + 1) < r)) → coX ρ r = c → ∃ σ1 σ', exX σ σ1 ∧ P2S G P V R C wh wr r σ1 ∧ (∀ c, c < C → (U (wr c) = true ↔ raX σ1 (c + 1) < r)) ∧ ((∃ c1, coX σ1 r = c1 + 1 ∧ c1 < C ∧ okR G V k q U (wr c1) = true ∧ (∀ c', c' < c1 → okR G V k q U (wr c') = false) ∧ σ' = sI (sI σ1 136 0 0 (coX σ1 r) 1) 123 0 0 q (nI (wr c1)) ∧ fSending_settleRow_66 N (nI r) (nI c) ρ = some (nI (G q (wr c1)), σ')) ∨ (C < coX σ1 r ∧ (∀ c', c' < C → okR G V k q U (wr c') = false) ∧ σ' = sI σ1 136 0 0 (coX σ1 r) 1 ∧ fSending_settleRow_66 N (nI r) (nI c) ρ = some (nI 0, σ'))) := by
      intro ρ t1 t2 t3 t4
      have oy := ok_yes t2.x.s t2.g hr hq hk t3 (by rw [t4]; omega)
      rw [t4] at oy
      refine ⟨ρ, _, t1, t2, t3, Or.inl ⟨c - 1, by omega, by omega, oy, fun c' a => hC c' (by omega), rfl, ?_⟩⟩
      obtain ⟨τ, hτ⟩ : ∃ τ, τ = sI ρ 136 0 0 c 1 := ⟨_, rfl⟩
      have tx : SX G P V R C wh wr τ := t2.x.mv fun f a b i z => by rw [hτ, sI_o (by omega)]
      have y1 := tx.a (r - 1) (by omega)
      have y2 := tx.b (c - 1) (by omega)
      rw [hq] at y1
      have z1 : (sI τ 123 0 0 q (nI (wr (c - 1)))).1 124 0 0 (r - 1) = nI q := by rw [sI_o (by decide), y1]
      have z2 : (sI τ 123 0 0 q (nI (wr (c - 1)))).1 125 0 0 (c - 1) = nI (wr (c - 1)) := by rw [sI_o (by decide), y2]
      have z3 : (sI τ 123 0 0 q (nI (wr (c - 1)))).1 122 q 0 (wr (c - 1)) = nI (G q (wr (c - 1))) := by rw [sI_o (by decide), tx.g _ _ q20 wc]
      have er : nI r - 1 = nI (r - 1) := by
        rw [show r = (r - 1) + 1 by omega, nI_sub1]
        rfl
      have ecc : nI c - 1 = nI (c - 1) := by
        rw [show c = (c - 1) + 1 by omega, nI_sub1]
        rfl
      have i1 : inb (τ.1 124 0 0 (nI (r - 1)).toNatClampNeg) 20 := by
        rw [nI_clamp (by omega), y1]
        exact inb_n (by omega) (by decide)
      have i2 : inb ((sI τ 123 0 0 q (nI (wr (c - 1)))).1 124 0 0 (r - 1)) 20 := by
        rw [z1]
        exact inb_n (by omega) (by decide)
      have i3 : inb ((sI τ 123 0 0 q (nI (wr (c - 1)))).1 125 0 0 (c - 1)) 24 := by
        rw [z2]
        exact inb_n (by omega) (by decide)
      show chk (inb (nI c) 45) (nm (sI ρ 136 0 0 (nI c).toNatClampNeg (1 &&& 1)) fun (σ1 : St) => chk (inb (nI r - 1) 20) <| chk (inb (nI c - 1) 24) <| chk (inb (σ1.1 124 0 0 (nI r - 1).toNatClampNeg) 20) <| nm (sI σ1 123 0 0 (σ1.1 124 0 0 (nI r - 1).toNatClampNeg).toNatClampNeg (σ1.1 125 0 0 (nI c - 1).toNatClampNeg)) fun (σ2 : St) => chk (inb (σ2.1 124 0 0 (nI r - 1).toNatClampNeg) 20) <| chk (inb (σ2.1 125 0 0 (nI c - 1).toNatClampNeg) 24) <| some ((σ2.1 122 ((σ2.1 124 0 0 (nI r - 1).toNatClampNeg).toNatClampNeg) 0 (σ2.1 125 0 0 (nI c - 1).toNatClampNeg).toNatClampNeg), σ2)) = _
      rw [chk_t (inb_n (by omega) (by decide)), nmx, nI_clamp (n := c) (by omega), show sI ρ 136 0 0 c (1 &&& 1) = τ from hτ.symm, er, ecc, chk_t (inb_n (by omega) (by decide)), chk_t (inb_n (by omega) (by decide)), chk_t i1, nmx, nI_clamp (n := r - 1) (by omega), nI_clamp (n := c - 1) (by omega), y1, y2, nI_clamp (n := q) (by omega), chk_t i2, chk_t i3, z1, z2, nI_clamp (n := q) (by omega), nI_clamp (n := wr (c - 1)) (by omega), z3, t4, hτ]
    have skip : ∀ ρ : St, exX σ ρ → P2S G P V R C wh wr r ρ → (∀ c, c < C → (U (wr c) = true ↔ raX ρ (c + 1) < r)) → okR G V k q U (wr (c - 1)) = false → ∃ σ1 σ', exX σ σ1 ∧ P2S G P V R C wh wr r σ1 ∧ (∀ c, c < C → (U (wr c) = true ↔ raX σ1 (c + 1) < r)) ∧ ((∃ c1, coX σ1 r = c1 + 1 ∧ c1 < C ∧ okR G V k q U (wr c1) = true ∧ (∀ c', c' < c1 → okR G V k q U (wr c') = false) ∧ σ' = sI (sI σ1 136 0 0 (coX σ1 r) 1) 123 0 0 q (nI (wr c1)) ∧ fSending_settleRow_2 N m (nI r) (nI (c + 1)) ρ = some (nI (G q (wr c1)), σ')) ∨ (C < coX σ1 r ∧ (∀ c', c' < C → okR G V k q U (wr c') = false) ∧ σ' = sI σ1 136 0 0 (coX σ1 r) 1 ∧ fSending_settleRow_2 N m (nI r) (nI (c + 1)) ρ = some (nI 0, σ'))) := by
      intro ρ t1 t2 t3 t4
      obtain ⟨σ1, σ', b1, b2, b3, b4⟩ := ih (c + 1) m ρ (by omega) (by omega) (by omega) t2 t3 fun c' a => by
        by_cases y : c' = c - 1
        · rw [y]; exact t4
        · exact hC c' (by omega)
      exact ⟨σ1, σ', t1.tr b1, b2, b3, b4⟩
    have e41 : ∀ ρ : St, fSending_settleRow_41 N (fSending_settleRow_2 N m) (nI r) (nI c) ρ = fSending_settleRow_2 N m (nI r) (nI (c + 1)) ρ := fun ρ => by
      unfold fSending_settleRow_41 fSending_settleRow_42
      rw [if_pos rfl, nI_1]
    have e42 : fSending_settleRow_42 N (fSending_settleRow_2 N m) (nI r) (nI c) 1 σ = if nI (coX σ r) = nI c then fSending_settleRow_66 N (nI r) (nI c) σ else bnd (fSending_exchange N (nI r) (nI c) σ) fun r1 σ2 => if r1 = 0 then fSending_settleRow_2 N m (nI r) (nI (c + 1)) σ2 else fSending_settleRow_66 N (nI r) (nI c) σ2 := by
      show (if (1 : Int32) = 0 then _ else chk (inb (nI r) 45) <| if (σ.1 132 0 0 (nI r).toNatClampNeg) = nI c then fSending_settleRow_66 N (nI r) (nI c) σ else bnd (fSending_exchange N (nI r) (nI c) σ) fun r1 σ2 => if r1 = 0 then fSending_settleRow_2 N m (nI r) (nI c + 1) σ2 else fSending_settleRow_66 N (nI r) (nI c) σ2) = _
      rw [if_neg (by decide), chk_t (inb_n (by omega) (by decide)), nI_clamp (n := r) (by omega), p.c r r1 (by omega), nI_1]
    have e0 : fSending_settleRow_2 N (m + 1) (nI r) (nI c) σ = if isPr G R C wh wr r c = true then if σ.1 136 0 0 c = 0 then if x = 0 then fSending_settleRow_42 N (fSending_settleRow_2 N m) (nI r) (nI c) 1 σ else fSending_settleRow_2 N m (nI r) (nI (c + 1)) σ else fSending_settleRow_2 N m (nI r) (nI (c + 1)) σ else fSending_settleRow_2 N m (nI r) (nI (c + 1)) σ := by
      show (if σ.1 127 0 0 0 < nI c then _ else bn1 (fSending_isPair N (nI r) (nI c) σ) fun r2 => if r2 = 0 then fSending_settleRow_41 N (fSending_settleRow_2 N m) (nI r) (nI c) σ else chk (inb (nI c) 45) <| if (σ.1 136 0 0 (nI c).toNatClampNeg) = 0 then bn1 (fSending_overPrice N (nI r) (nI c) σ) fun r3 => if r3 = 0 then fSending_settleRow_42 N (fSending_settleRow_2 N m) (nI r) (nI c) 1 σ else fSending_settleRow_41 N (fSending_settleRow_2 N m) (nI r) (nI c) σ else fSending_settleRow_41 N (fSending_settleRow_2 N m) (nI r) (nI c) σ) = _
      rw [p.x.c, if_neg (nlt_of (by omega) (by omega) (by omega)), isPair_e p.x r1 h3 (by omega) (by omega), bn1_e, chk_t (inb_n (by omega) (by decide)), x1, bn1_e, nI_clamp (n := c) (by omega), e41]
      cases isPr G R C wh wr r c <;> rfl
    have ip : isPr G R C wh wr r c = decide (G q (wr (c - 1)) ≠ 0) := by
      unfold isPr
      rw [hq]
      by_cases y : G q (wr (c - 1)) = 0
      · rw [decide_eq_false (fun z => z.2.2 y), decide_eq_false (fun z => z y)]
      · rw [decide_eq_true ⟨hr, by omega, y⟩, decide_eq_true y]
    have ec : cst G R C wh wr r c = if G q (wr (c - 1)) = 0 then 1 else -(G q (wr (c - 1)) : Int) := by
      unfold cst
      rw [if_neg (by omega), hq]
    rw [e0, ip]
    by_cases g : G q (wr (c - 1)) = 0
    · rw [if_neg (by rw [decide_eq_false (fun z => z g)]; decide)]
      exact skip σ exX.rfl' p hU (decide_eq_false fun z => z.1.2 g)
    rw [if_pos (decide_eq_true g)]
    rw [if_neg g] at ec
    by_cases s : σ.1 136 0 0 c = 0
    · rw [if_pos s]
      have rc := zc.mp s
      by_cases y : x = 0
      · rw [if_pos y, e42]
        have tight : rpX σ r + cpX σ c = cst G R C wh wr r c := by
          rw [y] at x2
          have : (0 : Int32).toInt = 0 := rfl
          omega
        by_cases z : coX σ r = c
        · rw [if_pos (by rw [z])]
          exact fin σ exX.rfl' p hU z
        · rw [if_neg (fun w => z (nIj (by omega) (by omega) w))]
          obtain ⟨b, ρ, b1, b2, b3, b4, b5, b6⟩ := exchange_e (N := N) hN p hr h3 (by omega) rc z tight
          have hU' : ∀ c, c < C → (U (wr c) = true ↔ raX ρ (c + 1) < r) := fun c' a => by
            rw [hU c' a, b4 (c' + 1) (by omega) (by omega)]
          rw [b1, bnd_e]
          cases b with
          | false =>
            rw [if_pos (show (if false = true then (1 : Int32) else 0) = 0 by decide)]
            obtain ⟨u, w, T, lt⟩ := b6 rfl
            refine skip ρ b2 b3 hU' (ok_no b3.x.s T hr hq hk hU' (by omega) ?_ ?_)
            · rw [show c - 1 + 1 = c by omega]
              have := b4 c h3 (by omega)
              omega
            · rw [show c - 1 + 1 = c by omega]
              omega
          | true =>
            rw [if_neg (show ¬ (if true = true then (1 : Int32) else 0) = 0 by decide)]
            exact fin ρ b2 b3 hU' (b5 rfl)
      · rw [if_neg y]
        refine skip σ exX.rfl' p hU (ok_no p.x.s p.g hr hq hk hU (by omega) ?_ ?_)
        · rw [show c - 1 + 1 = c by omega]; exact rc
        · rw [show c - 1 + 1 = c by omega]
          have f := p.g.f r c (Nat.le_refl r) (by omega) h3 (by omega) rc
          have : x.toInt ≠ 0 := fun z => y (Int32.toInt_inj.mp z)
          omega
    · rw [if_neg s]
      refine skip σ exX.rfl' p hU (decide_eq_false fun z => ?_)
      have : U (wr (c - 1)) = true := uc.mpr (Nat.lt_of_not_le fun w => s (zc.mpr w))
      rw [z.1.1] at this
      exact absurd this (by decide)
