/-! what a sending gains: both sides tell it alike -/
def gN (μ : St) (p v : Nat) : Nat := (μ.1 321 0 0 v).toNatClampNeg - (mi μ (μ.1 213 0 0 p).toNatClampNeg (μ.1 318 0 0 v).toNatClampNeg).toNat / 10
def gnS (μ : St) (TC : Nat → List Cl) (p v : Nat) (s : Lfe) : Nat := if s 85 0 = 0 then 0 else if isOp μ p v ∧ prR μ TC p v (nT μ) s = -1 then gN μ p v else 0
theorem div10 {n : Nat} (h : n ≤ 198) : nI n / 10 = nI (n / 10) := by
  have : ∀ n, n < 199 → nI n / 10 = nI (n / 10) := by decide +kernel
  exact this n (by omega)
theorem gnS_le {μ : St} {TC : Nat → List Cl} {p v : Nat} {s : Lfe} (hR : Rng μ) : gnS μ TC p v s ≤ 999 := by
  obtain ⟨n, n1, -, n3, -, n5⟩ := hR.n (g := 321) (lo := 0) (hi := 999) v (by decide) (by decide)
  unfold gnS gN
  rw [n1, n3]
  split
  · omega
  · split
    · omega
    · omega
theorem milesN {N a b : Nat} {μ ρ : St} (hR : Rng μ) (ha : a < 8) (hb : b < 8) (hρ : ∀ f i, f = 209 ∨ f = 210 → ρ.1 f 0 0 i = μ.1 f 0 0 i) : fM_milesOf N (nI a) (nI b) ρ = some (nI (mi μ a b).toNat) ∧ (mi μ a b).toNat ≤ 198 := by
  obtain ⟨x, x1, x2, x3⟩ := e_milesM (N := N) hR ha hb
  have e1 : fM_milesOf N (nI a) (nI b) ρ = fM_milesOf N (nI a) (nI b) μ := by
    unfold fM_milesOf
    rw [hρ 209 _ (Or.inl rfl), hρ 209 _ (Or.inl rfl), hρ 210 _ (Or.inr rfl), hρ 210 _ (Or.inr rfl)]
    rfl
  rw [e1, x3, ← x1]
  exact ⟨rfl, by rw [Int.toNat_natCast]; exact x2⟩
theorem gainOf_e {N p v : Nat} {TC : Nat → List Cl} {tp : Nat → Nat} {σ0 σ μ μ' : St} {s : Lfe} (hN : 4000 ≤ N) (hR : Rng μ) (D0 : Tdy N p TC tp σ0 μ μ' s) (hp : p < 20) (hv : v < 24) (hE : Eq1 σ0 μ) (hx : ∀ f a b i, f < 103 → σ.1 f a b i = σ0.1 f a b i) (h74 : σ.1 74 0 p 0 = nI p) : ∃ σ', fMarket_gainOf N 0 p (nI v) (nI (tdN μ)) σ = some (nI (if isOp μ p v ∧ prR μ TC p v (nT μ) s = -1 then gN μ p v else 0), σ') ∧ σ'.1 = σ.1 := by
  obtain ⟨a, a1, a2, a3, a4, a5⟩ := hR.n (g := 213) (lo := 0) (hi := 7) p (by decide) (by decide)
  obtain ⟨b, b1, b2, b3, b4, b5⟩ := hR.n (g := 318) (lo := 0) (hi := 7) v (by decide) (by decide)
  obtain ⟨n, n1, n2, n3, n4, n5⟩ := hR.n (g := 321) (lo := 0) (hi := 999) v (by decide) (by decide)
  have hm : fLand_miles N (nI a) (nI b) σ = some (nI (mi μ a b).toNat) := miles_c hE hR (by omega) (by omega) (fun f a b i q => hx f a b i (by omega))
  obtain ⟨-, ml⟩ := milesN (N := N) hR (show a < 8 by omega) (show b < 8 by omega) (fun f i _ => rfl)
  have eg : gN μ p v = n - (mi μ a b).toNat / 10 := by
    unfold gN
    rw [n1, n3, a1, a3, b1, b3]
  obtain ⟨m, hm0⟩ : ∃ m, m = (mi μ a b).toNat := ⟨_, rfl⟩
  rw [← hm0] at hm ml eg
  have h49 : σ.1 49 0 0 p = nI a := (hx 49 _ _ _ (by decide)).trans ((hE.at (g := 213) p (by decide)).trans a1)
  have h96 : σ.1 96 0 0 v = nI b := (hx 96 _ _ _ (by decide)).trans ((hE.at (g := 318) v (by decide)).trans b1)
  have h99 : σ.1 99 0 0 v = nI n := (hx 99 _ _ _ (by decide)).trans ((hE.at (g := 321) v (by decide)).trans n1)
  have sb : (nI n - nI (m / 10)).toInt = (n : Int) - (m / 10 : Nat) := by
    rw [Int32.toInt_sub, nI_toInt (by omega), nI_toInt (by omega)]
    exact Int.bmod_eq_of_le (by omega) (by omega)
  have hop := opTo_X (N := N) (p := p) (w := v) hE hR hp hv hx
  obtain ⟨σ1, o1, o2, o3⟩ := pairX (N := N) (w := v) hN hR D0 hp hv hE hx
  have e0 : fMarket_gainOf N 0 p (nI v) (nI (tdN μ)) σ = if nI n - nI (m / 10) ≤ 0 then some (0, σ) else bn1 (fMarket_isOpenTo N (nI p) (nI v) (nI (tdN μ)) σ) fun r3 => if r3 = 0 then some (0, σ) else bnd (fMarket_objectionTo N 0 p (nI v) (nI (tdN μ)) σ) fun r4 σ5 => if r4 = (-1) then some (nI n - nI (m / 10), σ5) else some (0, σ5) := by
    unfold fMarket_gainOf
    rw [chk_t (inb_n hv (by decide)), h74, chk_t (inb_n hp (by decide)), nI_clamp (n := p) (by omega), nI_clamp (n := v) (by omega), h49, h96, hm, bn1_e, h99, div10 ml, nmx]
  rw [e0, hop, bn1_e, o1, bnd_e]
  by_cases c : nI n - nI (m / 10) ≤ 0
  · have c' := Int32.le_iff_toInt_le.mp c
    rw [sb, Int32.toInt_zero] at c'
    rw [if_pos c, eg, show n - m / 10 = 0 by omega]
    refine ⟨σ, ?_, rfl⟩
    by_cases z : isOp μ p v ∧ prR μ TC p v (nT μ) s = -1
    · rw [if_pos z]
      rfl
    · rw [if_neg z]
      rfl
  · have c' : ¬ (nI n - nI (m / 10)).toInt ≤ (0 : Int32).toInt := fun z => c (Int32.le_iff_toInt_le.mpr z)
    rw [sb, Int32.toInt_zero] at c'
    have es : nI n - nI (m / 10) = nI (n - m / 10) := by
      apply Int32.toInt_inj.mp
      rw [sb, nI_toInt (by omega)]
      omega
    rw [if_neg c, es, eg]
    by_cases y : isOp μ p v
    · rw [if_pos y, if_neg (show ¬ (1 : Int32) = 0 by decide)]
      by_cases z : prR μ TC p v (nT μ) s = -1
      · rw [if_pos z, if_pos ⟨y, z⟩]
        exact ⟨σ1, rfl, o3⟩
      · rw [if_neg z, if_neg (fun q => z q.2)]
        exact ⟨σ1, rfl, o3⟩
    · rw [if_neg y, if_pos rfl, if_neg (fun q => y q.1)]
      exact ⟨σ, rfl, rfl⟩
theorem InvB.fX {TC : Nat → List Cl} {tp : Nat → Nat} {σ σ' μ : St} (h : InvB TC tp σ μ) (hx : ∀ f a b i, f ≠ 122 → σ'.1 f a b i = σ.1 f a b i) : InvB TC tp σ' μ := by
  refine h.up (fun q hq i => ?_) h.rg (h.tp.mv (fun i => hx _ _ _ _ (by decide)) (fun _ => rfl)) h.ev (h.ot.mv (fun f i q => hx _ _ _ _ (by omega)) (fun _ _ _ => rfl) (fun _ => rfl)) (fun f a b i q => hx _ _ _ _ (by omega)) (fun _ _ _ _ _ => rfl) (fun _ _ _ _ _ => rfl) (fun _ _ _ => rfl)
  have h2 : eqF.all (fun q => decide (q.1 ≠ 122)) = true := by decide
  rw [hx _ _ _ _ (of_decide_eq_true (List.all_eq_true.mp h2 q hq))]
  exact h.eq q hq i
theorem NwI.fX {n : Nat} {TC : Nat → List Cl} {tp : Nat → Nat} {σ σ' μ μ' : St} (h : NwI n TC tp σ μ μ') (hi : InvB TC tp σ' μ') : NwI n TC tp σ' μ μ' := ⟨hi, h.x, h.r, h.n, h.s, h.o⟩
theorem gains27 {N p V : Nat} {go : Nat → Int32 → St → Option St} {TC : Nat → List Cl} {tp : Nat → Nat} {σ1 μ μ' : St} {s : Lfe} (hN : 4000 ≤ N) (hR : Rng μ) (D : Tdy N p TC tp σ1 μ μ' s) (hp : p < 20) (hE : Eq1 σ1 μ) (hV : vcN μ = V) (h74 : σ1.1 74 0 p 0 = nI p) : ∀ (e v m : Nat) (σ : St), v + e = V → e < m → (∀ f a b i, f ≠ 122 → σ.1 f a b i = σ1.1 f a b i) → ∃ σ', fX_tellGains_27 N go m 0 (nI p) 0 p (nI v) σ = go 0 (nI (p + 1)) σ' ∧ (∀ f a b i, f ≠ 122 → σ'.1 f a b i = σ1.1 f a b i) ∧ (∀ a b i, (a ≠ p ∨ i < v) → σ'.1 122 a b i = σ.1 122 a b i) ∧ (∀ i, v ≤ i → i < V → σ'.1 122 p 0 i = nI (gnS μ TC p i s)) := by
  have c := hR.cns
  have cv := c.v
  have cd := c.d
  intro e
  induction e with
  | zero =>
    intro v m σ h1 h2 hx
    obtain ⟨m, rfl⟩ : ∃ q, m = q + 1 := ⟨m - 1, by omega⟩
    have : v = V := by omega
    subst this
    refine ⟨σ, ?_, hx, fun _ _ _ _ => rfl, fun i q1 q2 => by omega⟩
    have h102 : σ.1 102 0 0 0 = nI v := (hx _ _ _ _ (by decide)).trans ((hE.at (g := 316) 0 (by decide)).trans (by rw [cv.1, hV]))
    show (if σ.1 102 0 0 0 ≤ nI v then go 0 (nI p + 1) σ else _) = _
    rw [h102, if_pos (Int32.le_refl _), nI_1]
  | succ e ih =>
    intro v m σ h1 h2 hx
    obtain ⟨m, rfl⟩ : ∃ q, m = q + 1 := ⟨m - 1, by omega⟩
    have h102 : σ.1 102 0 0 0 = nI V := (hx _ _ _ _ (by decide)).trans ((hE.at (g := 316) 0 (by decide)).trans (by rw [cv.1, hV]))
    have h162 : σ.1 162 0 0 0 = nI (tdN μ) := (hx _ _ _ _ (by decide)).trans ((hE.at (g := 205) 0 (by decide)).trans cd.1)
    have h85 : σ.1 85 0 p 0 = s 85 0 := by
      rw [hx _ _ _ _ (by decide), ← D.s]
      rfl
    obtain ⟨σ2, g1, g2⟩ := gainOf_e (N := N) (p := p) (v := v) (σ := σ) hN hR D hp (by omega) hE (fun f a b i q => hx f a b i (by omega)) ((hx _ _ _ _ (by decide)).trans h74)
    have w75 : ∀ (x : Nat) (τ : St), fX_tellGains_75 N go (fX_tellGains_27 N go m) 0 (nI p) 0 p (nI v) p (nI v) (nI x) τ = fX_tellGains_27 N go m 0 (nI p) 0 p (nI (v + 1)) (sI τ 122 p 0 v (nI x)) := fun x τ => by
      unfold fX_tellGains_75
      rw [chk_t (inb_n (by omega) (by decide)), nmx, nI_clamp (by omega), nI_1]
    have go1 : ∀ (x : Nat) (τ : St), τ.1 = σ.1 → x = gnS μ TC p v s → ∃ σ', fX_tellGains_27 N go m 0 (nI p) 0 p (nI (v + 1)) (sI τ 122 p 0 v (nI x)) = go 0 (nI (p + 1)) σ' ∧ (∀ f a b i, f ≠ 122 → σ'.1 f a b i = σ1.1 f a b i) ∧ (∀ a b i, (a ≠ p ∨ i < v) → σ'.1 122 a b i = σ.1 122 a b i) ∧ (∀ i, v ≤ i → i < V → σ'.1 122 p 0 i = nI (gnS μ TC p i s)) := fun x τ e1 e2 => by
      obtain ⟨σ', r1, r2, r3, r4⟩ := ih (v + 1) m (sI τ 122 p 0 v (nI x)) (by omega) (by omega) (fun f a b i q => by rw [sI_o q, e1]; exact hx f a b i q)
      refine ⟨σ', r1, r2, fun a b i q => ?_, fun i q1 q2 => ?_⟩
      · rw [r3 a b i (by omega), sI_1, if_neg (fun z => by omega), e1]
      · by_cases z : i = v
        · rw [z, r3 p 0 v (by omega), sI_s, e2]
        · exact r4 i (by omega) q2
    have e0 : fX_tellGains_27 N go (m + 1) 0 (nI p) 0 p (nI v) σ = if s 85 0 = 0 then fX_tellGains_75 N go (fX_tellGains_27 N go m) 0 (nI p) 0 p (nI v) p (nI v) 0 σ else fX_tellGains_75 N go (fX_tellGains_27 N go m) 0 (nI p) 0 p (nI v) p (nI v) (nI (if isOp μ p v ∧ prR μ TC p v (nT μ) s = -1 then gN μ p v else 0)) σ2 := by
      show (if σ.1 102 0 0 0 ≤ nI v then _ else chk (inb (nI p) 20) <| if (σ.1 85 0 p 0) = 0 then fX_tellGains_75 N go (fX_tellGains_27 N go m) 0 (nI p) 0 p (nI v) (nI p).toNatClampNeg (nI v) 0 σ else bnd (fMarket_gainOf N 0 p (nI v) (σ.1 162 0 0 0) σ) fun r1 σ2 => fX_tellGains_75 N go (fX_tellGains_27 N go m) 0 (nI p) 0 p (nI v) (nI p).toNatClampNeg (nI v) r1 σ2) = _
      rw [h102, if_neg (nI_ge (by omega) (by omega)), chk_t (inb_n hp (by decide)), h85, h162, g1, bnd_e, nI_clamp (by omega)]
    rw [e0]
    by_cases z : s 85 0 = 0
    · rw [if_pos z, show (0 : Int32) = nI 0 from rfl, w75]
      exact go1 0 σ rfl (by unfold gnS; rw [if_pos z])
    · rw [if_neg z, w75]
      exact go1 _ σ2 g2 (by unfold gnS; rw [if_neg z])
theorem gains7 {N P V : Nat} {TC : Nat → List Cl} {tp : Nat → Nat} {μ μ' : St} (hN : 4000 ≤ N) (hP : nP μ = P) (hV : vcN μ = V) : ∀ (e p m : Nat) (σ : St), p + e = P → e < m → InvB TC tp σ μ → NwI (nT μ) TC tp σ μ μ' → σ.1 147 0 0 0 = nI (tdN μ) → PrV 0 σ → RdV 0 (nT μ) TC σ μ → ∃ σ', ∃ S : Nat → Lfe, fX_tellGains_7 N m 0 (nI p) σ = some σ' ∧ InvB TC tp σ' μ ∧ NwI (nT μ) TC tp σ' μ μ' ∧ (∀ q i, q < p → σ'.1 122 q 0 i = σ.1 122 q 0 i) ∧ (∀ q, p ≤ q → q < P → (∃ σ0, Tdy N q TC tp σ0 μ μ' (S q)) ∧ ∀ i, i < V → σ'.1 122 q 0 i = nI (gnS μ TC q i (S q))) := by
  intro e
  induction e with
  | zero =>
    intro p m σ h1 h2 h hw hon hPr hRd
    obtain ⟨m, rfl⟩ : ∃ q, m = q + 1 := ⟨m - 1, by omega⟩
    have : p = P := by omega
    subst this
    have c := h.rg.cns
    have cP := c.P
    refine ⟨σ, fun _ _ _ => 0, ?_, h, hw, fun _ _ _ => rfl, fun q q1 q2 => by omega⟩
    have h52 : σ.1 52 0 0 0 = nI p := (h.eq.at (g := 208) 0 (by decide)).trans (by rw [cP.1, hP])
    show (if σ.1 52 0 0 0 ≤ nI p then some σ else _) = _
    rw [h52, if_pos (Int32.le_refl _)]
  | succ e ih =>
    intro p m σ h1 h2 h hw hon hPr hRd
    obtain ⟨m, rfl⟩ : ∃ q, m = q + 1 := ⟨m - 1, by omega⟩
    have c := h.rg.cns
    have cP := c.P
    have cV := c.v
    have h52 : σ.1 52 0 0 0 = nI P := (h.eq.at (g := 208) 0 (by decide)).trans (by rw [cP.1, hP])
    obtain ⟨σ1, s, a1, a2, a3, a4, a5, D⟩ := today_b (N := N) (p := p) hN h (by omega) hon hPr hRd hw
    obtain ⟨σ2, b1, b2, b3, b4⟩ := gains27 (N := N) (p := p) (V := V) (go := fX_tellGains_7 N m) hN h.rg D (by omega) a5.eq hV (a3.1 p (by omega)) V 0 N σ1 (by omega) (by omega) (fun _ _ _ _ _ => rfl)
    have i2 := a5.fX b2
    have w2 : NwI (nT μ) TC tp σ2 μ μ' := hw.fX (D.i.fX b2)
    have o2 : σ2.1 147 0 0 0 = nI (tdN μ) := (b2 _ _ _ _ (by decide)).trans ((a2.1 _ _ _ _ (by omega) (by omega)).trans hon)
    have P2 : PrV 0 σ2 := by
      obtain ⟨z1, z2, z3⟩ := a3
      refine ⟨fun p hp => (b2 _ _ _ _ (by decide)).trans (z1 p hp), (b2 _ _ _ _ (by decide)).trans z2, fun p hp => ?_⟩
      obtain ⟨c, c1, c2, c3⟩ := z3 p hp
      rw [b2 _ _ _ _ (by decide), b2 _ _ _ _ (by decide)]
      exact ⟨c, c1, c2, c3⟩
    have R2 : RdV 0 (nT μ) TC σ2 μ := a4.mv (fun f b i q => b2 _ _ _ _ (by omega)) (fun p _ => b2 _ _ _ _ (by decide))
    obtain ⟨σ', S, r1, r2, r3, r4, r5⟩ := ih (p + 1) m σ2 (by omega) (by omega) i2 w2 o2 P2 R2
    refine ⟨σ', fun q => if q = p then s else S q, ?_, r2, r3, fun q i hq => ?_, fun q q1 q2 => ?_⟩
    · show (if σ.1 52 0 0 0 ≤ nI p then _ else bnd (fView_lifeOf N 0 (nI p) σ) fun r1 σ2 => fX_tellGains_27 N (fX_tellGains_7 N m) N 0 (nI p) r1.1 r1.2 0 σ2) = _
      rw [h52, if_neg (nI_ge (by omega) (by omega)), a1, bnd_e]
      dsimp only
      exact b1.trans r1
    · rw [r4 q i (by omega), b3 q 0 i (Or.inl (by omega)), a2.1 _ _ _ _ (by omega) (by omega)]
    · by_cases z : q = p
      · dsimp only
        rw [if_pos z, z]
        refine ⟨⟨σ1, D⟩, fun i hi => ?_⟩
        rw [r4 p i (by omega)]
        exact b4 i (by omega) hi
      · dsimp only
        rw [if_neg z]
        exact r5 q (by omega) q2
/-- what telling the gains writes in the reference -/
abbrev gnM (f : Nat) : Prop := f ≠ 329 ∧ f ≠ 268 ∧ ¬ (270 ≤ f ∧ f ≤ 272)
theorem InvB.fM {TC : Nat → List Cl} {tp : Nat → Nat} {σ μ μ' : St} (h : InvB TC tp σ μ) (hm : ∀ f a b i, gnM f → μ'.1 f a b i = μ.1 f a b i) (hj : ∀ f a b i, f ≠ 267 → μ'.2 f a b i = μ.2 f a b i) : InvB TC tp σ μ' := by
  refine h.up (fun q hq i => ?_) (fun q hq i => ?_) (h.tp.mv (fun _ => rfl) (fun i => hm _ _ _ _ (by decide))) (h.ev.mv (fun f i q => hm _ _ _ _ ⟨by omega, by omega, by omega⟩)) (h.ot.mv (fun _ _ _ => rfl) (fun f i q => hm _ _ _ _ ⟨by omega, by omega, by omega⟩) (fun i => hj _ _ _ _ (by decide))) (fun _ _ _ _ _ => rfl) (fun f a b i q => hm _ _ _ _ ⟨by omega, by omega, by omega⟩) hj (fun p k _ => evM_c (fun f a b i q => hm f a b i (by
    have w : ∀ f ∈ LO, gnM f := by decide
    exact w f q)) p k)
  · have h2 : eqF.all (fun q => decide (gnM q.2)) = true := by decide
    rw [hm _ _ _ _ (of_decide_eq_true (List.all_eq_true.mp h2 q hq))]
    exact h.eq q hq i
  · have h2 : rngF.all (fun q => decide (gnM q.1)) = true := by decide
    rw [hm _ _ _ _ (of_decide_eq_true (List.all_eq_true.mp h2 q hq))]
    exact h.rg q hq i
theorem gains16 {N p V : Nat} {go : Int32 → St → Option St} {TC : Nat → List Cl} {tp : Nat → Nat} {σ0 μ μ' : St} {s : Lfe} (hN : 4000 ≤ N) (hR : Rng μ) (D : Tdy N p TC tp σ0 μ μ' s) (hp : p < 20) (hV : vcN μ = V) (hT : TxM (TCn TC (nT μ)) (nT μ) μ) : ∀ (e v m : Nat) (ρ : St), v + e = V → e < m → (∀ f a b i, gnM f → ρ.1 f a b i = μ'.1 f a b i) → (∀ f a b i, f ≠ 267 → ρ.2 f a b i = μ'.2 f a b i) → ∃ ρ', fM_tellGains_16 N go m (nI p) (nI v) ρ = go (nI (p + 1)) ρ' ∧ (∀ f a b i, gnM f → ρ'.1 f a b i = μ'.1 f a b i) ∧ (∀ f a b i, f ≠ 267 → ρ'.2 f a b i = μ'.2 f a b i) ∧ (∀ i, (i < 24 * p + v ∨ 24 * p + V ≤ i) → ρ'.1 329 0 0 i = ρ.1 329 0 0 i) ∧ (∀ i, v ≤ i → i < V → ρ'.1 329 0 0 (24 * p + i) = nI (gnS μ TC p i s)) := by
  have c := hR.cns
  have cv := c.v
  have cd := c.d
  intro e
  induction e with
  | zero =>
    intro v m ρ h1 h2 hm hj
    obtain ⟨m, rfl⟩ : ∃ q, m = q + 1 := ⟨m - 1, by omega⟩
    have : v = V := by omega
    subst this
    refine ⟨ρ, ?_, hm, hj, fun _ _ => rfl, fun i q1 q2 => by omega⟩
    have h316 : ρ.1 316 0 0 0 = nI v := (hm _ _ _ _ (by decide)).trans ((D.w.x.at (by decide)).trans (by rw [cv.1, hV]))
    show (if ρ.1 316 0 0 0 ≤ nI v then go (nI p + 1) ρ else _) = _
    rw [h316, if_pos (Int32.le_refl _), nI_1]
  | succ e ih =>
    intro v m ρ h1 h2 hm hj
    obtain ⟨m, rfl⟩ : ∃ q, m = q + 1 := ⟨m - 1, by omega⟩
    have lo : ∀ f i, (f < 260 ∨ (309 ≤ f ∧ f ≠ 329)) → ρ.1 f 0 0 i = μ.1 f 0 0 i := fun f i q => (hm _ _ _ _ ⟨by omega, by omega, by omega⟩).trans (D.w.x.at (by omega))
    have h316 : ρ.1 316 0 0 0 = nI V := (lo _ _ (by decide)).trans (by rw [cv.1, hV])
    have v24 : v < 24 := by omega
    obtain ⟨nc, nb, cc, cm, -, C, -⟩ := D.a
    have C' : RfC p ρ s cc nc cm := C.mv (fun f i q => hm _ _ _ _ ⟨by omega, by omega, by omega⟩) (fun _ _ _ => rfl)
    have mb := mayBe_M (N := N) (μ := μ) hR hp v24 C' (fun f i q => lo _ _ (by omega))
    obtain ⟨ρ1, f1, f2, f3⟩ := pairM (N := N) (w := v) hN hR D hp v24 hT (μ'' := ρ) (fun f i q1 q2 q3 => hm _ _ _ _ ⟨by omega, q2, q3⟩)
    have ea : (24 : Int32) * nI p + nI v = nI (24 * p + v) := by
      rw [show (24 : Int32) * nI p = nI (24 * p) from (Int32.ofNat_mul 24 p).symm, nI_add]
    obtain ⟨a, a1, a2, a3, a4, a5⟩ := hR.n (g := 213) (lo := 0) (hi := 7) p (by decide) (by decide)
    obtain ⟨b, b1, b2, b3, b4, b5⟩ := hR.n (g := 318) (lo := 0) (hi := 7) v (by decide) (by decide)
    obtain ⟨n, n1, n2, n3, n4, n5⟩ := hR.n (g := 321) (lo := 0) (hi := 999) v (by decide) (by decide)
    have eg : gN μ p v = n - (mi μ a b).toNat / 10 := by
      unfold gN
      rw [n1, n3, a1, a3, b1, b3]
    have w97 : ∀ (x : Nat) (τ : St), fM_tellGains_97 N go (fM_tellGains_16 N go m) (nI p) (nI v) (nI (24 * p + v)) (nI x) τ = fM_tellGains_16 N go m (nI p) (nI (v + 1)) (sI τ 329 0 0 (24 * p + v) (nI x)) := fun x τ => by
      unfold fM_tellGains_97
      rw [chk_t (inb_n (by omega) (by decide)), nmx, nI_clamp (by omega), nI_1]
    have w0 : ∀ τ : St, fM_tellGains_48 N go (fM_tellGains_16 N go m) (nI p) (nI v) 0 τ = fM_tellGains_16 N go m (nI p) (nI (v + 1)) (sI τ 329 0 0 (24 * p + v) (nI 0)) := fun τ => by
      unfold fM_tellGains_48
      rw [if_pos rfl, ea, show (0 : Int32) = nI 0 from rfl, w97]
    have w1 : ∀ τ : St, (∀ f i, (f < 260 ∨ (309 ≤ f ∧ f ≠ 329)) → τ.1 f 0 0 i = μ.1 f 0 0 i) → fM_tellGains_48 N go (fM_tellGains_16 N go m) (nI p) (nI v) 1 τ = fM_tellGains_16 N go m (nI p) (nI (v + 1)) (sI τ 329 0 0 (24 * p + v) (nI (gN μ p v))) := fun τ hτ => by
      obtain ⟨ml1, ml2⟩ := milesN (N := N) (ρ := τ) hR (show a < 8 by omega) (show b < 8 by omega) (fun f i q => hτ _ _ (by omega))
      unfold fM_tellGains_48
      rw [if_neg (show ¬ (1 : Int32) = 0 by decide), chk_t (inb_n v24 (by decide)), chk_t (inb_n hp (by decide)), nI_clamp (n := p) (by omega), nI_clamp (n := v) (by omega), hτ _ _ (by decide), hτ _ _ (by decide), hτ _ _ (by decide), a1, b1, n1, ml1, bn1_e, div10 ml2, ea, eg]
      obtain ⟨k, hk⟩ : ∃ k, k = (mi μ a b).toNat / 10 := ⟨_, rfl⟩
      rw [← hk]
      have sb : (nI n - nI k).toInt = (n : Int) - k := by
        rw [Int32.toInt_sub, nI_toInt (by omega), nI_toInt (by omega)]
        exact Int.bmod_eq_of_le (by omega) (by omega)
      have mx : fMath_max_I N 0 (nI n - nI k) τ = some (nI (n - k)) := by
        unfold fMath_max_I
        by_cases y : (0 : Int32) < nI n - nI k
        · have y' := Int32.lt_iff_toInt_lt.mp y
          rw [sb, Int32.toInt_zero] at y'
          rw [if_pos y]
          congr 1
          apply Int32.toInt_inj.mp
          rw [sb, nI_toInt (by omega)]
          omega
        · have y' : ¬ (0 : Int32).toInt < (nI n - nI k).toInt := fun z => y (Int32.lt_iff_toInt_lt.mpr z)
          rw [sb, Int32.toInt_zero] at y'
          rw [if_neg y, show n - k = 0 by omega]
          rfl
      rw [mx, bn1_e, w97]
    have go1 : ∀ (x : Nat) (τ : St), (∀ f a b i, gnM f → τ.1 f a b i = μ'.1 f a b i) → (∀ i, τ.1 329 0 0 i = ρ.1 329 0 0 i) → (∀ f a b i, f ≠ 267 → τ.2 f a b i = μ'.2 f a b i) → x = gnS μ TC p v s → ∃ ρ', fM_tellGains_16 N go m (nI p) (nI (v + 1)) (sI τ 329 0 0 (24 * p + v) (nI x)) = go (nI (p + 1)) ρ' ∧ (∀ f a b i, gnM f → ρ'.1 f a b i = μ'.1 f a b i) ∧ (∀ f a b i, f ≠ 267 → ρ'.2 f a b i = μ'.2 f a b i) ∧ (∀ i, (i < 24 * p + v ∨ 24 * p + V ≤ i) → ρ'.1 329 0 0 i = ρ.1 329 0 0 i) ∧ (∀ i, v ≤ i → i < V → ρ'.1 329 0 0 (24 * p + i) = nI (gnS μ TC p i s)) := fun x τ e1 e2 e3 e4 => by
      obtain ⟨ρ', r1, r2, r3, r4, r5⟩ := ih (v + 1) m (sI τ 329 0 0 (24 * p + v) (nI x)) (by omega) (by omega) (fun f a b i q => by rw [sI_o q.1]; exact e1 f a b i q) e3
      refine ⟨ρ', r1, r2, r3, fun i q => ?_, fun i q1 q2 => ?_⟩
      · rw [r4 i (by omega), sI_i (by omega), e2]
      · by_cases z : i = v
        · rw [z, r4 (24 * p + v) (by omega), sI_s, e4]
        · exact r5 i (by omega) q2
    have e0 : fM_tellGains_16 N go (m + 1) (nI p) (nI v) ρ = if (if s 85 0 = 0 then (0 : Int32) else if isOp μ p v then 1 else 0) = 0 then fM_tellGains_48 N go (fM_tellGains_16 N go m) (nI p) (nI v) 0 ρ else if prR μ TC p v (nT μ) s = -1 then fM_tellGains_48 N go (fM_tellGains_16 N go m) (nI p) (nI v) 1 ρ1 else fM_tellGains_48 N go (fM_tellGains_16 N go m) (nI p) (nI v) 0 ρ1 := by
      show (if ρ.1 316 0 0 0 ≤ nI v then _ else bn1 (fM_mayBe N (nI p) (nI v) ρ) fun r1 => if r1 = 0 then fM_tellGains_48 N go (fM_tellGains_16 N go m) (nI p) (nI v) 0 ρ else bnd (fM_failing N (nI p) (nI v) ρ) fun r2 σ3 => if r2 = (-1) then fM_tellGains_48 N go (fM_tellGains_16 N go m) (nI p) (nI v) 1 σ3 else fM_tellGains_48 N go (fM_tellGains_16 N go m) (nI p) (nI v) 0 σ3) = _
      rw [h316, if_neg (nI_ge (by omega) (by omega)), mb, bn1_e, f1, bnd_e]
    have F1 : ∀ f a b i, gnM f → ρ1.1 f a b i = μ'.1 f a b i := fun f a b i q => (f2 f a b i q.2.1 q.2.2).trans (hm f a b i q)
    have F2 : ∀ f a b i, f ≠ 267 → ρ1.2 f a b i = μ'.2 f a b i := fun f a b i q => (f3 f a b i q).trans (hj f a b i q)
    have F3 : ∀ i, ρ1.1 329 0 0 i = ρ.1 329 0 0 i := fun i => f2 _ _ _ _ (by decide) (by decide)
    have F4 : ∀ f i, (f < 260 ∨ (309 ≤ f ∧ f ≠ 329)) → ρ1.1 f 0 0 i = μ.1 f 0 0 i := fun f i q => (f2 f 0 0 i (by omega) (by omega)).trans (lo f i q)
    rw [e0]
    by_cases z : s 85 0 = 0
    · rw [if_pos z, if_pos rfl, w0]
      exact go1 0 ρ hm (fun _ => rfl) hj (by unfold gnS; rw [if_pos z])
    · rw [if_neg z]
      by_cases y : isOp μ p v
      · rw [if_pos y, if_neg (show ¬ (1 : Int32) = 0 by decide)]
        by_cases x : prR μ TC p v (nT μ) s = -1
        · rw [if_pos x, w1 ρ1 F4]
          exact go1 _ ρ1 F1 F3 F2 (by unfold gnS; rw [if_neg z, if_pos ⟨y, x⟩])
        · rw [if_neg x, w0]
          exact go1 0 ρ1 F1 F3 F2 (by unfold gnS; rw [if_neg z, if_neg (fun q => x q.2)])
      · rw [if_neg y, if_pos rfl, w0]
        exact go1 0 ρ hm (fun _ => rfl) hj (by unfold gnS; rw [if_neg z, if_neg (fun q => y q.1)])
theorem gains6 {N P V : Nat} {TC : Nat → List Cl} {tp : Nat → Nat} {μ μ' : St} {S : Nat → Lfe} (hN : 4000 ≤ N) (hR : Rng μ) (hx : RnX μ μ') (hP : nP μ = P) (hV : vcN μ = V) (hT : TxM (TCn TC (nT μ)) (nT μ) μ) (hD : ∀ q, q < P → ∃ σ0, Tdy N q TC tp σ0 μ μ' (S q)) : ∀ (e p m : Nat) (ρ : St), p + e = P → e < m → (∀ f a b i, gnM f → ρ.1 f a b i = μ'.1 f a b i) → (∀ f a b i, f ≠ 267 → ρ.2 f a b i = μ'.2 f a b i) → ∃ ρ', fM_tellGains_6 N m (nI p) ρ = some ρ' ∧ (∀ f a b i, gnM f → ρ'.1 f a b i = μ'.1 f a b i) ∧ (∀ f a b i, f ≠ 267 → ρ'.2 f a b i = μ'.2 f a b i) ∧ (∀ i, i < 24 * p → ρ'.1 329 0 0 i = ρ.1 329 0 0 i) ∧ (∀ q i, p ≤ q → q < P → i < V → ρ'.1 329 0 0 (24 * q + i) = nI (gnS μ TC q i (S q))) := by
  have c := hR.cns
  have cv := c.v
  have cP := c.P
  intro e
  induction e with
  | zero =>
    intro p m ρ h1 h2 hm hj
    obtain ⟨m, rfl⟩ : ∃ q, m = q + 1 := ⟨m - 1, by omega⟩
    have : p = P := by omega
    subst this
    refine ⟨ρ, ?_, hm, hj, fun _ _ => rfl, fun q i q1 q2 => by omega⟩
    have h208 : ρ.1 208 0 0 0 = nI p := (hm _ _ _ _ (by decide)).trans ((hx.at (by decide)).trans (by rw [cP.1, hP]))
    show (if ρ.1 208 0 0 0 ≤ nI p then some ρ else _) = _
    rw [h208, if_pos (Int32.le_refl _)]
  | succ e ih =>
    intro p m ρ h1 h2 hm hj
    obtain ⟨m, rfl⟩ : ∃ q, m = q + 1 := ⟨m - 1, by omega⟩
    have h208 : ρ.1 208 0 0 0 = nI P := (hm _ _ _ _ (by decide)).trans ((hx.at (by decide)).trans (by rw [cP.1, hP]))
    obtain ⟨σ0, D⟩ := hD p (by omega)
    obtain ⟨ρ1, g1, g2, g3, g4, g5⟩ := gains16 (N := N) (p := p) (V := V) (go := fM_tellGains_6 N m) hN hR D (by omega) hV hT V 0 N ρ (by omega) (by omega) hm hj
    obtain ⟨ρ', r1, r2, r3, r4, r5⟩ := ih (p + 1) m ρ1 (by omega) (by omega) g2 g3
    refine ⟨ρ', ?_, r2, r3, fun i q => ?_, fun q i q1 q2 q3 => ?_⟩
    · show (if ρ.1 208 0 0 0 ≤ nI p then _ else fM_tellGains_16 N (fM_tellGains_6 N m) N (nI p) 0 ρ) = _
      rw [h208, if_neg (nI_ge (by omega) (by omega))]
      exact g1.trans r1
    · rw [r4 i (by omega), g4 i (Or.inl (by omega))]
    · by_cases z : q = p
      · rw [z, r4 _ (by omega)]
        exact g5 i (by omega) q3
      · exact r5 q i (by omega) q2 q3
/-- both tell the gains alike -/
theorem gains_e {N : Nat} {TC : Nat → List Cl} {tp : Nat → Nat} {σ μ : St} (hN : 4000 ≤ N) (h : InvB TC tp σ μ) : ∃ σ' μ', ∃ G : Nat → Nat → Nat, fX_tellGains N σ = some σ' ∧ fM_tellGains N μ = some μ' ∧ InvB TC tp σ' μ' ∧ (∀ f i, (f < 260 ∨ 308 < f) → f ≠ 329 → μ'.1 f 0 0 i = μ.1 f 0 0 i) ∧ (∀ p v, G p v ≤ 999) ∧ (∀ p v, p < nP μ → v < vcN μ → σ'.1 122 p 0 v = nI (G p v) ∧ μ'.1 329 0 0 (24 * p + v) = nI (G p v)) := by
  obtain ⟨σ1, a1, a2, a3, a4, a5, a6⟩ := asOfToday_e hN h
  obtain ⟨μ1, b1, W⟩ := nowToday_e hN a5
  obtain ⟨σ', S, r1, r2, r3, r4, r5⟩ := gains7 (N := N) (P := nP μ) (V := vcN μ) (TC := TC) (tp := tp) (μ := μ) (μ' := μ1) hN rfl rfl (nP μ) 0 N σ1 (by omega) (by have := h.rg.cns.P; omega) a5 W a2 a3 a4
  have hT : TxM (TCn TC (nT μ)) (nT μ) μ := h.tx.m.tn (Nat.le_refl _)
  obtain ⟨μ', g1, g2, g3, g4, g5⟩ := gains6 (N := N) (P := nP μ) (V := vcN μ) (TC := TC) (tp := tp) (μ := μ) (μ' := μ1) (S := S) hN h.rg W.x rfl rfl hT (fun q hq => (r5 q (by omega) hq).1) (nP μ) 0 N μ1 (by omega) (by have := h.rg.cns.P; omega) (fun _ _ _ _ _ => rfl) (fun _ _ _ _ _ => rfl)
  refine ⟨σ', μ', fun p v => gnS μ TC p v (S p), ?_, ?_, r3.i.fM g2 g3, fun f i q1 q2 => ?_, fun p v => gnS_le h.rg, fun p v hp hv => ⟨(r5 p (by omega) hp).2 v hv, g5 p v (by omega) hp hv⟩⟩
  · unfold fX_tellGains
    rw [a1, bnd_e]
    exact r1
  · unfold fM_tellGains
    rw [b1, bn1_e]
    exact g1
  · exact (g2 f 0 0 i ⟨q2, by omega, by omega⟩).trans (W.x.at (by omega))
