/-! the first row with the greatest sum; the reference finds it -/
def okR (G : Nat → Nat → Nat) (V k p : Nat) (U : Nat → Bool) (v : Nat) : Bool := decide (mayG G U p v ∧ G p v + bW G V k (p + 1) (insU U v) = bW G V (k + 1) p U)
def pkR (G : Nat → Nat → Nat) (V k p : Nat) (U : Nat → Bool) : Nat := fa_first (okR G V k p U) V
def bU (G : Nat → Nat → Nat) (P V : Nat) : Nat → Nat → Bool
  | 0 => fun _ => false
  | p + 1 => if pkR G V (P - (p + 1)) p (bU G P V p) < V then insU (bU G P V p) (pkR G V (P - (p + 1)) p (bU G P V p)) else bU G P V p
def bR (G : Nat → Nat → Nat) (P V p : Nat) : Nat := pkR G V (P - (p + 1)) p (bU G P V p)
theorem bU_t {G : Nat → Nat → Nat} {P V p : Nat} (h : bR G P V p < V) : bU G P V (p + 1) = insU (bU G P V p) (bR G P V p) := if_pos h
theorem bU_n {G : Nat → Nat → Nat} {P V p : Nat} (h : ¬ bR G P V p < V) : bU G P V (p + 1) = bU G P V p := if_neg h
theorem pkR_is {G : Nat → Nat → Nat} {V k p v : Nat} {U : Nat → Bool} (hv : v < V) (h1 : ∀ w, w < v → okR G V k p U w = false) (h2 : okR G V k p U v = true) : pkR G V k p U = v := by
  have l : ¬ v < pkR G V k p U := fun z => by
    rw [fa_first_no _ V v z] at h2
    exact absurd h2 (by decide)
  have g : ¬ pkR G V k p U < v := fun z => by
    have := fa_first_yes (okR G V k p U) V (by unfold pkR at z; omega)
    unfold pkR at z
    rw [h1 _ z] at this
    exact absurd this (by decide)
  omega
theorem pkR_no {G : Nat → Nat → Nat} {V k p : Nat} {U : Nat → Bool} (h1 : ∀ w, w < V → okR G V k p U w = false) : ¬ pkR G V k p U < V := fun z => by
  have := fa_first_yes (okR G V k p U) V z
  unfold pkR at z
  rw [h1 _ z] at this
  exact absurd this (by decide)
theorem bW_no {G : Nat → Nat → Nat} {V k p : Nat} {U : Nat → Bool} (h : ∀ w, w < V → okR G V k p U w = false) : bW G V (k + 1) p U = bW G V k (p + 1) U := by
  rcases bW_ex (g := G) (V := V) (k := k) (p := p) (U := U) with c | ⟨v, v1, v2, v3⟩
  · exact c
  · have := h v v1
    unfold okR at this
    exact absurd ⟨v2, v3.symm⟩ (of_decide_eq_false this)
theorem bW_bd {G : Nat → Nat → Nat} {V : Nat} (hG : ∀ p v, G p v ≤ 999) : ∀ (k p : Nat) (U : Nat → Bool), bW G V k p U ≤ 999 * k
  | 0, _, _ => Nat.le_refl _
  | k + 1, p, U => by
    refine bW_le ?_ fun v _ _ => ?_
    · have := bW_bd (V := V) hG k (p + 1) U
      omega
    · have := bW_bd (V := V) hG k (p + 1) (insU U v)
      have := hG p v
      omega
theorem nI_dif (a b : Nat) : nI (a + b) - nI a = nI b := by rw [← nI_add, Int32.add_comm, Int32.add_sub_cancel]
def frS (μ ρ : St) : Prop := (∀ f a b i, f ≠ 330 → frW f → ρ.1 f a b i = μ.1 f a b i) ∧ ρ.2 = μ.2
theorem frS.rfl' {μ : St} : frS μ μ := ⟨fun _ _ _ _ _ _ => rfl, rfl⟩
theorem frS.tr {μ ρ τ : St} (h : frS μ ρ) (k : frS ρ τ) : frS μ τ := ⟨fun f a b i y z => (k.1 f a b i y z).trans (h.1 f a b i y z), k.2.trans h.2⟩
theorem frS.gs {G : Nat → Nat → Nat} {P V : Nat} {μ ρ : St} (h : frS μ ρ) (g : GnS G P V μ) : GnS G P V ρ := g.mv fun f a b i q0 _ q1 q2 q3 => h.1 f a b i q0 ⟨q1, q2, q3⟩
theorem frH.s {μ ρ : St} (h : frH μ ρ) : frS μ ρ := ⟨fun f a b i _ z => h.1 f a b i z, h.2⟩
theorem frH.st {μ ρ : St} (h : frH μ ρ) (q : Nat) : ρ.1 330 0 0 q = μ.1 330 0 0 q := h.1 _ _ _ _ ⟨by decide, by decide, by decide⟩
theorem send61 {N P V p k : Nat} {G : Nat → Nat → Nat} {U : Nat → Bool} {u x1 : Int32} {go : Int32 → Int32 → Int32 → Int32 → St → Option (Int32 × St)} {μ : St} (hN : 4000 ≤ N) (hG : GnS G P V μ) (hU : MU u U) (hk : k + (p + 1) = P) : ∀ (e v m : Nat) (ρ : St), v + e = V → e < m → frS μ ρ → ρ.1 330 0 0 p = -1 → (∀ w, w < v → okR G V k p U w = false) → ∃ ρ' u', fM_send_61 N go m x1 (nI (bW G V (k + 1) p U)) u (nI p) (nI v) ρ = go x1 (nI (bW G V k (p + 1) (if pkR G V k p U < V then insU U (pkR G V k p U) else U))) u' (nI (p + 1)) ρ' ∧ frS μ ρ' ∧ MU u' (if pkR G V k p U < V then insU U (pkR G V k p U) else U) ∧ (∀ q, q ≠ p → ρ'.1 330 0 0 q = ρ.1 330 0 0 q) ∧ ρ'.1 330 0 0 p = if pkR G V k p U < V then nI (pkR G V k p U) else -1 := by
  have v2 := hG.V2
  have p2 := hG.P2
  intro e
  induction e with
  | zero =>
    intro v m ρ h1 h2 hF h3 h4
    obtain ⟨m, rfl⟩ : ∃ q, m = q + 1 := ⟨m - 1, by omega⟩
    have : v = V := by omega
    subst this
    have no := pkR_no h4
    refine ⟨ρ, u, ?_, hF, by rw [if_neg no]; exact hU, fun _ _ => rfl, by rw [if_neg no]; exact h3⟩
    show (if ρ.1 316 0 0 0 ≤ nI v then go x1 (nI (bW G v (k + 1) p U)) u (nI p + 1) ρ else _) = _
    rw [(hF.gs hG).V, if_pos (Int32.le_refl _), nI_1, if_neg no, bW_no h4]
  | succ e ih =>
    intro v m ρ h1 h2 hF h3 h4
    obtain ⟨m, rfl⟩ : ∃ q, m = q + 1 := ⟨m - 1, by omega⟩
    have g := hF.gs hG
    have gl := gm_le (U := U) (q := p) (v := v) hG.b
    have e0 : fM_send_61 N go (m + 1) x1 (nI (bW G V (k + 1) p U)) u (nI p) (nI v) ρ = if nI (gm G U p v) = 0 then fM_send_61 N go m x1 (nI (bW G V (k + 1) p U)) u (nI p) (nI (v + 1)) ρ else bnd (fM_mostFrom N (nI (p + 1)) (u ||| (1 <<< (nI v &&& 31))) ρ) fun r2 σ3 => if (nI (gm G U p v) + r2) = nI (bW G V (k + 1) p U) then fM_send_61 N go m x1 (nI (bW G V (k + 1) p U) - nI (gm G U p v)) (u ||| (1 <<< (nI v &&& 31))) (nI p) (nI (v + 1)) (sI σ3 330 0 0 p (nI v)) else fM_send_61 N go m x1 (nI (bW G V (k + 1) p U)) u (nI p) (nI (v + 1)) σ3 := by
      show (if ρ.1 316 0 0 0 ≤ nI v then _ else chk (inb (nI p) 20) <| if (ρ.1 330 0 0 (nI p).toNatClampNeg) = (-1) then bn1 (fM_gainAt N (nI p) (nI v) u ρ) fun r1 => if r1 = 0 then (fM_send_61 N go m) x1 (nI (bW G V (k + 1) p U)) u (nI p) (nI v + 1) ρ else bnd (fM_mostFrom N (nI p + 1) (u ||| (1 <<< (nI v &&& 31))) ρ) fun r2 σ3 => if (r1 + r2) = nI (bW G V (k + 1) p U) then nm (sI σ3 330 0 0 (nI p).toNatClampNeg (nI v)) fun (σ4 : St) => nm ((u ||| (1 <<< (nI v &&& 31)))) fun (y5 : Int32) => nm ((nI (bW G V (k + 1) p U) - r1)) fun (y6 : Int32) => (fM_send_61 N go m) x1 y6 y5 (nI p) (nI v + 1) σ4 else (fM_send_61 N go m) x1 (nI (bW G V (k + 1) p U)) u (nI p) (nI v + 1) σ3 else _) = _
      rw [g.V, if_neg (nI_ge (by omega) (by omega)), chk_t (inb_n (by omega) (by decide)), nI_clamp (by omega), if_pos h3, gainAt_e g hU (by omega) (by omega), bn1_e, nI_1, nI_1]
      rfl
    rw [e0]
    by_cases c : gm G U p v = 0
    · rw [if_pos (by rw [c]; rfl)]
      refine ih (v + 1) m ρ (by omega) (by omega) hF h3 fun w hw => ?_
      by_cases z : w = v
      · rw [z]
        refine decide_eq_false fun q => ?_
        rw [gm_f q.1.1] at c
        exact q.1.2 c
      · exact h4 w (by omega)
    rw [if_neg (nI_nz (by omega) c)]
    obtain ⟨cu, ce⟩ := gm_ne c
    have may : mayG G U p v := ⟨cu, by rw [← ce]; exact c⟩
    obtain ⟨ρ', a1, a2⟩ := most_e (N := N) (F := p + 1) hN g (hU.i (v := v) (by omega)) (by omega)
    rw [show P - (p + 1) = k by omega] at a1
    rw [a1, bnd_e, nI_add, ce]
    have b1 := bW_bd (V := V) hG.b k (p + 1) (insU U v)
    have b2 := bW_bd (V := V) hG.b (k + 1) p U
    have b3 := hG.b p v
    have s3 : ρ'.1 330 0 0 p = -1 := (a2.st p).trans h3
    by_cases c2 : G p v + bW G V k (p + 1) (insU U v) = bW G V (k + 1) p U
    · rw [if_pos (by rw [c2])]
      have is : pkR G V k p U = v := pkR_is (by omega) h4 (decide_eq_true ⟨may, c2⟩)
      rw [is, if_pos (by omega), ← c2, nI_dif]
      have t3 : (sI ρ' 330 0 0 p (nI v)).1 330 0 0 p = nI v := sI_s _ _ _ _ _ _
      have tV : (sI ρ' 330 0 0 p (nI v)).1 316 0 0 0 = nI V := by rw [sI_o (by decide)]; exact (a2.gs g).V
      refine ⟨sI ρ' 330 0 0 p (nI v), u ||| (1 <<< (nI v &&& 31)), ?_, ⟨fun f a b i q1 q2 => ?_, (a2.2).trans hF.2⟩, hU.i (by omega), fun q hq => ?_, by rw [t3, if_pos (by omega)]⟩
      · obtain ⟨m, rfl⟩ : ∃ q, m = q + 1 := ⟨m - 1, by omega⟩
        show (if (sI ρ' 330 0 0 p (nI v)).1 316 0 0 0 ≤ nI (v + 1) then go x1 (nI (bW G V k (p + 1) (insU U v))) (u ||| (1 <<< (nI v &&& 31))) (nI p + 1) (sI ρ' 330 0 0 p (nI v)) else chk (inb (nI p) 20) <| if ((sI ρ' 330 0 0 p (nI v)).1 330 0 0 (nI p).toNatClampNeg) = (-1) then _ else go x1 (nI (bW G V k (p + 1) (insU U v))) (u ||| (1 <<< (nI v &&& 31))) (nI p + 1) (sI ρ' 330 0 0 p (nI v))) = _
        rw [chk_t (inb_n (by omega) (by decide)), nI_clamp (by omega), t3, if_neg (m1_ne (by omega)), nI_1]
        by_cases z : (sI ρ' 330 0 0 p (nI v)).1 316 0 0 0 ≤ nI (v + 1)
        · rw [if_pos z]
        · rw [if_neg z]
      · rw [sI_o q1, a2.1 f a b i q2]
        exact hF.1 f a b i q1 q2
      · rw [sI_i hq]
        exact a2.st q
    · rw [if_neg (fun z => c2 (nIj (by omega) (by omega) z))]
      obtain ⟨τ, u', t1, t2, t3, t4, t5⟩ := ih (v + 1) m ρ' (by omega) (by omega) (hF.tr a2.s) s3 fun w hw => by
        by_cases z : w = v
        · rw [z]
          exact decide_eq_false fun q => c2 q.2
        · exact h4 w (by omega)
      exact ⟨τ, u', t1, t2, t3, fun q hq => (t4 q hq).trans (a2.st q), t5⟩
theorem send49 {N P V : Nat} {G : Nat → Nat → Nat} {x1 : Int32} {μ : St} (hN : 4000 ≤ N) (hG : GnS G P V μ) : ∀ (e p m : Nat) (u : Int32) (ρ : St), e + p = P → e < m → frS μ ρ → MU u (bU G P V p) → (∀ q, q < p → ρ.1 330 0 0 q = if bR G P V q < V then nI (bR G P V q) else -1) → (∀ q, p ≤ q → q < 20 → ρ.1 330 0 0 q = -1) → ∃ ρ', fM_send_49 N m x1 (nI (bW G V e p (bU G P V p))) u (nI p) ρ = some (x1, ρ') ∧ frS μ ρ' ∧ (∀ q, q < P → ρ'.1 330 0 0 q = if bR G P V q < V then nI (bR G P V q) else -1) ∧ (∀ q, P ≤ q → q < 20 → ρ'.1 330 0 0 q = -1) := by
  have v2 := hG.V2
  have p2 := hG.P2
  intro e
  induction e with
  | zero =>
    intro p m u ρ h1 h2 hF hU h3 h4
    obtain ⟨m, rfl⟩ : ∃ q, m = q + 1 := ⟨m - 1, by omega⟩
    have : p = P := by omega
    subst this
    refine ⟨ρ, ?_, hF, h3, h4⟩
    show (if ρ.1 208 0 0 0 ≤ nI p then some (x1, ρ) else _) = _
    rw [(hF.gs hG).P, if_pos (Int32.le_refl _)]
  | succ e ih =>
    intro p m u ρ h1 h2 hF hU h3 h4
    obtain ⟨m, rfl⟩ : ∃ q, m = q + 1 := ⟨m - 1, by omega⟩
    have e0 : fM_send_49 N (m + 1) x1 (nI (bW G V (e + 1) p (bU G P V p))) u (nI p) ρ = fM_send_61 N (fM_send_49 N m) N x1 (nI (bW G V (e + 1) p (bU G P V p))) u (nI p) (nI 0) ρ := by
      show (if ρ.1 208 0 0 0 ≤ nI p then _ else fM_send_61 N (fM_send_49 N m) N x1 (nI (bW G V (e + 1) p (bU G P V p))) u (nI p) 0 ρ) = _
      rw [(hF.gs hG).P, if_neg (nI_ge (by omega) (by omega))]
      rfl
    rw [e0]
    obtain ⟨ρ', u', t1, t2, t3, t4, t5⟩ := send61 (N := N) (k := e) (x1 := x1) (go := fM_send_49 N m) hN (hF.gs hG) hU (by omega) V 0 N ρ (by omega) (by omega) frS.rfl' (h4 p (Nat.le_refl p) (by omega)) (fun w hw => absurd hw (by omega))
    have ek : P - (p + 1) = e := by omega
    have eR : bR G P V p = pkR G V e p (bU G P V p) := by unfold bR; rw [ek]
    have eU : bU G P V (p + 1) = if pkR G V e p (bU G P V p) < V then insU (bU G P V p) (pkR G V e p (bU G P V p)) else bU G P V p := by
      rw [← eR]
      rfl
    rw [t1, ← eU]
    refine ih (p + 1) m u' ρ' (by omega) (by omega) (hF.tr t2) (by rw [eU]; exact t3) (fun q hq => ?_) (fun q q1 q2 => ?_)
    · by_cases z : q = p
      · rw [z, t5, eR]
      · rw [t4 q z]
        exact h3 q (by omega)
    · rw [t4 q (by omega)]
      exact h4 q (by omega) q2
theorem sendM_e {N P V : Nat} {G : Nat → Nat → Nat} {μ : St} (hN : 4000 ≤ N) (hG : GnS G P V μ) : ∃ μ', fM_send_16 N N 0 μ = some (nI (bW G V P 0 (fun _ => false)), μ') ∧ frS μ μ' ∧ (∀ q, q < P → μ'.1 330 0 0 q = if bR G P V q < V then nI (bR G P V q) else -1) ∧ (∀ q, P ≤ q → q < 20 → μ'.1 330 0 0 q = -1) := by
  have v2 := hG.V2
  have p2 := hG.P2
  have l2 : ∀ (e v m : Nat) (ρ : St), v + e = 20 → e < m → frS μ ρ → (∀ w, w < v → ρ.1 330 0 0 w = -1) → ∃ ρ', fM_send_16 N m (nI v) ρ = (bnd (fM_mostFrom N (nI 0) 0 ρ') fun r1 σ2 => fM_send_49 N N r1 r1 0 (nI 0) σ2) ∧ frS μ ρ' ∧ ∀ w, w < 20 → ρ'.1 330 0 0 w = -1 := by
    intro e
    induction e with
    | zero =>
      intro v m ρ h1 h2 hf h3
      obtain ⟨m, rfl⟩ : ∃ q, m = q + 1 := ⟨m - 1, by omega⟩
      have : v = 20 := by omega
      subst this
      refine ⟨ρ, ?_, hf, h3⟩
      show (if (20 : Int32) ≤ nI 20 then bnd (fM_mostFrom N (nI 0) 0 ρ) fun r1 σ2 => fM_send_49 N N r1 r1 0 (nI 0) σ2 else _) = _
      exact if_pos (Int32.le_refl _)
    | succ e ih =>
      intro v m ρ h1 h2 hf h3
      obtain ⟨m, rfl⟩ : ∃ q, m = q + 1 := ⟨m - 1, by omega⟩
      have e0 : fM_send_16 N (m + 1) (nI v) ρ = fM_send_16 N m (nI (v + 1)) (sI ρ 330 0 0 v (-1)) := by
        show (if (20 : Int32) ≤ nI v then _ else chk (inb (nI v) 20) <| nm (sI ρ 330 0 0 (nI v).toNatClampNeg (-1)) fun (σ3 : St) => (fM_send_16 N m) (nI v + 1) σ3) = _
        rw [if_neg (show ¬ (20 : Int32) ≤ nI v from nI_ge (a := v) (b := 20) (by omega) (by decide)), chk_t (inb_n (by omega) (by decide)), nmx, nI_clamp (by omega), nI_1]
      rw [e0]
      refine ih (v + 1) m _ (by omega) (by omega) ⟨fun f a b i y z => ?_, hf.2⟩ fun w hw => ?_
      · rw [sI_o y]
        exact hf.1 f a b i y z
      · by_cases k : w = v
        · rw [k, sI_s]
        · rw [sI_i k]
          exact h3 w (by omega)
  obtain ⟨ρ, a1, a2, a3⟩ := l2 20 0 N μ (by omega) (by omega) frS.rfl' (fun w hw => absurd hw (by omega))
  obtain ⟨ρ', b1, b2⟩ := most_e (N := N) (F := 0) hN (a2.gs hG) MU.z (Nat.zero_le _)
  obtain ⟨τ, c1, c2, c3, c4⟩ := send49 (N := N) (x1 := nI (bW G V P 0 (fun _ => false))) hN hG P 0 N 0 ρ' (by omega) (by omega) (a2.tr b2.s) MU.z (fun q hq => absurd hq (by omega)) (fun q _ hq => (b2.st q).trans (a3 q hq))
  refine ⟨τ, ?_, c2, c3, c4⟩
  show fM_send_16 N N (nI 0) μ = _
  rw [a1, b1, bnd_e]
  exact c1
