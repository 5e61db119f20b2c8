/-! prices prove a sending: both answer alike -/
theorem prov93 {N V : Nat} {σ μ : St} (hX : σ.1 102 0 0 0 = nI V) (hM : μ.1 316 0 0 0 = nI V) (hV : V ≤ 24) (h : ∀ i, σ.1 109 0 0 i = μ.1 332 0 0 i) : ∀ (e v m m' : Nat) (x : Int32), v + e = V → e < m → e < m' → ∃ r, fX_proves_93 N m x (nI v) σ = some (r, σ) ∧ fM_proves_83 N m' x (nI v) μ = some (r, μ) := by
  intro e
  induction e with
  | zero =>
    intro v m m' x h1 h2 h3
    obtain ⟨m, rfl⟩ : ∃ q, m = q + 1 := ⟨m - 1, by omega⟩
    obtain ⟨m', rfl⟩ : ∃ q, m' = q + 1 := ⟨m' - 1, by omega⟩
    have : v = V := by omega
    subst this
    refine ⟨x, ?_, ?_⟩
    · show (if σ.1 102 0 0 0 ≤ nI v then some (x, σ) else _) = _
      rw [hX, if_pos (Int32.le_refl _)]
    · show (if μ.1 316 0 0 0 ≤ nI v then some (x, μ) else _) = _
      rw [hM, if_pos (Int32.le_refl _)]
  | succ e ih =>
    intro v m m' x h1 h2 h3
    obtain ⟨m, rfl⟩ : ∃ q, m = q + 1 := ⟨m - 1, by omega⟩
    obtain ⟨m', rfl⟩ : ∃ q, m' = q + 1 := ⟨m' - 1, by omega⟩
    obtain ⟨r, r1, r2⟩ := ih (v + 1) m m' (x + μ.1 332 0 0 v) (by omega) (by omega) (by omega)
    refine ⟨r, ?_, ?_⟩
    · show (if σ.1 102 0 0 0 ≤ nI v then _ else chk (inb (nI v) 24) <| nm ((x + (σ.1 109 0 0 (nI v).toNatClampNeg))) fun (y1 : Int32) => (fX_proves_93 N m) y1 (nI v + 1) σ) = _
      rw [hX, if_neg (nI_ge (by omega) (by omega)), chk_t (inb_n (by omega) (by decide)), nmx, nI_clamp (by omega), nI_1, h]
      exact r1
    · show (if μ.1 316 0 0 0 ≤ nI v then _ else chk (inb (nI v) 24) <| nm ((x + (μ.1 332 0 0 (nI v).toNatClampNeg))) fun (y1 : Int32) => (fM_proves_83 N m') y1 (nI v + 1) μ) = _
      rw [hM, if_neg (nI_ge (by omega) (by omega)), chk_t (inb_n (by omega) (by decide)), nmx, nI_clamp (by omega), nI_1]
      exact r2
theorem prov21 {N p V : Nat} {go : Int32 → Int32 → St → Option (Int32 × St)} {go' : Int32 → Int32 → St → Option (Int32 × St)} {σ μ : St} (hX : σ.1 102 0 0 0 = nI V) (hM : μ.1 316 0 0 0 = nI V) (hV : V ≤ 24) (hp : p < 20) (h108 : σ.1 108 0 0 p = μ.1 331 0 0 p) (h : ∀ i, σ.1 109 0 0 i = μ.1 332 0 0 i) (hg : ∀ v, v < V → σ.1 122 p 0 v = μ.1 329 0 0 (24 * p + v)) {x y : Int32} (hy : y = x + μ.1 331 0 0 p) : ∀ (e v m m' : Nat), v + e = V → e < m → e < m' → (fX_proves_21 N go m x (nI p) (nI v) σ = some (-1, σ) ∧ fM_proves_32 N go' m' y (nI p) (nI v) μ = some (-1, μ)) ∨ (fX_proves_21 N go m x (nI p) (nI v) σ = go y (nI (p + 1)) σ ∧ fM_proves_32 N go' m' y (nI p) (nI v) μ = go' y (nI (p + 1)) μ) := by
  intro e
  induction e with
  | zero =>
    intro v m m' h1 h2 h3
    obtain ⟨m, rfl⟩ : ∃ q, m = q + 1 := ⟨m - 1, by omega⟩
    obtain ⟨m', rfl⟩ : ∃ q, m' = q + 1 := ⟨m' - 1, by omega⟩
    have : v = V := by omega
    subst this
    refine Or.inr ⟨?_, ?_⟩
    · show (if σ.1 102 0 0 0 ≤ nI v then chk (inb (nI p) 20) <| nm ((x + (σ.1 108 0 0 (nI p).toNatClampNeg))) fun (y1 : Int32) => go y1 (nI p + 1) σ else _) = _
      rw [hX, if_pos (Int32.le_refl _), chk_t (inb_n hp (by decide)), nmx, nI_clamp (by omega), nI_1, h108, hy]
    · show (if μ.1 316 0 0 0 ≤ nI v then go' y (nI p + 1) μ else _) = _
      rw [hM, if_pos (Int32.le_refl _), nI_1]
  | succ e ih =>
    intro v m m' h1 h2 h3
    obtain ⟨m, rfl⟩ : ∃ q, m = q + 1 := ⟨m - 1, by omega⟩
    obtain ⟨m', rfl⟩ : ∃ q, m' = q + 1 := ⟨m' - 1, by omega⟩
    have ea : (24 : Int32) * nI p + nI v = nI (24 * p + v) := by
      rw [show (24 : Int32) * nI p = nI (24 * p) from (Int32.ofNat_mul 24 p).symm, nI_add]
    have eX : fX_proves_21 N go (m + 1) x (nI p) (nI v) σ = if μ.1 329 0 0 (24 * p + v) ≤ μ.1 331 0 0 p + μ.1 332 0 0 v then fX_proves_21 N go m x (nI p) (nI (v + 1)) σ else some (-1, σ) := by
      show (if σ.1 102 0 0 0 ≤ nI v then _ else chk (inb (nI p) 20) <| chk (inb (nI v) 24) <| if (σ.1 122 ((nI p).toNatClampNeg) 0 (nI v).toNatClampNeg) ≤ ((σ.1 108 0 0 (nI p).toNatClampNeg) + (σ.1 109 0 0 (nI v).toNatClampNeg)) then (fX_proves_21 N go m) x (nI p) (nI v + 1) σ else some ((-1), σ)) = _
      rw [hX, if_neg (nI_ge (by omega) (by omega)), chk_t (inb_n hp (by decide)), chk_t (inb_n (by omega) (by decide)), nI_clamp (n := p) (by omega), nI_clamp (n := v) (by omega), nI_1, h108, h, hg v (by omega)]
    have eM : fM_proves_32 N go' (m' + 1) y (nI p) (nI v) μ = if μ.1 329 0 0 (24 * p + v) ≤ μ.1 331 0 0 p + μ.1 332 0 0 v then fM_proves_32 N go' m' y (nI p) (nI (v + 1)) μ else some (-1, μ) := by
      show (if μ.1 316 0 0 0 ≤ nI v then _ else chk (inb (nI p) 20) <| chk (inb (nI v) 24) <| chk (inb ((24 * nI p) + nI v) 480) <| if (μ.1 329 0 0 ((24 * nI p) + nI v).toNatClampNeg) ≤ ((μ.1 331 0 0 (nI p).toNatClampNeg) + (μ.1 332 0 0 (nI v).toNatClampNeg)) then (fM_proves_32 N go' m') y (nI p) (nI v + 1) μ else some ((-1), μ)) = _
      rw [hM, if_neg (nI_ge (by omega) (by omega)), chk_t (inb_n hp (by decide)), chk_t (inb_n (by omega) (by decide)), ea, chk_t (inb_n (by omega) (by decide)), nI_clamp (n := p) (by omega), nI_clamp (n := v) (by omega), nI_clamp (n := 24 * p + v) (by omega), nI_1]
    rw [eX, eM]
    by_cases c : μ.1 329 0 0 (24 * p + v) ≤ μ.1 331 0 0 p + μ.1 332 0 0 v
    · rw [if_pos c, if_pos c]
      exact ih (v + 1) m m' (by omega) (by omega) (by omega)
    · rw [if_neg c, if_neg c]
      exact Or.inl ⟨rfl, rfl⟩
theorem prov8 {N P V : Nat} {σ μ : St} (hN : 100 ≤ N) (hXP : σ.1 52 0 0 0 = nI P) (hMP : μ.1 208 0 0 0 = nI P) (hP : P ≤ 20) (hX : σ.1 102 0 0 0 = nI V) (hM : μ.1 316 0 0 0 = nI V) (hV : V ≤ 24) (h108 : ∀ p, σ.1 108 0 0 p = μ.1 331 0 0 p) (h : ∀ i, σ.1 109 0 0 i = μ.1 332 0 0 i) (hg : ∀ p v, p < P → v < V → σ.1 122 p 0 v = μ.1 329 0 0 (24 * p + v)) : ∀ (e p m m' : Nat) (x : Int32), p + e = P → e < m → e < m' → ∃ r, fX_proves_8 N m x (nI p) σ = some (r, σ) ∧ fM_proves_13 N m' x (nI p) μ = some (r, μ) := by
  intro e
  induction e with
  | zero =>
    intro p m m' x h1 h2 h3
    obtain ⟨m, rfl⟩ : ∃ q, m = q + 1 := ⟨m - 1, by omega⟩
    obtain ⟨m', rfl⟩ : ∃ q, m' = q + 1 := ⟨m' - 1, by omega⟩
    have : p = P := by omega
    subst this
    obtain ⟨r, r1, r2⟩ := prov93 (N := N) hX hM hV h V 0 N N x (by omega) (by omega) (by omega)
    refine ⟨r, ?_, ?_⟩
    · show (if σ.1 52 0 0 0 ≤ nI p then fX_proves_93 N N x 0 σ else _) = _
      rw [hXP, if_pos (Int32.le_refl _)]
      exact r1
    · show (if μ.1 208 0 0 0 ≤ nI p then fM_proves_83 N N x 0 μ else _) = _
      rw [hMP, if_pos (Int32.le_refl _)]
      exact r2
  | succ e ih =>
    intro p m m' x h1 h2 h3
    obtain ⟨m, rfl⟩ : ∃ q, m = q + 1 := ⟨m - 1, by omega⟩
    obtain ⟨m', rfl⟩ : ∃ q, m' = q + 1 := ⟨m' - 1, by omega⟩
    have eX : fX_proves_8 N (m + 1) x (nI p) σ = fX_proves_21 N (fX_proves_8 N m) N x (nI p) (nI 0) σ := by
      show (if σ.1 52 0 0 0 ≤ nI p then _ else fX_proves_21 N (fX_proves_8 N m) N x (nI p) 0 σ) = _
      rw [hXP, if_neg (nI_ge (by omega) (by omega))]
      rfl
    have eM : fM_proves_13 N (m' + 1) x (nI p) μ = fM_proves_32 N (fM_proves_13 N m') N (x + μ.1 331 0 0 p) (nI p) (nI 0) μ := by
      show (if μ.1 208 0 0 0 ≤ nI p then _ else chk (inb (nI p) 20) <| nm ((x + (μ.1 331 0 0 (nI p).toNatClampNeg))) fun (y1 : Int32) => fM_proves_32 N (fM_proves_13 N m') N y1 (nI p) 0 μ) = _
      rw [hMP, if_neg (nI_ge (by omega) (by omega)), chk_t (inb_n (by omega) (by decide)), nmx, nI_clamp (by omega)]
      rfl
    rw [eX, eM]
    rcases prov21 (N := N) (p := p) (go := fX_proves_8 N m) (go' := fM_proves_13 N m') (x := x) hX hM hV (by omega) (h108 p) h (fun v hv => hg p v (by omega) hv) rfl V 0 N N (by omega) (by omega) (by omega) with ⟨e1, e2⟩ | ⟨e1, e2⟩
    · exact ⟨-1, e1, e2⟩
    · rw [e1, e2]
      exact ih (p + 1) m m' _ (by omega) (by omega) (by omega)
theorem step_proves {N : Nat} {σ μ : St} (hN : 4000 ≤ N) (h : Inv σ μ) : StI (fX_proves N σ) (fM_proves N μ) := by
  obtain ⟨TC, tp, h0⟩ := h
  have h := h0.code (x := 0)
  obtain ⟨σ', μ', G, a1, a2, a3, a4, a5, a6⟩ := gains_e hN h
  have c := h.rg.cns
  have c3 := a3.rg.cns
  have eP : nP μ' = nP (sI μ 204 0 0 0 0) := by unfold nP; rw [a4 _ _ (by decide) (by decide)]
  have eV : vcN μ' = vcN (sI μ 204 0 0 0 0) := by unfold vcN; rw [a4 _ _ (by decide) (by decide)]
  obtain ⟨r, r1, r2⟩ := prov8 (N := N) (P := nP μ') (V := vcN μ') (σ := σ') (μ := μ') (by omega) ((a3.eq.at (g := 208) 0 (by decide)).trans c3.P.1) c3.P.1 c3.P.2 ((a3.eq.at (g := 316) 0 (by decide)).trans c3.v.1) c3.v.1 c3.v.2 (fun p => a3.eq.at p (by decide)) (fun p => a3.eq.at p (by decide)) (fun p v hp hv => by
    obtain ⟨y1, y2⟩ := a6 p v (by omega) (by omega)
    rw [y1, y2]) (nP μ') 0 N N 0 (by omega) (by omega) (by omega)
  refine ⟨r, σ', μ', ?_, ?_, TC, tp, a3⟩
  · unfold fX_proves
    rw [a1, bn1_e]
    exact r1
  · unfold fM_proves
    rw [nmx, a2, bn1_e]
    exact r2
