/-! a sheet as a whole, and all sheets -/
theorem bits67 {f a v : Nat} (h : 64 ≤ f ∧ f ≤ 71) (ha : a = v) : (62 ≤ f ∧ f ≤ 71) ∧ a = v := ⟨by omega, ha⟩
theorem ov_e {N v s f n : Nat} {TC : Nat → List Cl} {fr to : Nat → Int32} {σ : St} {ps : Nat → Int32} {xi : Int32} {xs : Nat → Option (Nat × Cl)} {xb : Option Nat} (hN : 30 ≤ N) (hs : s < 35) (hf : f < n) (hn : n ≤ 17) (hT : TxX TC fr to n σ) (h1 : ∀ k, k < 8 → σ.1 64 v s k = ps k) (h2 : σ.1 67 v 0 s = xi) (h3 : σ.1 68 v 0 s = tI (xs 2)) (h4 : σ.1 69 v 0 s = tI (xs 3)) (h5 : σ.1 70 v 0 s = tI (xs 4)) (h6 : σ.1 71 v 0 s = bI xb) :
    ∃ σ', fLaw_overlay N v (nI s) (nI f) σ = some σ' ∧ (∀ f' a b j, ¬ (f' = 64 ∧ a = v ∧ b = s) → ¬ (67 ≤ f' ∧ f' ≤ 71 ∧ a = v ∧ b = 0 ∧ j = s) → σ'.1 f' a b j = σ.1 f' a b j) ∧ σ'.2 = σ.2 ∧ (∀ k, k < 8 → σ'.1 64 v s k = pT TC k (ps k) f) ∧ σ'.1 67 v 0 s = iT TC xi f ∧ σ'.1 68 v 0 s = tI (lT TC 2 (xs 2) f) ∧ σ'.1 69 v 0 s = tI (lT TC 3 (xs 3) f) ∧ σ'.1 70 v 0 s = tI (lT TC 4 (xs 4) f) ∧ σ'.1 71 v 0 s = bI (sT TC xb f) := by
  obtain ⟨⟨a1, a2, a3, a4, a5, a6, a7, a8, a9⟩, ⟨L, l1, l2, l3⟩, ln, -, -, -, -⟩ := hT f hf
  obtain ⟨σ1, b1, b2, b3, b4⟩ := ov_par (N := N) (v := v) (s := s) (f := f) (TC := TC) (ps := ps) (K := some) hs 8 0 N σ (by omega) (by omega) a2 (fun j c hc => (l3 j c hc).1) (fun k hk => by rw [if_neg (by omega)]; exact h1 k hk)
  have e0 : fLaw_overlay N v (nI s) (nI f) σ = fLaw_overlay_10 N v N (nI s) (nI f) f (nI 0) σ := by
    unfold fLaw_overlay
    rw [chk_t (inb_n (by omega) (by decide)), nI_clamp (by omega)]
    rfl
  have act : ∀ f' a b j, 1 ≤ f' → f' ≤ 15 → σ1.1 f' a b j = σ.1 f' a b j := fun f' a b j q1 q2 => b2 f' a b j (fun z => by omega)
  have law : ∀ f' b j, 65 ≤ f' → f' ≤ 71 → σ1.1 f' v b j = σ.1 f' v b j := fun f' b j q1 q2 => b2 f' v b j (fun z => by omega)
  -- the position of a clause is no -1
  have ps1 : ∀ w c, 2 ≤ w → lst (isW w) (TC f) = some c → posI (some c) ≠ -1 := fun w c hw hc => by
    obtain ⟨j, j1, j2⟩ := lst_mem hc
    have hcw : c.wh = w := by simpa [isW] using j2
    obtain ⟨g1, g2⟩ := l3 j c j1
    have := (g2 (by omega)).2
    exact m1_ne (by omega)
  -- insured
  obtain ⟨σ2, c1, c2, c3, c4⟩ : ∃ σ2, fLaw_overlay N v (nI s) (nI f) σ = fLaw_overlay_67 N v (nI s) (nI f) f σ2 ∧ (∀ f' a b j, ¬ (f' = 67 ∧ a = v ∧ b = 0 ∧ j = s) → σ2.1 f' a b j = σ1.1 f' a b j) ∧ σ2.2 = σ1.2 ∧ σ2.1 67 v 0 s = iT TC xi f := by
    rw [e0, b1, act _ _ _ _ (by decide) (by decide), a1]
    cases hc : lst (isW 0) (TC f) with
    | none =>
      rw [if_pos (show oneI none = 0 from rfl)]
      refine ⟨σ1, rfl, fun _ _ _ _ _ => rfl, rfl, ?_⟩
      rw [law _ _ _ (by decide) (by decide), h2]
      unfold iT
      rw [hc]
    | some c =>
      obtain ⟨j, j1, j2⟩ := lst_mem hc
      have hcw : c.wh = 0 := by simpa [isW] using j2
      have := (l3 j c j1).1.2.1 hcw
      rw [if_neg (show ¬ oneI (some c) = 0 from nI_ne0 (by omega) (by omega)), chk_t (inb_n hs (by decide)), nmx, nI_clamp (by omega)]
      refine ⟨_, rfl, fun f' a b j q => by rw [sI_1, if_neg q], rfl, ?_⟩
      rw [sI_s]
      unfold iT
      rw [hc]
      rfl
  have act2 : ∀ f' a b j, 1 ≤ f' → f' ≤ 15 → σ2.1 f' a b j = σ.1 f' a b j := fun f' a b j q1 q2 => (c2 f' a b j (fun z => by omega)).trans (act f' a b j q1 q2)
  -- pay
  obtain ⟨σ3, d1, d2, d3, d4⟩ : ∃ σ3, fLaw_overlay_67 N v (nI s) (nI f) f σ2 = fLaw_overlay_82 N v (nI s) (nI f) f σ3 ∧ (∀ f' a b j, ¬ (f' = 68 ∧ a = v ∧ b = 0 ∧ j = s) → σ3.1 f' a b j = σ2.1 f' a b j) ∧ σ3.2 = σ2.2 ∧ σ3.1 68 v 0 s = tI (lT TC 2 (xs 2) f) := by
    unfold fLaw_overlay_67
    rw [act2 _ _ _ _ (by decide) (by decide), a3]
    cases hc : lst (isW 2) (TC f) with
    | none =>
      rw [if_pos (show posI none = -1 from rfl)]
      refine ⟨σ2, rfl, fun _ _ _ _ _ => rfl, rfl, ?_⟩
      rw [c2 _ _ _ _ (fun z => absurd z.1 (by decide)), law _ _ _ (by decide) (by decide), h3]
      unfold lT
      rw [hc]
    | some c =>
      rw [if_neg (ps1 2 c (by decide) hc), chk_t (inb_n hs (by decide)), nmx, nI_clamp (by omega)]
      refine ⟨_, rfl, fun f' a b j q => by rw [sI_1, if_neg q], rfl, ?_⟩
      rw [sI_s]
      unfold lT
      rw [hc]
      rfl
  have act3 : ∀ f' a b j, 1 ≤ f' → f' ≤ 15 → σ3.1 f' a b j = σ.1 f' a b j := fun f' a b j q1 q2 => (d2 f' a b j (fun z => by omega)).trans (act2 f' a b j q1 q2)
  -- needy
  obtain ⟨σ4, e1, e2, e3, e4⟩ : ∃ σ4, fLaw_overlay_82 N v (nI s) (nI f) f σ3 = fLaw_overlay_97 N v (nI s) (nI f) f σ4 ∧ (∀ f' a b j, ¬ (f' = 69 ∧ a = v ∧ b = 0 ∧ j = s) → σ4.1 f' a b j = σ3.1 f' a b j) ∧ σ4.2 = σ3.2 ∧ σ4.1 69 v 0 s = tI (lT TC 3 (xs 3) f) := by
    unfold fLaw_overlay_82
    rw [act3 _ _ _ _ (by decide) (by decide), a4]
    cases hc : lst (isW 3) (TC f) with
    | none =>
      rw [if_pos (show posI none = -1 from rfl)]
      refine ⟨σ3, rfl, fun _ _ _ _ _ => rfl, rfl, ?_⟩
      rw [d2 _ _ _ _ (fun z => absurd z.1 (by decide)), c2 _ _ _ _ (fun z => absurd z.1 (by decide)), law _ _ _ (by decide) (by decide), h4]
      unfold lT
      rw [hc]
    | some c =>
      rw [if_neg (ps1 3 c (by decide) hc), chk_t (inb_n hs (by decide)), nmx, nI_clamp (by omega)]
      refine ⟨_, rfl, fun f' a b j q => by rw [sI_1, if_neg q], rfl, ?_⟩
      rw [sI_s]
      unfold lT
      rw [hc]
      rfl
  have act4 : ∀ f' a b j, 1 ≤ f' → f' ≤ 15 → σ4.1 f' a b j = σ.1 f' a b j := fun f' a b j q1 q2 => (e2 f' a b j (fun z => by omega)).trans (act3 f' a b j q1 q2)
  -- bar
  obtain ⟨σ5, g1, g2, g3, g4⟩ : ∃ σ5, fLaw_overlay_97 N v (nI s) (nI f) f σ4 = fLaw_overlay_112 N v (nI s) (nI f) f σ5 ∧ (∀ f' a b j, ¬ (f' = 70 ∧ a = v ∧ b = 0 ∧ j = s) → σ5.1 f' a b j = σ4.1 f' a b j) ∧ σ5.2 = σ4.2 ∧ σ5.1 70 v 0 s = tI (lT TC 4 (xs 4) f) := by
    unfold fLaw_overlay_97
    rw [act4 _ _ _ _ (by decide) (by decide), a5]
    cases hc : lst (isW 4) (TC f) with
    | none =>
      rw [if_pos (show posI none = -1 from rfl)]
      refine ⟨σ4, rfl, fun _ _ _ _ _ => rfl, rfl, ?_⟩
      rw [e2 _ _ _ _ (fun z => absurd z.1 (by decide)), d2 _ _ _ _ (fun z => absurd z.1 (by decide)), c2 _ _ _ _ (fun z => absurd z.1 (by decide)), law _ _ _ (by decide) (by decide), h5]
      unfold lT
      rw [hc]
    | some c =>
      rw [if_neg (ps1 4 c (by decide) hc), chk_t (inb_n hs (by decide)), nmx, nI_clamp (by omega)]
      refine ⟨_, rfl, fun f' a b j q => by rw [sI_1, if_neg q], rfl, ?_⟩
      rw [sI_s]
      unfold lT
      rw [hc]
      rfl
  have act5 : ∀ f' a b j, 1 ≤ f' → f' ≤ 15 → σ5.1 f' a b j = σ.1 f' a b j := fun f' a b j q1 q2 => (g2 f' a b j (fun z => by omega)).trans (act4 f' a b j q1 q2)
  -- suit
  obtain ⟨σ6, i1, i2, i3, i4⟩ : ∃ σ6, fLaw_overlay_112 N v (nI s) (nI f) f σ5 = some σ6 ∧ (∀ f' a b j, ¬ (f' = 71 ∧ a = v ∧ b = 0 ∧ j = s) → σ6.1 f' a b j = σ5.1 f' a b j) ∧ σ6.2 = σ5.2 ∧ σ6.1 71 v 0 s = bI (sT TC xb f) := by
    unfold fLaw_overlay_112
    rw [act5 _ _ _ _ (by decide) (by decide), a6]
    have hfl := fil_le (p := isW 5) (l := TC f)
    by_cases c0 : ((TC f).filter (isW 5)).length = 0
    · rw [if_pos (by rw [c0]; decide)]
      refine ⟨σ5, rfl, fun _ _ _ _ _ => rfl, rfl, ?_⟩
      rw [g2 _ _ _ _ (fun z => absurd z.1 (by decide)), e2 _ _ _ _ (fun z => absurd z.1 (by decide)), d2 _ _ _ _ (fun z => absurd z.1 (by decide)), c2 _ _ _ _ (fun z => absurd z.1 (by decide)), law _ _ _ (by decide) (by decide), h6]
      unfold sT
      rw [if_pos c0]
    · rw [if_neg (nI_nle (by omega) (by omega)), chk_t (inb_n hs (by decide)), nmx, nI_clamp (by omega)]
      refine ⟨_, rfl, fun f' a b j q => by rw [sI_1, if_neg q], rfl, ?_⟩
      rw [sI_s]
      unfold sT
      rw [if_neg c0]
      rfl
  refine ⟨σ6, by rw [c1, d1, e1, g1, i1], fun f' a b j q1 q2 => ?_, by rw [i3, g3, e3, d3, c3, b3], fun k hk => ?_, ?_, ?_, ?_, ?_, i4⟩
  · rw [i2 f' a b j (fun z => q2 (by omega)), g2 f' a b j (fun z => q2 (by omega)), e2 f' a b j (fun z => q2 (by omega)), d2 f' a b j (fun z => q2 (by omega)), c2 f' a b j (fun z => q2 (by omega)), b2 f' a b j q1]
  · rw [i2 _ _ _ _ (fun z => absurd z.1 (by decide)), g2 _ _ _ _ (fun z => absurd z.1 (by decide)), e2 _ _ _ _ (fun z => absurd z.1 (by decide)), d2 _ _ _ _ (fun z => absurd z.1 (by decide)), c2 _ _ _ _ (fun z => absurd z.1 (by decide)), b4 k hk]
  · rw [i2 _ _ _ _ (fun z => absurd z.1 (by decide)), g2 _ _ _ _ (fun z => absurd z.1 (by decide)), e2 _ _ _ _ (fun z => absurd z.1 (by decide)), d2 _ _ _ _ (fun z => absurd z.1 (by decide)), c4]
  · rw [i2 _ _ _ _ (fun z => absurd z.1 (by decide)), g2 _ _ _ _ (fun z => absurd z.1 (by decide)), e2 _ _ _ _ (fun z => absurd z.1 (by decide)), d4]
  · rw [i2 _ _ _ _ (fun z => absurd z.1 (by decide)), g2 _ _ _ _ (fun z => absurd z.1 (by decide)), e4]
  · rw [i2 _ _ _ _ (fun z => absurd z.1 (by decide)), g4]
/-- the frame of one sheet -/
def SFx (v s : Nat) (σ σ' : St) : Prop := (∀ f a b j, ¬ (f = 64 ∧ a = v ∧ b = s) → ¬ (f = 65 ∧ a = v ∧ b = s) → ¬ (66 ≤ f ∧ f ≤ 71 ∧ a = v ∧ b = 0 ∧ j = s) → σ'.1 f a b j = σ.1 f a b j) ∧ σ'.2 = σ.2
theorem SFx.tr {v s : Nat} {σ σ' σ'' : St} (h : SFx v s σ σ') (h2 : SFx v s σ' σ'') : SFx v s σ σ'' := ⟨fun f a b i e e2 e3 => (h2.1 f a b i e e2 e3).trans (h.1 f a b i e e2 e3), h2.2.trans h.2⟩
theorem SFx.s {v s f : Nat} {σ : St} {x : Int32} (h : 66 ≤ f ∧ f ≤ 71) : SFx v s σ (sI σ f v 0 s x) := ⟨fun f' a' b' i' _ _ e => by rw [sI_1, if_neg (fun q => e (by omega))], rfl⟩
theorem ovs_e {N v s n : Nat} {TC : Nat → List Cl} {fr to : Nat → Int32} (hN : 30 ≤ N) (hs : s < 35) (hn : n ≤ 17) : ∀ (r : List Nat) (m : Nat) (σ : St) (ps : Nat → Int32) (xi : Int32) (xs : Nat → Option (Nat × Cl)) (xb : Option Nat), r.length < m → r.length ≤ 17 → (∀ x ∈ r, x < n) → TxX TC fr to n σ → Rep (fun i => σ.1 65 v s i) r → (∀ k, k < 8 → σ.1 64 v s k = ps k) → σ.1 67 v 0 s = xi → σ.1 68 v 0 s = tI (xs 2) → σ.1 69 v 0 s = tI (xs 3) → σ.1 70 v 0 s = tI (xs 4) → σ.1 71 v 0 s = bI xb →
    ∃ σ', fLaw_makeSheet_66 N v m (nI s) (nI r.length - 1) σ = some σ' ∧ (∀ f a b j, ¬ (f = 64 ∧ a = v ∧ b = s) → ¬ (67 ≤ f ∧ f ≤ 71 ∧ a = v ∧ b = 0 ∧ j = s) → σ'.1 f a b j = σ.1 f a b j) ∧ σ'.2 = σ.2 ∧ (∀ k, k < 8 → σ'.1 64 v s k = r.foldl (pT TC k) (ps k)) ∧ σ'.1 67 v 0 s = r.foldl (iT TC) xi ∧ σ'.1 68 v 0 s = tI (r.foldl (lT TC 2) (xs 2)) ∧ σ'.1 69 v 0 s = tI (r.foldl (lT TC 3) (xs 3)) ∧ σ'.1 70 v 0 s = tI (r.foldl (lT TC 4) (xs 4)) ∧ σ'.1 71 v 0 s = bI (r.foldl (sT TC) xb) := by
  intro r
  induction r with
  | nil =>
    intro m σ ps xi xs xb h1 h2 h3 hT h4 h5 h6 h7 h8 h9 h10
    obtain ⟨m, rfl⟩ : ∃ q, m = q + 1 := ⟨m - 1, by omega⟩
    exact ⟨σ, rfl, fun _ _ _ _ _ _ => rfl, rfl, h5, h6, h7, h8, h9, h10⟩
  | cons f r ih =>
    intro m σ ps xi xs xb h1 h2 h3 hT h4 h5 h6 h7 h8 h9 h10
    rw [List.length_cons] at h1 h2 ⊢
    obtain ⟨m, rfl⟩ : ∃ q, m = q + 1 := ⟨m - 1, by omega⟩
    have hf := h3 f List.mem_cons_self
    obtain ⟨σ1, a1, a2, a3, a4, a5, a6, a7, a8, a9⟩ := ov_e hN hs hf hn hT h5 h6 h7 h8 h9 h10
    have e0 : fLaw_makeSheet_66 N v (m + 1) (nI s) (nI (r.length + 1) - 1) σ = fLaw_makeSheet_66 N v m (nI s) (nI r.length - 1) σ1 := by
      rw [nI_sub1]
      show (if nI r.length < 0 then _ else chk (inb (nI s) 35) (chk (inb (nI r.length) 17) (bn1 (fLaw_overlay N v (nI s) (σ.1 65 v (nI s).toNatClampNeg (nI r.length).toNatClampNeg) σ) fun σ1 => fLaw_makeSheet_66 N v m (nI s) (nI r.length + (-1)) σ1))) = _
      rw [if_neg (nI_pos (by omega)), chk_t (inb_n hs (by decide)), chk_t (inb_n (by omega) (by decide)), nI_clamp (by omega), nI_clamp (by omega), show σ.1 65 v s r.length = nI f from h4.1, a1, bn1_e, Int32.sub_eq_add_neg]
    obtain ⟨σ2, b1, b2, b3, b4⟩ := ih m σ1 (fun k => pT TC k (ps k) f) (iT TC xi f) (fun w => lT TC w (xs w) f) (sT TC xb f) (by omega) (by omega) (fun x hx => h3 x (List.mem_cons_of_mem _ hx)) (hT.mv (fun f' a b i q1 q2 => a2 f' a b i (fun z => by omega) (fun z => by omega))) (Rep.eq r (fun i _ => a2 _ _ _ _ (fun z => absurd z.1 (by decide)) (fun z => by omega)) h4.2) a4 a5 a6 a7 a8 a9
    exact ⟨σ2, e0.trans b1, fun f' a b j q1 q2 => (b2 f' a b j q1 q2).trans (a2 f' a b j q1 q2), b3.trans a3, b4⟩
theorem sheet_e {N v s n : Nat} {TC : Nat → List Cl} {fr to : Nat → Int32} {d : Int32} {σ : St} (hN : 30 ≤ N) (hs : s < 35) (hn : n ≤ 17) (hT : TxX TC fr to n σ) (hsz : σ.1 62 v 0 0 = nI n) :
    ∃ σ', fLaw_makeSheet N v (nI s) d σ = some σ' ∧ SFx v s σ σ' ∧ ShX v s σ' (sheetR TC (forR fr to d n)) := by
  obtain ⟨σ1, a1, a2, a3, a4, a5⟩ := ord_loop (N := N) (v := v) (s := s) (n := n) (fr := fr) (to := to) (x2 := d) hN hn hs n 0 N σ (by omega) (by omega) (fun x hx => ⟨(hT x hx).2.2.2.1, (hT x hx).2.2.2.2.1⟩) hsz trivial
  have hl := forR_len fr to d n
  obtain ⟨σ7, h7⟩ : ∃ σ7, σ7 = sI (sI (sI (sI (sI (sA σ1 64 v s (va_cpy dflts (σ1.1 64 v s) 0 0 8)) 67 v 0 s 0) 68 v 0 s (-1)) 69 v 0 s (-1)) 70 v 0 s (-1)) 71 v 0 s (-1) := ⟨_, rfl⟩
  have f7 : ∀ f a b j, ¬ (f = 64 ∧ a = v ∧ b = s) → ¬ (67 ≤ f ∧ f ≤ 71 ∧ a = v ∧ b = 0 ∧ j = s) → σ7.1 f a b j = σ1.1 f a b j := fun f a b j q1 q2 => by
    rw [h7, sI_1, if_neg (fun z => q2 (by omega)), sI_1, if_neg (fun z => q2 (by omega)), sI_1, if_neg (fun z => q2 (by omega)), sI_1, if_neg (fun z => q2 (by omega)), sI_1, if_neg (fun z => q2 (by omega)), sA_1, if_neg q1]
  have fc7 : σ7.1 66 v 0 s = nI (forR fr to d n).length := (f7 _ _ _ _ (fun z => absurd z.1 (by decide)) (fun z => by omega)).trans a3
  have e0 : fLaw_makeSheet N v (nI s) d σ = fLaw_makeSheet_66 N v N (nI s) (nI (forR fr to d n).length - 1) σ7 := by
    unfold fLaw_makeSheet fLaw_orderActs
    rw [chk_t (inb_n hs (by decide))]
    simp only [nI_clamp (show s < 2 ^ 31 by omega)]
    rw [show fLaw_orderActs_13 N v N (nI s) d s 0 0 σ = some σ1 from a1, bn1_e, chk_t (inb_n hs (by decide)), chk_t (by decide), nmx, nmx, nmx, nmx, nmx, nmx, ← h7, nmx, fc7]
  obtain ⟨σ2, b1, b2, b3, b4, b5, b6, b7, b8, b9⟩ := ovs_e (N := N) (v := v) (s := s) (n := n) (TC := TC) (fr := fr) (to := to) hN hs hn (forR fr to d n) N σ7 (fun k => dflts k) 0 (fun _ => none) none (by omega) (by omega) (fun x hx => forR_lt _ _ _ _ x hx) (hT.mv (fun f a b i q1 q2 => (f7 f a b i (fun z => by omega) (fun z => by omega)).trans (a4 f a b i (fun z => by omega) (fun z => by omega)))) (Rep.eq _ (fun i _ => f7 _ _ _ _ (fun z => absurd z.1 (by decide)) (fun z => by omega)) a2) (fun k hk => by
      rw [h7, sI_o (by decide), sI_o (by decide), sI_o (by decide), sI_o (by decide), sI_o (by decide), sA_1, if_pos ⟨rfl, rfl, rfl⟩]
      show (if 0 ≤ k ∧ k < 0 + 8 then dflts (0 + (k - 0)) else _) = _
      rw [if_pos ⟨by omega, by omega⟩, Nat.zero_add, Nat.sub_zero]) (by rw [h7, sI_o (by decide), sI_o (by decide), sI_o (by decide), sI_o (by decide), sI_s]) (by rw [h7, sI_o (by decide), sI_o (by decide), sI_o (by decide), sI_s]; rfl) (by rw [h7, sI_o (by decide), sI_o (by decide), sI_s]; rfl) (by rw [h7, sI_o (by decide), sI_s]; rfl) (by rw [h7, sI_s]; rfl)
  refine ⟨σ2, e0.trans b1, ⟨fun f a b j q1 q2 q3 => ?_, ?_⟩, ?_, ?_, b4, b5, b6, b7, b8, b9⟩
  · rw [b2 f a b j q1 (fun z => q3 (by omega)), f7 f a b j q1 (fun z => q3 (by omega)), a4 f a b j q2 (fun z => q3 (by omega))]
  · rw [b3, ← a5, h7]
    rfl
  · exact Rep.eq _ (fun i _ => (b2 _ _ _ _ (fun z => absurd z.1 (by decide)) (fun z => by omega)).trans (f7 _ _ _ _ (fun z => absurd z.1 (by decide)) (fun z => by omega))) a2
  · rw [b2 _ _ _ _ (fun z => absurd z.1 (by decide)) (fun z => by omega), fc7]
    rfl
