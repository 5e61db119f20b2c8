/-! the reference: the greatest sum -/
def frH (μ ρ : St) : Prop := (∀ f a b i, frW f → ρ.1 f a b i = μ.1 f a b i) ∧ ρ.2 = μ.2
theorem frH.rfl' {μ : St} : frH μ μ := ⟨fun _ _ _ _ _ => rfl, rfl⟩
theorem frH.tr {μ ρ τ : St} (h : frH μ ρ) (k : frH ρ τ) : frH μ τ := ⟨fun f a b i z => (k.1 f a b i z).trans (h.1 f a b i z), k.2.trans h.2⟩
theorem frH.gs {G : Nat → Nat → Nat} {P V : Nat} {μ ρ : St} (h : frH μ ρ) (g : GnS G P V μ) : GnS G P V ρ := g.mv fun f a b i _ _ q1 q2 q3 => h.1 f a b i ⟨q1, q2, q3⟩
theorem sum_up {G : Nat → Nat → Nat} {U : Nat → Bool} {s s' : Nat → Nat} {F P V j : Nat} {x y : Nat → Int} {l : Int} (hF : F ≤ P) (D1 : DU (gm G U) s F P V x y l) (D2 : DU (gm G U) s' F P V x y l) (j1 : F ≤ j) (j2 : j < P) (j3 : V ≤ s j) (j4 : s' j < V) (hs : ∀ r, F ≤ r → r < P → r ≠ j → (s' r < V ↔ s r < V)) : sR (wl (gm G U) V s' 0) (P - F) F = sR (wl (gm G U) V s 0) (P - F) F + l ∧ sR (fun q => if s' q < V then 0 else 1) (P - F) F = sR (fun q => if s q < V then 0 else 1) (P - F) F - 1 := by
  have pe : ∀ r, DU (gm G U) r F P V x y l → sR x (P - F) F + sY y U V = sR (wl (gm G U) V r l) (P - F) F := fun r D => pay_eq (P - F) F U (fun q a b c => ⟨(gm_ne (D.t q a (by omega) c).1).1, (D.t q a (by omega) c).2⟩) (fun q r a b c d => D.i q r a (by omega) c (by omega)) (fun q a b => D.u q a (by omega)) (fun v hv _ z => D.z v hv fun q a b => z q a (by omega))
  have p1 := pe s D1
  have p2 := pe s' D2
  have u : sR (fun q => if s' q < V then 0 else 1) (P - F) F = sR (fun q => if s q < V then 0 else 1) (P - F) F + ((if s' j < V then 0 else 1) - (if s j < V then 0 else 1)) := sR_upd (f := fun q => if s q < V then 0 else 1) (f' := fun q => if s' q < V then 0 else 1) (P - F) F (fun q a b c => by
    have := hs q a (by omega) c
    by_cases k : s q < V
    · rw [if_pos k, if_pos (this.mpr k)]
    · rw [if_neg k, if_neg (fun z => k (this.mp z))]) j1 (by omega)
  rw [if_pos j4, if_neg (show ¬ s j < V by omega)] at u
  have a1 := wl_add (g := gm G U) (V := V) (s := s) (l := l) (P - F) F
  have a2 := wl_add (g := gm G U) (V := V) (s := s') (l := l) (P - F) F
  rw [u] at a2
  have e : l * (sR (fun q => if s q < V then 0 else 1) (P - F) F + (0 - 1)) = l * sR (fun q => if s q < V then 0 else 1) (P - F) F - l := by
    rw [Int.mul_add]
    omega
  rw [e] at a2
  exact ⟨by omega, by omega⟩
theorem rkC_le {V v : Nat} {rk : Nat → Nat} : rkC V rk v ≤ V := cnt_le _ V
theorem better_e {N P V F : Nat} {G : Nat → Nat → Nat} {U : Nat → Bool} {u : Int32} {s : Nat → Nat} {x y : Nat → Int} {l : Int} {μ : St} (hN : 4000 ≤ N) (hG : GnS G P V μ) (hU : MU u U) (hF : F ≤ P) (M : Mt s F P V (hV μ) V) (D : DU (gm G U) s F P V x y l) : ∃ r μ', fM_betterBy N (nI F) u μ = some (nI r, μ') ∧ frH μ μ' ∧ ((r = 0 ∧ Mt s F P V (hV μ') V ∧ ∃ x' y', DU (gm G U) s F P V x' y' 0) ∨ (0 < r ∧ r < 2 ^ 31 ∧ ∃ s' j x' y', DU (gm G U) s F P V x' y' r ∧ DU (gm G U) s' F P V x' y' r ∧ Mt s' F P V (hV μ') V ∧ F ≤ j ∧ j < P ∧ V ≤ s j ∧ s' j < V ∧ ∀ q, F ≤ q → q < P → q ≠ j → (s' q < V ↔ s q < V))) := by
  have v2 := hG.V2
  have p2 := hG.P2
  obtain ⟨ρ1, a1, a2, a3⟩ := init2 (N := N) (F := F) (u := u) hG V 0 N μ (by omega) (by omega) FB.rfl' (fun w hw => absurd hw (by omega))
  obtain ⟨ρ2, b1, b2, b3⟩ := first34 (N := N) (by omega) hG hU M (P - F) F N ρ1 (by omega) (by omega) (by omega) a2 ⟨fun v hv => Or.inl (a3 v hv), fun q v _ _ _ _ _ z => absurd z (by omega)⟩
  obtain ⟨ρ3, c1, c2, c3, c4⟩ := turns130 (N := N) (by omega) hG hU M D 24 0 N ρ2 1 (by omega) (by omega) b2 (b3.bf D) TS.start (fun z => absurd z (by decide))
  have e0 : fM_betterBy N (nI F) u μ = fM_betterBy_316 N N (-1) (nI 0) ρ3 := by
    show fM_betterBy_2 N N (nI F) u (nI 0) μ = _
    rw [a1, b1]
    exact c1
  have g3 := c2.gs hG
  have fr : frH μ ρ3 := ⟨fun f a b i z => c2.1 f a b i z.2.1 z.2.2, c2.2⟩
  have h3 := c2.h
  have free : ∀ v, v < V → (∀ q, F ≤ q → q < P → s q ≠ v) → freeV ρ3 v := fun v hv hq => by
    unfold freeV
    rw [h3]
    rcases M.b v hv (by omega) with k | ⟨q, q1, q2, q3, q4⟩
    · exact k
    · exact absurd q4 (hq q q1 q2)
  rw [e0]
  rcases best316 (N := N) g3 V 0 N (-1) (by omega) (by omega) (Or.inl ⟨rfl, fun w hw => absurd hw (by omega)⟩) with ⟨d1, d2⟩ | ⟨k, k1, k2, k3, k4, k5⟩
  · refine ⟨0, ρ3, d1, fr, Or.inl ⟨rfl, by rw [h3]; exact M, _, _, D.new c3 c4 (Int.le_refl 0) D.l0 fun v hv hq => d2 v hv (free v hv hq)⟩⟩
  · rw [k5]
    obtain ⟨r, hr⟩ : ∃ r : Nat, (r : Int) = dV ρ3 k := ⟨(dV ρ3 k).toNat, by omega⟩
    have rl : r < 2 ^ 31 := by
      have := Int32.toInt_lt (ρ3.1 335 0 0 k)
      have e : dV ρ3 k = (ρ3.1 335 0 0 k).toInt := rfl
      omega
    have er : ρ3.1 335 0 0 k = nI r := Int32.toInt_inj.mp (by rw [nI_toInt rl]; exact hr.symm)
    have kf : ∀ q, F ≤ q → q < P → s q ≠ k := fun q q1 q2 z => by
      have := M.a q q1 q2 (by omega)
      unfold freeV at k2
      rw [h3] at k2
      rw [z, k2] at this
      exact absurd this (m1_ne' (by omega))
    have yk := D.z k k1 kf
    have rk := (c3.r k k1).resolve_left (by omega)
    have D' := D.new c3 c4 (l' := r) (by omega) (by omega) (fun v hv hq => by rw [hr]; exact k4 v hv (free v hv hq))
    obtain ⟨T, n, hT, hp⟩ := c3.p
    have sp : ∀ v, v < V → -1000000 < dV ρ3 v → 0 ≤ slk y l (dV ρ3) v := fun v hv z => by
      have := (c3.r v hv).resolve_left (by omega)
      unfold slk
      omega
    obtain ⟨σ', s', j, w1, w2, w3, w4, w5, w6, w7, w8, w9, w10⟩ := walk409 (N := N) (U := U) (l' := r) (rk := rkC V (fun v => (slk y l (dV ρ3) v).toNat * n + T v)) (won := nI r) (by omega) g3 D D' c4 (by omega) (fun v hv z => by
      obtain ⟨q, q1, q2, q3, q4, q5⟩ := hp v hv z
      refine ⟨q, q1, q2, q3, q4, ?_⟩
      rcases q5 with m | ⟨m1, m2, m3, m4, m5⟩
      · exact Or.inl m
      · exact Or.inr ⟨m1, m2, m3, m4, rkC_lt m1 (lex_rk hT (sp _ m1 m3) (sp _ hv z) m5)⟩) 25 k N ρ3 s (by
        have := rkC_le (V := V) (rk := fun v => (slk y l (dV ρ3) v).toNat * n + T v) (v := k)
        omega) (by omega) (fun _ _ _ _ _ => rfl) rfl ⟨k1, ⟨by rw [h3]; exact M.a, fun v hv _ => by rw [h3]; exact M.b v hv (by omega)⟩, kf, fun _ _ _ _ => rfl, Or.inl k2, D'.t, fun v hv _ z => D'.z v hv z, fun _ _ _ => Iff.rfl⟩ (by omega)
    rw [er]
    refine ⟨r, σ', w1, fr.tr ⟨fun f a b i z => w2 f a b i z.1, w3⟩, Or.inr ⟨by omega, rl, s', j, _, _, D', w4, w5, w6, w7, w8, w9, w10⟩⟩
theorem most_fin {G : Nat → Nat → Nat} {U : Nat → Bool} {s : Nat → Nat} {F P V S : Nat} {x y : Nat → Int} {l : Int} (hF : F ≤ P) (D : DU (gm G U) s F P V x y l) (hl : l * sR (fun q => if s q < V then 0 else 1) (P - F) F = 0) (hS : (S : Int) = sR (wl (gm G U) V s 0) (P - F) F) : S = bW G V (P - F) F U := by
  have pe : sR x (P - F) F + sY y U V = sR (wl (gm G U) V s l) (P - F) F := pay_eq (P - F) F U (fun q a b c => ⟨(gm_ne (D.t q a (by omega) c).1).1, (D.t q a (by omega) c).2⟩) (fun q r a b c d => D.i q r a (by omega) c (by omega)) (fun q a b => D.u q a (by omega)) (fun v hv _ z => D.z v hv fun q a b => z q a (by omega))
  have a1 := wl_add (g := gm G U) (V := V) (s := s) (l := l) (P - F) F
  have ub := bW_ub (g := G) (V := V) (x := x) (y := y) (P - F) F U (fun q v a b c d => by
    have e : gm G U q v = G q v := gm_f d.1
    rw [← e]
    exact D.f q v a (by omega) c (by rw [e]; exact d.2)) (fun q a b => Int.le_trans D.l0 (D.xl q a (by omega))) (fun v hv _ => D.y0 v hv)
  have lb := bW_lb (g := G) (V := V) (s := s) (P - F) F U (fun q a b c => by
    have t := (D.t q a (by omega) c).1
    have e := gm_ne t
    exact ⟨e.1, by rw [← e.2]; exact t⟩) (fun q r a b c d => D.i q r a (by omega) c (by omega))
  have eq : sR (wl G V s 0) (P - F) F = sR (wl (gm G U) V s 0) (P - F) F := sR_cg (P - F) F fun q a b => by
    unfold wl
    by_cases c : s q < V
    · rw [if_pos c, if_pos c, (gm_ne (D.t q a (by omega) c).1).2]
    · rw [if_neg c, if_neg c]
  omega
theorem most29 {N P V F : Nat} {G : Nat → Nat → Nat} {U : Nat → Bool} {u : Int32} (hN : 4000 ≤ N) (hU : MU u U) (hF : F ≤ P) : ∀ (e n m S : Nat) (fl : Int32) (μ : St) (s : Nat → Nat) (x y : Nat → Int) (l : Int), n + e = P → e < m → F ≤ n → GnS G P V μ → Mt s F P V (hV μ) V → DU (gm G U) s F P V x y l → (S : Int) = sR (wl (gm G U) V s 0) (P - F) F → (fl ≠ 0 → sR (fun q => if s q < V then 0 else 1) (P - F) F = (P : Int) - n) → (fl = 0 → ∃ x' y', DU (gm G U) s F P V x' y' 0) → ∃ μ', fM_mostFrom_29 N m (nI F) u (nI S) fl (nI n) μ = some (nI (bW G V (P - F) F U), μ') ∧ frH μ μ' := by
  intro e
  induction e with
  | zero =>
    intro n m S fl μ s x y l h1 h2 h3 hG M D hS hu h0
    obtain ⟨m, rfl⟩ : ∃ q, m = q + 1 := ⟨m - 1, by omega⟩
    have : n = P := by omega
    subst this
    refine ⟨μ, ?_, frH.rfl'⟩
    show (if μ.1 208 0 0 0 ≤ nI n then some (nI S, μ) else _) = _
    rw [hG.P, if_pos (Int32.le_refl _)]
    by_cases c : fl = 0
    · obtain ⟨x', y', D'⟩ := h0 c
      rw [most_fin hF D' (by omega) hS]
    · have z := hu c
      rw [most_fin hF D (by rw [z, Int.sub_self, Int.mul_zero]) hS]
  | succ e ih =>
    intro n m S fl μ s x y l h1 h2 h3 hG M D hS hu h0
    obtain ⟨m, rfl⟩ : ∃ q, m = q + 1 := ⟨m - 1, by omega⟩
    have p2 := hG.P2
    have e0 : fM_mostFrom_29 N (m + 1) (nI F) u (nI S) fl (nI n) μ = if fl = 0 then some (nI S, μ) else bnd (fM_betterBy N (nI F) u μ) fun r1 σ2 => nm ((nI S + r1)) fun (y3 : Int32) => if r1 ≤ 0 then fM_mostFrom_29 N m (nI F) u y3 0 (nI (n + 1)) σ2 else fM_mostFrom_29 N m (nI F) u y3 1 (nI (n + 1)) σ2 := by
      show (if μ.1 208 0 0 0 ≤ nI n then _ else if fl = 0 then some (nI S, μ) else bnd (fM_betterBy N (nI F) u μ) fun r1 σ2 => nm ((nI S + r1)) fun (y3 : Int32) => if r1 ≤ 0 then fM_mostFrom_29 N m (nI F) u y3 0 (nI n + 1) σ2 else fM_mostFrom_29 N m (nI F) u y3 1 (nI n + 1) σ2) = _
      rw [hG.P, if_neg (nI_ge (by omega) (by omega)), nI_1]
    rw [e0]
    by_cases c : fl = 0
    · obtain ⟨x', y', D'⟩ := h0 c
      rw [if_pos c]
      exact ⟨μ, by rw [most_fin hF D' (by omega) hS], frH.rfl'⟩
    · rw [if_neg c]
      have z := hu c
      obtain ⟨r, μ', r1, r2, r3⟩ := better_e (N := N) hN hG hU hF M D
      rw [r1, bnd_e, nmx, nI_add]
      rcases r3 with ⟨k1, k2, x', y', k3⟩ | ⟨k1, k2, s', j, x', y', k3, k4, k5, k6, k7, k8, k9, k10⟩
      · subst k1
        rw [if_pos (show nI 0 ≤ (0 : Int32) from Int32.le_refl _)]
        obtain ⟨μ'', q1, q2⟩ := ih (n + 1) m (S + 0) 0 μ' s x' y' 0 (by omega) (by omega) (by omega) (r2.gs hG) k2 k3 hS (fun w => absurd rfl w) (fun _ => ⟨x', y', k3⟩)
        exact ⟨μ'', q1, r2.tr q2⟩
      · rw [if_neg (show ¬ nI r ≤ (0 : Int32) from nI_ge (a := 0) (b := r) k1 k2)]
        obtain ⟨t1, t2⟩ := sum_up hF k3 k4 k6 k7 k8 k9 k10
        obtain ⟨μ'', q1, q2⟩ := ih (n + 1) m (S + r) 1 μ' s' x' y' r (by omega) (by omega) (by omega) (r2.gs hG) k5 k4 (by rw [t1, ← hS]; omega) (fun _ => by rw [t2, z]; omega) (fun w => absurd w (by decide))
        exact ⟨μ'', q1, r2.tr q2⟩
theorem sR_k (c : Int) : ∀ k p, sR (fun _ => c) k p = c * k
  | 0, _ => by simp [sR]
  | k + 1, p => by
    show c + sR (fun _ => c) k (p + 1) = _
    rw [sR_k c k (p + 1)]
    have : ((k + 1 : Nat) : Int) = k + 1 := by omega
    rw [this, Int.mul_add]
    omega
theorem most_e {N P V F : Nat} {G : Nat → Nat → Nat} {U : Nat → Bool} {u : Int32} {μ : St} (hN : 4000 ≤ N) (hG : GnS G P V μ) (hU : MU u U) (hF : F ≤ P) : ∃ μ', fM_mostFrom N (nI F) u μ = some (nI (bW G V (P - F) F U), μ') ∧ frH μ μ' := by
  have v2 := hG.V2
  have p2 := hG.P2
  have l2 : ∀ (e v m : Nat) (ρ : St), v + e = 24 → e < m → frH μ ρ → (∀ w, w < v → hV ρ w = -1) → ∃ ρ', fM_mostFrom_2 N m (nI F) u (nI v) ρ = fM_mostFrom_29 N N (nI F) u 0 1 (nI F) ρ' ∧ frH μ ρ' ∧ ∀ w, w < 24 → hV ρ' w = -1 := by
    intro e
    induction e with
    | zero =>
      intro v m ρ h1 h2 hf h3
      obtain ⟨m, rfl⟩ : ∃ q, m = q + 1 := ⟨m - 1, by omega⟩
      have : v = 24 := by omega
      subst this
      refine ⟨ρ, ?_, hf, h3⟩
      show (if (24 : Int32) ≤ nI 24 then fM_mostFrom_29 N N (nI F) u 0 1 (nI F) ρ else _) = _
      exact if_pos (Int32.le_refl _)
    | succ e ih =>
      intro v m ρ h1 h2 hf h3
      obtain ⟨m, rfl⟩ : ∃ q, m = q + 1 := ⟨m - 1, by omega⟩
      have e0 : fM_mostFrom_2 N (m + 1) (nI F) u (nI v) ρ = fM_mostFrom_2 N m (nI F) u (nI (v + 1)) (sI ρ 334 0 0 v (-1)) := by
        show (if (24 : Int32) ≤ nI v then _ else chk (inb (nI v) 24) <| nm (sI ρ 334 0 0 (nI v).toNatClampNeg (-1)) fun (σ1 : St) => (fM_mostFrom_2 N m) (nI F) u (nI v + 1) σ1) = _
        rw [if_neg (show ¬ (24 : Int32) ≤ nI v from nI_ge (a := v) (b := 24) (by omega) (by decide)), chk_t (inb_n (by omega) (by decide)), nmx, nI_clamp (by omega), nI_1]
      rw [e0]
      refine ih (v + 1) m _ (by omega) (by omega) ⟨fun f a b i z => ?_, hf.2⟩ fun w hw => ?_
      · rw [sI_o z.1]
        exact hf.1 f a b i z
      · unfold hV
        by_cases k : w = v
        · rw [k, sI_s]
        · rw [sI_i k]
          exact h3 w (by omega)
  obtain ⟨ρ, a1, a2, a3⟩ := l2 24 0 N μ (by omega) (by omega) frH.rfl' (fun w hw => absurd hw (by omega))
  have ng : ∀ q : Nat, ¬ (fun _ : Nat => V) q < V := fun q => Nat.lt_irrefl V
  obtain ⟨μ', b1, b2⟩ := most29 (N := N) (G := G) (V := V) (u := u) hN hU hF (P - F) F N 0 1 ρ (fun _ => V) (fun _ => 999) (fun _ => 0) 999 (by omega) (by omega) (by omega) (a2.gs hG) ⟨fun q _ _ z => absurd z (ng q), fun v hv _ => Or.inl (a3 v (by omega))⟩ ⟨by decide, fun _ _ _ => Int.le_refl _, fun _ _ => Int.le_refl _, fun q v _ _ _ _ => by
    have := gm_le (U := U) (q := q) (v := v) hG.b
    show ((gm G U q v : Nat) : Int) ≤ 999 + 0
    omega, fun q _ _ z => absurd z (ng q), fun _ _ _ _ => rfl, fun _ _ _ => rfl, fun q r _ _ _ _ z => absurd z (ng q), fun q v => gm_le hG.b⟩ (by
    have e : sR (wl (gm G U) V (fun _ => V) 0) (P - F) F = sR (fun _ => 0) (P - F) F := sR_cg (P - F) F fun q _ _ => if_neg (ng q)
    rw [e, sR_k]
    omega) (fun _ => by
    have e : sR (fun q => if (fun _ : Nat => V) q < V then (0 : Int) else 1) (P - F) F = sR (fun _ => 1) (P - F) F := sR_cg (P - F) F fun q _ _ => if_neg (ng q)
    rw [e, sR_k]
    omega) (fun z => absurd z (by decide))
  refine ⟨μ', ?_, a2.tr b2⟩
  show fM_mostFrom_2 N N (nI F) u (nI 0) μ = _
  rw [a1]
  exact b1
