/-! an act is tried: the class compares -/
theorem fillMore {N : Nat} : ∀ (e i m : Nat) (σ : St), i + e = 27 → e < m → ∃ σ', fArrays_fill_X_more_5 N m 0 (nI i) 27 σ = some σ' ∧ (∀ f a b j, f ≠ 158 → σ'.1 f a b j = σ.1 f a b j) ∧ (∀ j, j < i → σ'.1 158 0 0 j = σ.1 158 0 0 j) ∧ (∀ j, i ≤ j → j < 27 → σ'.1 158 0 0 j = 0) := by
  intro e
  induction e with
  | zero =>
    intro i m σ h1 h2
    obtain ⟨m, rfl⟩ : ∃ q, m = q + 1 := ⟨m - 1, by omega⟩
    have : i = 27 := by omega
    subst this
    refine ⟨σ, ?_, fun _ _ _ _ _ => rfl, fun _ _ => rfl, fun j q1 q2 => by omega⟩
    show (if (27 : Int32) ≤ nI 27 then some σ else _) = _
    rw [if_pos (show (27 : Int32) ≤ nI 27 by decide)]
  | succ e ih =>
    intro i m σ h1 h2
    obtain ⟨m, rfl⟩ : ∃ q, m = q + 1 := ⟨m - 1, by omega⟩
    obtain ⟨σ', r1, r2, r3, r4⟩ := ih (i + 1) m (sI σ 158 0 0 i 0) (by omega) (by omega)
    refine ⟨σ', ?_, fun f a b j q => by rw [r2 f a b j q, sI_o q], fun j q => by rw [r3 j (by omega), sI_i (by omega)], fun j q1 q2 => ?_⟩
    · show (if (27 : Int32) ≤ nI i then _ else chk (inb (nI i) 27) <| nm (sI σ 158 0 0 (nI i).toNatClampNeg 0) fun (σ1 : St) => (fArrays_fill_X_more_5 N m) 0 (nI i + 1) 27 σ1) = _
      rw [show (27 : Int32) = nI 27 from rfl, if_neg (nI_ge (by omega) (by omega)), chk_t (inb_n (by omega) (by decide)), nmx, nI_clamp (by omega), nI_1]
      exact r1
    · by_cases z : j = i
      · rw [z, r3 i (by omega), sI_s]
      · exact r4 j (by omega) q2
theorem cmp68 {N p tr : Nat} {go : Nat → Int32 → St → Option St} {c : Nat → Nat → Int} {d1 d0 : Nat → Nat} {σ0 : St} (hp : p < 20) (htr : tr < 8) (h47 : σ0.1 47 0 0 p = nI tr) (hd1 : ∀ j, j < 3 → σ0.1 81 1 p j = nI (d1 j) ∧ d1 j ≤ 6300000) (hd0 : ∀ j, j < 3 → σ0.1 81 0 p j = nI (d0 j) ∧ d0 j ≤ 6300000) (hc : ∀ t j, -300000000 ≤ c t j ∧ c t j ≤ 300000000) : ∀ (e j m : Nat) (σ : St), j + e = 3 → e < m → (∀ f a b i, f ≠ 158 → σ.1 f a b i = σ0.1 f a b i) → (∀ t j', t < 9 → j' < 3 → (σ.1 158 0 0 (3 * t + j')).toInt = c t j' + if sel tr t ∧ j' < j then (d1 j' : Int) - d0 j' else 0) → ∃ σ', fX_compareWithTry_68 N go m 0 (nI p) 1 p 0 p (nI j) σ = go 0 (nI (p + 1)) σ' ∧ (∀ f a b i, f ≠ 158 → σ'.1 f a b i = σ0.1 f a b i) ∧ (∀ t j', t < 9 → j' < 3 → (σ'.1 158 0 0 (3 * t + j')).toInt = c t j' + if sel tr t then (d1 j' : Int) - d0 j' else 0) := by
  intro e
  induction e with
  | zero =>
    intro j m σ h1 h2 hx hv
    obtain ⟨m, rfl⟩ : ∃ q, m = q + 1 := ⟨m - 1, by omega⟩
    have : j = 3 := by omega
    subst this
    refine ⟨σ, ?_, hx, fun t j' q1 q2 => ?_⟩
    · show (if (3 : Int32) ≤ nI 3 then go 0 (nI p + 1) σ else _) = _
      rw [if_pos (show (3 : Int32) ≤ nI 3 by decide), nI_1]
    · rw [hv t j' q1 q2]
      by_cases z : sel tr t
      · rw [if_pos z, if_pos ⟨z, q2⟩]
      · rw [if_neg z, if_neg (fun q => z q.1)]
  | succ e ih =>
    intro j m σ h1 h2 hx hv
    obtain ⟨m, rfl⟩ : ∃ q, m = q + 1 := ⟨m - 1, by omega⟩
    have hj : j < 3 := by omega
    obtain ⟨a1, b1⟩ := hd1 j hj
    obtain ⟨a0, b0⟩ := hd0 j hj
    obtain ⟨X, hX⟩ : ∃ X, X = nI (d1 j) - nI (d0 j) := ⟨_, rfl⟩
    have hXt : X.toInt = (d1 j : Int) - d0 j := by
      rw [hX, Int32.toInt_sub, nI_toInt (by omega), nI_toInt (by omega)]
      exact Int.bmod_eq_of_le (by omega) (by omega)
    obtain ⟨τ, hτ⟩ : ∃ τ, τ = sI (sI σ 158 0 0 (3 * tr + j) (σ.1 158 0 0 (3 * tr + j) + X)) 158 0 0 (24 + j) (σ.1 158 0 0 (24 + j) + X) := ⟨_, rfl⟩
    have lx : ∀ f a b i, f ≠ 158 → τ.1 f a b i = σ.1 f a b i := fun f a b i q => by rw [hτ, sI_o q, sI_o q]
    have ei : nI tr * 3 + nI j = nI (3 * tr + j) := by
      rw [show nI tr * (3 : Int32) = nI (tr * 3) from (Int32.ofNat_mul tr 3).symm, nI_add, Nat.mul_comm]
    have e24 : (24 : Int32) + nI j = nI (24 + j) := nI_add 24 j
    obtain ⟨σ', r1, r2, r3⟩ := ih (j + 1) m τ (by omega) (by omega) (fun f a b i q => (lx f a b i q).trans (hx f a b i q)) (fun t j' q1 q2 => by
      have hc' := hc t j'
      have hv' := hv t j' q1 q2
      by_cases z : j' = j
      · rw [z] at hv' hc' ⊢
        rw [if_neg (fun q => absurd q.2 (by omega))] at hv'
        by_cases y : sel tr t
        · rw [if_pos ⟨y, by omega⟩]
          have ev : τ.1 158 0 0 (3 * t + j) = σ.1 158 0 0 (3 * t + j) + X := by
            rw [hτ]
            rcases y with rfl | rfl
            · rw [sI_i (by omega), sI_s]
            · rw [show 3 * 8 + j = 24 + j by omega, sI_s]
          rw [ev, Int32.toInt_add, hv', hXt]
          exact (Int.bmod_eq_of_le (by omega) (by omega)).trans (by omega)
        · rw [if_neg (fun q => y q.1), hτ, sI_i (by
            have : t ≠ 8 := fun q => y (Or.inr q)
            omega), sI_i (by
            have : t ≠ tr := fun q => y (Or.inl q)
            omega)]
          exact hv'
      · rw [hτ, sI_i (by omega), sI_i (by omega), hv']
        by_cases y : sel tr t ∧ j' < j
        · rw [if_pos y, if_pos ⟨y.1, by omega⟩]
        · rw [if_neg y, if_neg (fun q => y ⟨q.1, by omega⟩)])
    refine ⟨σ', ?_, r2, r3⟩
    show (if (3 : Int32) ≤ nI j then _ else chk (inb (nI p) 20) <| chk (inb (((σ.1 47 0 0 (nI p).toNatClampNeg) * 3) + nI j) 27) <| chk (inb (nI j) 3) <| nm (sI σ 158 0 0 (((σ.1 47 0 0 (nI p).toNatClampNeg) * 3) + nI j).toNatClampNeg ((σ.1 158 0 0 (((σ.1 47 0 0 (nI p).toNatClampNeg) * 3) + nI j).toNatClampNeg) + ((σ.1 81 1 p (nI j).toNatClampNeg) - (σ.1 81 0 p (nI j).toNatClampNeg)))) fun (σ1 : St) => chk (inb (24 + nI j) 27) <| nm (sI σ1 158 0 0 (24 + nI j).toNatClampNeg ((σ1.1 158 0 0 (24 + nI j).toNatClampNeg) + ((σ1.1 81 1 p (nI j).toNatClampNeg) - (σ1.1 81 0 p (nI j).toNatClampNeg)))) fun (σ2 : St) => (fX_compareWithTry_68 N go m) 0 (nI p) 1 p 0 p (nI j + 1) σ2) = _
    rw [show (3 : Int32) = nI 3 from rfl, if_neg (nI_ge (by omega) (by omega)), show nI 3 = (3 : Int32) from rfl, chk_t (inb_n hp (by decide)), nI_clamp (n := p) (by omega), hx 47 _ _ _ (by decide), h47, ei, chk_t (inb_n (by omega) (by decide)), chk_t (inb_n hj (by decide)), nI_clamp (n := 3 * tr + j) (by omega), nI_clamp (n := j) (by omega), hx 81 _ _ _ (by decide), hx 81 _ _ _ (by decide), a1, a0, ← hX, nmx, e24, chk_t (inb_n (by omega) (by decide)), nI_clamp (n := 24 + j) (by omega), sI_i (by omega), sI_o (by decide), sI_o (by decide), hx 81 _ _ _ (by decide), hx 81 _ _ _ (by decide), a1, a0, ← hX, nmx, ← hτ, nI_1]
    exact r1
theorem PrV.mw {v : Nat} {σ σ' : St} (h : PrV v σ) (h1 : ∀ f b i, f = 74 ∨ f = 82 ∨ f = 142 → σ'.1 f v b i = σ.1 f v b i) (h2 : ∀ p, σ'.1 53 0 0 p = σ.1 53 0 0 p) : PrV v σ' := by
  obtain ⟨z1, z2, z3⟩ := h
  refine ⟨fun p hp => (h1 _ _ _ (by decide)).trans (z1 p hp), (h1 _ _ _ (by decide)).trans z2, fun p hp => ?_⟩
  obtain ⟨c, c1, c2, c3⟩ := z3 p hp
  rw [h2, h1 82 _ _ (by decide)]
  exact ⟨c, c1, c2, c3⟩
/-- all but the lives and what a try compares -/
def FrT (σ σ' : St) : Prop := ∀ f a b i, f ≠ 158 → ¬ ((62 ≤ f ∧ f ≤ 94) ∨ (144 ≤ f ∧ f ≤ 147)) → σ'.1 f a b i = σ.1 f a b i
theorem FrT.eq {σ σ' μ : St} (h : FrT σ σ') (hE : Eq1 σ μ) : Eq1 σ' μ := by
  intro q hq i
  have h2 : eqF.all (fun q => decide (q.1 ≠ 158 ∧ ¬ ((62 ≤ q.1 ∧ q.1 ≤ 94) ∨ (144 ≤ q.1 ∧ q.1 ≤ 147)))) = true := by decide
  obtain ⟨a1, a2⟩ := of_decide_eq_true (List.all_eq_true.mp h2 q hq)
  rw [h _ _ _ _ a1 a2]
  exact hE q hq i
theorem cmp32 {N P t T n : Nat} {TC : Nat → List Cl} {tp : Nat → Nat} {σ0 μ ρ1 ρ2 : St} {tr : Nat → Nat} (hN : 4000 ≤ N) (h : InvB TC tp σ0 μ) (hP : nP μ = P) (ht : tdN μ = t) (hT : nT μ = T) (hn : n = t + 1 - 312) (hx1 : TxX (TCn TC (T + 1)) (frM μ) (toM μ) (T + 1) σ0) (s1 : SmR P t μ ρ1) (r1 : RunOK P (T + 1) t TC ρ1) (s2 : SmR P t μ ρ2) (r2 : RunOK P T t TC ρ2) (htr : ∀ p, p < P → μ.1 211 0 0 p = nI (tr p) ∧ tr p < 8) : ∀ (e p m : Nat) (σ : St), p + e = P → e < m → FrT σ0 σ → (∀ v, v < 2 → σ.1 147 v 0 0 = nI t) → (∀ v, v < 2 → PrV v σ) → RdV 0 T TC σ μ → RdV 1 (T + 1) TC σ μ → (∀ v q, v < 2 → P ≤ q → q < 20 → σ.1 82 v q 0 = -1) → (∀ t j, t < 9 → j < 3 → (σ.1 158 0 0 (3 * t + j)).toInt = (smT tr (tA ρ1 n j) t p : Int) - smT tr (tA ρ2 n j) t p) → ∃ σ', fX_compareWithTry_32 N m 0 (nI p) σ = some (sI (sI σ' 62 1 0 0 (-1)) 161 0 0 0 1) ∧ FrT σ0 σ' ∧ (∀ v, v < 2 → PrV v σ') ∧ RdV 0 T TC σ' μ ∧ (∀ v q, v < 2 → P ≤ q → q < 20 → σ'.1 82 v q 0 = -1) ∧ (∀ t j, t < 9 → j < 3 → (σ'.1 158 0 0 (3 * t + j)).toInt = (smT tr (tA ρ1 n j) t P : Int) - smT tr (tA ρ2 n j) t P) := by
  have c := h.rg.cns
  have cd := c.d
  have cP := c.P
  have cT := c.T
  rw [ht] at cd
  have b1 : ∀ p j, p < P → tA ρ1 n j p ≤ 6300000 := fun p j hp => tA_b (n := n) (by omega) (fun i hi => dy_e r1 hp (by omega) i (by omega)) (Nat.le_refl _)
  have b2 : ∀ p j, p < P → tA ρ2 n j p ≤ 6300000 := fun p j hp => tA_b (n := n) (by omega) (fun i hi => dy_e r2 hp (by omega) i (by omega)) (Nat.le_refl _)
  have tx0 : TxX (TCn TC T) (frM μ) (toM μ) T σ0 := h.tx.x.tn (by omega)
  intro e
  induction e with
  | zero =>
    intro p m σ h1 h2 g1 g2 g3 g4 g5 g6 g7
    obtain ⟨m, rfl⟩ : ∃ q, m = q + 1 := ⟨m - 1, by omega⟩
    have : p = P := by omega
    subst this
    refine ⟨σ, ?_, g1, g3, g4, g6, g7⟩
    have e52 : σ.1 52 0 0 0 = nI p := ((g1.eq h.eq).at (g := 208) 0 (by decide)).trans (by rw [cP.1, hP])
    show (if σ.1 52 0 0 0 ≤ nI p then bn1 (fLaw_forget N 1 σ) fun σ1 => nm (sI σ1 161 0 0 0 1) fun (σ2 : St) => some σ2 else _) = _
    unfold fLaw_forget
    rw [e52, if_pos (Int32.le_refl _), nmx, bn1_e, nmx]
  | succ e ih =>
    intro p m σ h1 h2 g1 g2 g3 g4 g5 g6 g7
    obtain ⟨m, rfl⟩ : ∃ q, m = q + 1 := ⟨m - 1, by omega⟩
    have hE := g1.eq h.eq
    have e52 : σ.1 52 0 0 0 = nI P := (hE.at (g := 208) 0 (by decide)).trans (by rw [cP.1, hP])
    have fx : ∀ σ', FrT σ0 σ' → (TxX (TCn TC T) (frM μ) (toM μ) T σ' ∧ TxX (TCn TC (T + 1)) (frM μ) (toM μ) (T + 1) σ') := fun σ' q => ⟨tx0.mv (fun f a b i q1 q2 => q f a b i (by omega) (by omega)), hx1.mv (fun f a b i q1 q2 => q f a b i (by omega) (by omega))⟩
    obtain ⟨σ1, a1, a2, a3, a4, a5⟩ := life_v (N := N) (p := p) (v := 1) (on := t) (n := T + 1) (TC := TC) (by omega) hE h.rg h.ev.e (by omega) (by omega) (by show t ≤ tdN μ; omega) (fun q => absurd q (by decide)) (g2 1 (by decide)) (fx σ g1).2 (by omega) (g3 1 (by decide)) g5
    have f1 : FrT σ0 σ1 := fun f a b i q1 q2 => (a2.1 f a b i (by omega) (by omega)).trans (g1 f a b i q1 q2)
    have o1 : ∀ f b i, ((62 ≤ f ∧ f ≤ 94) ∨ (142 ≤ f ∧ f ≤ 147)) → σ1.1 f 0 b i = σ.1 f 0 b i := fun f b i q => a2.1 _ _ _ _ (by omega) (by omega)
    have P1 : PrV 0 σ1 := (g3 0 (by decide)).mw (fun f b i q => o1 f b i (by omega)) (fun p => a2.1 _ _ _ _ (by omega) (by omega))
    have R1 : RdV 0 T TC σ1 μ := g4.mv (fun f b i q => o1 f b i (by omega)) (fun p _ => a2.1 _ _ _ _ (by omega) (by omega))
    obtain ⟨σ2, c1, c2, c3, c4, c5⟩ := life_v (N := N) (p := p) (v := 0) (on := t) (n := T) (TC := TC) (by omega) (f1.eq h.eq) h.rg h.ev.e (by omega) (by omega) (by show t ≤ tdN μ; omega) (fun _ => ht.symm) ((o1 _ _ _ (by decide)).trans (g2 0 (by decide))) (fx σ1 f1).1 (by omega) P1 R1
    have f2 : FrT σ0 σ2 := fun f a b i q1 q2 => (c2.1 f a b i (by omega) (by omega)).trans (f1 f a b i q1 q2)
    have o2 : ∀ f b i, ((62 ≤ f ∧ f ≤ 94) ∨ (142 ≤ f ∧ f ≤ 147)) → σ2.1 f 1 b i = σ1.1 f 1 b i := fun f b i q => c2.1 _ _ _ _ (by omega) (by omega)
    have P2 : PrV 1 σ2 := a4.mw (fun f b i q => o2 f b i (by omega)) (fun p => c2.1 _ _ _ _ (by omega) (by omega))
    have R2 : RdV 1 (T + 1) TC σ2 μ := a5.mv (fun f b i q => o2 f b i (by omega)) (fun p _ => c2.1 _ _ _ _ (by omega) (by omega))
    have t1 := tot_e a3 s1 r1 (show p < P by omega) (by omega) (by omega)
    have t0 := tot_e c3 s2 r2 (show p < P by omega) (by omega) (by omega)
    rw [← hn] at t1 t0
    obtain ⟨tr1, tr2⟩ := htr p (by omega)
    have cb : ∀ t' j, -300000000 ≤ (smT tr (tA ρ1 n j) t' p : Int) - smT tr (tA ρ2 n j) t' p ∧ (smT tr (tA ρ1 n j) t' p : Int) - smT tr (tA ρ2 n j) t' p ≤ 300000000 := fun t' j => by
      have y1 := smT_b (tr := tr) (A := tA ρ1 n j) (t := t') p (fun q hq => b1 q j (by omega))
      have y2 := smT_b (tr := tr) (A := tA ρ2 n j) (t := t') p (fun q hq => b2 q j (by omega))
      omega
    have l158 : ∀ i, σ2.1 158 0 0 i = σ.1 158 0 0 i := fun i => (c2.1 _ _ _ _ (by omega) (by omega)).trans (a2.1 _ _ _ _ (by omega) (by omega))
    obtain ⟨σ3, d1, d2, d3⟩ := cmp68 (N := N) (p := p) (tr := tr p) (go := fX_compareWithTry_32 N m) (c := fun t' j => (smT tr (tA ρ1 n j) t' p : Int) - smT tr (tA ρ2 n j) t' p) (d1 := fun j => tA ρ1 n j p) (d0 := fun j => tA ρ2 n j p) (σ0 := σ2) (by omega) tr2 (((f2.eq h.eq).at (g := 211) p (by decide)).trans tr1) (fun j hj => ⟨(o2 _ _ _ (by decide)).trans (t1 j hj), b1 p j (by omega)⟩) (fun j hj => ⟨t0 j hj, b2 p j (by omega)⟩) cb 3 0 N σ2 (by omega) (by omega) (fun _ _ _ _ _ => rfl) (fun t' j q1 q2 => by
      rw [l158, g7 t' j q1 q2, if_neg (fun q => absurd q.2 (by omega))]
      exact (Int.add_zero _).symm)
    have f3 : FrT σ0 σ3 := fun f a b i q1 q2 => (d2 f a b i q1).trans (f2 f a b i q1 q2)
    obtain ⟨σ', k1, k2, k3, k4, k5, k6⟩ := ih (p + 1) m σ3 (by omega) (by omega) f3 (fun v hv => by
      rcases (show v = 0 ∨ v = 1 by omega) with rfl | rfl
      · exact (d2 _ _ _ _ (by decide)).trans ((c2.1 _ _ _ _ (by omega) (by omega)).trans ((o1 _ _ _ (by decide)).trans (g2 0 (by decide))))
      · exact (d2 _ _ _ _ (by decide)).trans ((o2 _ _ _ (by decide)).trans ((a2.1 _ _ _ _ (by omega) (by omega)).trans (g2 1 (by decide))))) (fun v hv => by
      rcases (show v = 0 ∨ v = 1 by omega) with rfl | rfl
      · exact c4.mw (fun f b i q => d2 _ _ _ _ (by omega)) (fun p => d2 _ _ _ _ (by decide))
      · exact P2.mw (fun f b i q => d2 _ _ _ _ (by omega)) (fun p => d2 _ _ _ _ (by decide))) (c5.mv (fun f b i q => d2 _ _ _ _ (by omega)) (fun p _ => d2 _ _ _ _ (by decide))) (R2.mv (fun f b i q => d2 _ _ _ _ (by omega)) (fun p _ => d2 _ _ _ _ (by decide))) (fun v q hv q1 q2 => by
      rw [d2 _ _ _ _ (by decide), c2.1 _ _ _ _ (by omega) (by omega), a2.1 _ _ _ _ (by omega) (by omega)]
      exact g6 v q hv q1 q2) (fun t' j q1 q2 => by
      rw [d3 t' j q1 q2]
      have z1 : smT tr (tA ρ1 n j) t' (p + 1) = smT tr (tA ρ1 n j) t' p + (if sel (tr p) t' then tA ρ1 n j p else 0) := rfl
      have z2 : smT tr (tA ρ2 n j) t' (p + 1) = smT tr (tA ρ2 n j) t' p + (if sel (tr p) t' then tA ρ2 n j p else 0) := rfl
      rw [z1, z2]
      by_cases z : sel (tr p) t'
      · rw [if_pos z, if_pos z, if_pos z]
        omega
      · rw [if_neg z, if_neg z, if_neg z]
        omega)
    refine ⟨σ', ?_, k2, k3, k4, k5, k6⟩
    show (if σ.1 52 0 0 0 ≤ nI p then _ else bnd (fView_lifeOf N 1 (nI p) σ) fun r3 σ4 => bnd (fView_lifeOf N 0 (nI p) σ4) fun r5 σ6 => fX_compareWithTry_68 N (fX_compareWithTry_32 N m) N 0 (nI p) r3.1 r3.2 r5.1 r5.2 0 σ6) = _
    rw [e52, if_neg (nI_ge (by omega) (by omega)), a1, bnd_e, c1, bnd_e]
    dsimp only
    exact d1.trans k1
