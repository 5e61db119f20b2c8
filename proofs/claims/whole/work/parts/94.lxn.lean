/-! a life asked of a view -/
theorem tod_e {μ : St} (hR : Rng μ) : ∃ t : Nat, (μ.1 205 0 0 0).toNatClampNeg = t ∧ μ.1 205 0 0 0 = nI t ∧ 312 ≤ t ∧ t ≤ 935 := by
  obtain ⟨t, t1, t2, t3, t4, t5⟩ := hR.n (g := 205) (lo := 312) (hi := 935) 0 (by decide) (by decide)
  exact ⟨t, by rw [t1, t3], t1, by omega, by omega⟩
theorem life_v {N v p n on : Nat} {TC : Nat → List Cl} {σ μ : St} (hN : 2000 ≤ N) (hE : Eq1 σ μ) (hR : Rng μ) (hI : EvI μ) (hp : p < 20) (ho1 : 312 ≤ on) (ho2 : on ≤ (μ.1 205 0 0 0).toNatClampNeg) (ho3 : v = 0 → on = (μ.1 205 0 0 0).toNatClampNeg) (ho : σ.1 147 v 0 0 = nI on) (hT : TxX (TCn TC n) (frM μ) (toM μ) n σ) (hn : n ≤ 17) (hP : PrV v σ) (hV : RdV v n TC σ μ) :
    ∃ σ', fView_lifeOf N v (nI p) σ = some ((v, p), σ') ∧ WfX v p σ σ' ∧ LfOK v p on (ENM μ TC p n on) μ (evM μ p on) σ' ∧ PrV v σ' ∧ RdV v n TC σ' μ := by
  obtain ⟨t, t1, t2, t3, t4⟩ := tod_e hR
  obtain ⟨p1, p2, p3⟩ := hP
  obtain ⟨r1, r2, r3⟩ := hV
  have kv : ∀ u, v = 0 ∨ u = on → kOf v μ u = on := fun u q => by
    unfold kOf
    by_cases c : v = 0
    · rw [if_pos c, ho3 c]
    · rw [if_neg c]
      rcases q with q | q
      · exact absurd q c
      · exact q
  obtain ⟨σ', a1, a2, a3, a4, a5, a6⟩ := lifeOf_e (N := N) (v := v) (p := p) (n := n) (on := on) (TC := TC) (by omega) hE hR hI hp (by omega) (by omega) ho r2 hT hn (p1 p hp) (fun hs => by
    obtain ⟨u, u1, u2, u3, u4, u5⟩ := r3 p hp hs
    refine ⟨u, u1, by omega, u3, fun _ q => ?_, fun q => ?_⟩
    · rw [kv u (Or.inr q), q] at u4
      exact u4
    · have v0 : v = 0 := by
        by_cases c : v = 0
        · exact c
        · rw [p2, if_neg c] at q
          exact absurd rfl q
      rw [kv u (Or.inl v0)] at u4
      exact ⟨by rw [ho3 v0]; exact u2, u4, u5 v0⟩)
  have o : ∀ f a b i, f < 78 → σ'.1 f a b i = σ.1 f a b i := fun f a b i q => a2.1 f a b i (fun z => by omega) (fun z => by omega)
  refine ⟨σ', a1, a2, a3, ⟨fun p' hp' => (o _ _ _ _ (by decide)).trans (p1 p' hp'), (a2.1 _ _ _ _ (fun z => absurd z.2.1 (by decide)) (fun z => absurd z.1 (by decide))).trans p2, fun p' hp' => ?_⟩, (o _ _ _ _ (by decide)).trans r1, a2.law r2, fun p' hp' hs => ?_⟩
  · obtain ⟨c, c1, c2, c3⟩ := p3 p' hp'
    refine ⟨c, (o _ _ _ _ (by decide)).trans c1, c2, ?_⟩
    by_cases z : p' = p
    · exact Or.inr ⟨c, Nat.le_refl _, by rw [z, a4, ← z, c1]⟩
    · rw [a2.1 _ _ _ _ (fun y => z y.2.2.2) (fun y => absurd y.1 (by decide))]
      exact c3
  · by_cases z : p' = p
    · subst z
      refine ⟨on, by omega, ho2, a5, ?_, fun _ e he _ => ?_⟩
      · rw [kv on (Or.inr rfl)]
        exact a3
      · obtain ⟨-, ⟨x, -, x2, x3⟩, -⟩ := hI e he
        rename_i v0 _
        rw [ho3 v0]
        omega
    · refine (r3 p' hp' ?_).mv (fun f i q => a2.1 _ _ _ _ (fun y => z y.2.2.2) (fun y => by have := q.2; omega)) (fun e he hpe => a6 e (Or.inr (by rw [hpe]; exact z)))
      rw [← a2.1 _ _ _ _ (fun y => z y.2.2.2) (fun y => absurd y.1 (by decide)), hs]
      exact o _ _ _ _ (by decide)
/-- what the other view keeps -/
theorem RdV.mv {v n : Nat} {TC : Nat → List Cl} {σ σ' μ : St} (h : RdV v n TC σ μ) (h1 : ∀ f b i, (62 ≤ f ∧ f ≤ 94) ∨ f = 144 → σ'.1 f v b i = σ.1 f v b i) (h2 : ∀ p, p < 20 → σ'.1 53 0 0 p = σ.1 53 0 0 p) : RdV v n TC σ' μ := by
  obtain ⟨r1, r2, r3⟩ := h
  refine ⟨(h1 _ _ _ (by decide)).trans r1, fun d hd => ?_, fun p hp hs => (r3 p hp ?_).mv (fun f i q => h1 f p i (by have := q.1; have := q.2; omega)) (fun e _ _ => h1 _ _ _ (by decide))⟩
  · obtain ⟨s, s1, s2, s3⟩ := r2 d hd
    exact ⟨s, s1, (h1 _ _ _ (by decide)).trans s2, s3.mv (fun f b i q1 q2 => h1 f b i (by omega))⟩
  · rw [← h1 82 p 0 (by decide), hs, h2 p hp]
theorem PrV.mv {v : Nat} {σ σ' : St} (h : PrV v σ) (h1 : ∀ f b i, f = 74 ∨ f = 82 ∨ f = 142 → σ'.1 f v b i = σ.1 f v b i) (h2 : ∀ p, p < 20 → σ'.1 53 0 0 p = σ.1 53 0 0 p) : PrV v σ' := by
  obtain ⟨p1, p2, p3⟩ := h
  refine ⟨fun p hp => (h1 _ _ _ (Or.inl rfl)).trans (p1 p hp), (h1 _ _ _ (Or.inr (Or.inr rfl))).trans p2, fun p hp => ?_⟩
  rw [h2 p hp, h1 _ _ _ (Or.inr (Or.inl rfl))]
  exact p3 p hp
theorem VwI.mv {v : Nat} {TC : Nat → List Cl} {σ σ' μ : St} (h : VwI v TC σ μ) (h1 : ∀ f b i, (62 ≤ f ∧ f ≤ 94) ∨ f = 144 ∨ f = 142 → σ'.1 f v b i = σ.1 f v b i) (h2 : ∀ p, p < 20 → σ'.1 53 0 0 p = σ.1 53 0 0 p) : VwI v TC σ' μ := by
  obtain ⟨hp, h⟩ := h
  refine ⟨hp.mv (fun f b i q => h1 f b i (by rcases q with q | q | q; exact Or.inl (by rw [q]; decide); exact Or.inl (by rw [q]; decide); exact Or.inr (Or.inr q))) h2, ?_⟩
  rcases h with q | ⟨n, n1, n2⟩
  · exact Or.inl ((h1 _ _ _ (Or.inl (by decide))).trans q)
  · exact Or.inr ⟨n, n1, n2.mv (fun f b i q => h1 f b i (by rcases q with q | q; exact Or.inl q; exact Or.inr (Or.inl q))) h2⟩
theorem WfX.oth {v v' p : Nat} {TC : Nat → List Cl} {σ σ' μ : St} (h : WfX v p σ σ') (hv : v' ≠ v) (hV : VwI v' TC σ μ) : VwI v' TC σ' μ :=
  hV.mv (fun f b i _ => h.1 f v' b i (fun z => hv z.2.2.1) (fun z => hv z.2.2.1)) (fun p' _ => h.1 _ _ _ _ (fun z => absurd z.1 (by decide)) (fun z => absurd z.1 (by decide)))
theorem SvX.oth {v v' : Nat} {TC : Nat → List Cl} {σ σ' μ : St} (h : SvX v σ σ') (hv : v' ≠ v) (hV : VwI v' TC σ μ) : VwI v' TC σ' μ :=
  hV.mv (fun f b i _ => h.1 f v' b i (fun z => hv z.2)) (fun p' _ => h.1 _ _ _ _ (fun z => absurd z.1 (by decide)))
/-- how many texts were told by a day -/
theorem told_loop {N k T n : Nat} {σ : St} (hT : σ.1 159 0 0 0 = nI T) (hT2 : T ≤ 16) (hk : k < 2 ^ 30) (h1 : ∀ t, t < n → σ.1 15 t 0 0 ≤ nI k) (h2 : ∀ t, n ≤ t → t < T → nI k < σ.1 15 t 0 0) (hn : n ≤ T) : ∀ (e i m : Nat), i + e = T → e < m → fX_textsToldBy_4 N m (nI k) (nI (min i n)) (nI i) σ = some (nI n) := by
  intro e
  induction e with
  | zero =>
    intro i m a b
    obtain ⟨m, rfl⟩ : ∃ q, m = q + 1 := ⟨m - 1, by omega⟩
    show (if σ.1 159 0 0 0 ≤ nI i then some (nI (min i n)) else _) = _
    rw [hT, if_pos (nI_le (by omega) (by omega)), show min i n = n by omega]
  | succ e ih =>
    intro i m a b
    obtain ⟨m, rfl⟩ : ∃ q, m = q + 1 := ⟨m - 1, by omega⟩
    show (if σ.1 159 0 0 0 ≤ nI i then _ else chk (inb (nI i) 17) (if nI k < σ.1 15 (nI i).toNatClampNeg 0 0 then fX_textsToldBy_4 N m (nI k) (nI (min i n)) (nI i + 1) σ else fX_textsToldBy_4 N m (nI k) (nI (min i n) + 1) (nI i + 1) σ)) = _
    rw [hT, if_neg (nI_ge (by omega) (by omega)), chk_t (inb_n (by omega) (by decide)), nI_clamp (by omega), nI_1, nI_1]
    by_cases c : i < n
    · rw [if_neg (Int32.not_lt.mpr (h1 i c)), show min i n + 1 = min (i + 1) n by omega]
      exact ih (i + 1) m (by omega) (by omega)
    · rw [if_pos (h2 i (by omega) (by omega)), show min i n = min (i + 1) n by omega]
      exact ih (i + 1) m (by omega) (by omega)
