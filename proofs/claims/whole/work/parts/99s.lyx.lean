/-! a run of the reference: its loops -/
theorem RfA.room {p d nc nb : Nat} {μ : St} {s : Lfe} (h : RfA p d μ s nc nb) : μ.1 286 0 0 0 = nI nc ∧ μ.1 287 0 0 0 = nI nb ∧ nc ≤ 160 ∧ nb ≤ 160 ∧ ∀ b, b < nb → (μ.1 302 0 0 b).toInt ≤ (d : Int) := by
  obtain ⟨c, cm, -, a2, a3, -, -⟩ := h
  exact ⟨a2.nc, a3.nb, a2.bd.2, a3.bd, a3.fr⟩
theorem RfA.oth2 {p q d d' nc nc' nb nb' : Nat} {μ μ' : St} {s t : Lfe} (h : RfA q d μ s nc nb) (hX : PnX p nc nc' nb nb' μ μ') (hpq : q ≠ p) (hq : q < 20) (hp : p < 20) (hd : d ≤ 936) (hA : RfA p d' μ' t nc' nb') (hb : d' ≤ d ∨ nb' = nb) : RfA q d μ' s nc' nb' := by
  obtain ⟨h1, h2, h3, h4, h5⟩ := hA.room
  refine h.oth hX hpq hq hp hd h1 h2 h3 h4 (fun b q1 q2 => ?_)
  rcases hb with hb | hb
  · have := h5 b q2
    omega
  · omega
theorem people_loop {N P n k d nc nb : Nat} {TC : Nat → List Cl} {μ0 : St} {G : Nat → Lfe} {go : Int32 → Int32 → St → Option St} {x1 x2 : Int32} (H : RnH N P n k TC μ0) (hd1 : 312 ≤ d) (hd : d < 936) (hW : ∀ p, p < P → WL (G p)) : ∀ (e j m : Nat) (μ : St), j + e = P → e < m → RnI k μ0 μ → μ.1 269 0 0 0 = nI d → ShM (TCn TC n) (shOf (TCn TC n) (frM μ0) (toM μ0) n d) μ → (∀ p, p < j → RfA p (d + 1) μ (sPass (ENM μ0 TC p n k) d (G p)) nc nb) → (∀ p, j ≤ p → p < P → RfA p d μ (G p) nc nb) →
    ∃ μ', fM_run_122 N go m x1 x2 (nI j) μ = go x1 x2 μ' ∧ RnI k μ0 μ' ∧ μ'.1 269 0 0 0 = nI (d + 1) ∧ (∀ p, p < P → RfA p (d + 1) μ' (sPass (ENM μ0 TC p n k) d (G p)) nc nb) ∧ ∀ f i, f = 277 ∨ f = 307 → μ'.1 f 0 0 i = μ.1 f 0 0 i := by
  have hP := H.pl
  have hN := H.N
  intro e
  induction e with
  | zero =>
    intro j m μ h1 h2 hI hn hS hA hB
    obtain ⟨m, rfl⟩ : ∃ q, m = q + 1 := ⟨m - 1, by omega⟩
    obtain rfl : j = P := by omega
    refine ⟨sI μ 269 0 0 0 (nI (d + 1)), ?_, hI.mv (RnX.s (by decide)) (fun f i q => sI_o (by omega)), sI_s _ _ _ _ _ _, fun p hp => (hA p hp).g (by omega) (fun f i q => sI_o (by omega)) (fun _ _ _ => rfl), fun f i q => sI_o (by omega)⟩
    show (if μ.1 208 0 0 0 ≤ nI j then nm (sI μ 269 0 0 0 (μ.1 269 0 0 0 + 1)) (fun σ1 => go x1 x2 σ1) else _) = _
    rw [show μ.1 208 0 0 0 = nI j from (hI.lo (by decide)).trans H.p, if_pos (Int32.le_refl _), nmx, hn, nI_1]
  | succ e ih =>
    intro j m μ h1 h2 hI hn hS hA hB
    obtain ⟨m, rfl⟩ : ∃ q, m = q + 1 := ⟨m - 1, by omega⟩
    obtain ⟨μ1, i1, i2, i3⟩ := dayOf_M (N := N) (by omega) (hI.cx H (p := j) (by omega) hd1 hd hn hS) (hB j (Nat.le_refl _) (by omega)) (hW j (by omega))
    obtain ⟨μ', j1, j2, j3, j4, j5⟩ := ih (j + 1) m μ1 (by omega) (by omega) (hI.pn i2) ((i2.o _ _ _ _ (by decide)).trans hn) (hS.mv2 (fun f i q1 q2 => i2.o f 0 0 i (by omega))) (fun p hp => by
      by_cases z : p = j
      · rw [z]
        exact i3
      · exact (hA p (by omega)).oth2 i2 z (by omega) (by omega) (by omega) i3 (Or.inr rfl)) (fun p hp1 hp2 => (hB p (by omega) hp2).oth2 i2 (by omega) (by omega) (by omega) (by omega) i3 (Or.inr rfl))
    refine ⟨μ', ?_, j2, j3, j4, fun f i q => (j5 f i q).trans (i2.o f 0 0 i (by omega))⟩
    show (if μ.1 208 0 0 0 ≤ nI j then _ else bn1 (fM_dayOf N (nI j) μ) fun σ2 => fM_run_122 N go m x1 x2 (nI j + 1) σ2) = _
    rw [show μ.1 208 0 0 0 = nI P from (hI.lo (by decide)).trans H.p, if_neg (nI_ge (by omega) (by omega)), i1, bn1_e, nI_1, j1]
theorem sMeet_01 (E : Env) (d : Nat) (e : Ev) (s : Lfe) : (sMeet E d e s).1 = 0 ∨ (sMeet E d e s).1 = 1 := by
  unfold sMeet
  (repeat' split) <;> simp
theorem done8 {N e p : Nat} {μ : St} (he : e < 160) (hp : μ.1 230 0 0 e = nI p) (hk : μ.1 229 0 0 e = 8) : fM_done0 N (nI e) μ = some (1, sI (sI (sI (sI μ 268 0 0 0 (nI p)) 270 0 0 0 0) 271 0 0 0 0) 272 0 0 0 0) := by
  obtain ⟨ν, hν⟩ : ∃ ν, ν = sI (sI (sI (sI μ 268 0 0 0 (nI p)) 270 0 0 0 0) 271 0 0 0 0) 272 0 0 0 0 := ⟨_, rfl⟩
  have e0 : ν.1 229 0 0 e = 8 := by rw [hν, sI_o (by decide), sI_o (by decide), sI_o (by decide), sI_o (by decide)]; exact hk
  unfold fM_done0 fM_noOffer
  rw [chk_t (inb_n he (by decide)), nI_clamp (by omega), show μ.1 230 0 0 e = nI p from hp, nmx, nmx, nmx, nmx, nmx, nmx, bn1_e, ← hν, e0, if_neg (by decide), if_neg (by decide), if_neg (by decide), if_neg (by decide), if_neg (by decide), if_neg (by decide), if_neg (by decide), if_neg (by decide)]
/-- an event that comes, in the reference: what it does to all -/
theorem ev_step {N P n k d nc nb i : Nat} {TC : Nat → List Cl} {μ0 μ : St} {G : Nat → Lfe} (H : RnH N P n k TC μ0) (hd1 : 312 ≤ d) (hd : d < 936) (hI : RnI k μ0 μ) (hn : μ.1 269 0 0 0 = nI d) (hS : ShM (TCn TC n) (shOf (TCn TC n) (frM μ0) (toM μ0) n d) μ) (hi : i < cnM μ0) (hk : kwM μ0 k i = true) (hG : ∀ p, p < P → RfA p d μ (G p) nc nb) (hnc : nc < 160) (hnb : nb < 160) :
    ∃ r μ' nc' nb', fM_done0 N (nI i) μ = some (r, μ') ∧ RnI k μ0 μ' ∧ μ'.1 269 0 0 0 = nI d ∧ ShM (TCn TC n) (shOf (TCn TC n) (frM μ0) (toM μ0) n d) μ' ∧ nc' ≤ nc + 1 ∧ nb' ≤ nb + 1 ∧ (∀ f j, f = 277 ∨ f = 307 → μ'.1 f 0 0 j = μ.1 f 0 0 j) ∧ r &&& 1 = (if kdM μ0 i = 8 then 1 else (sMeet (ENM μ0 TC (peM μ0 i) n k) d (EVM μ0 (peM μ0 i) k i) (G (peM μ0 i))).1) ∧ ∀ p, p < P → RfA p d μ' (if slM μ0 p k i = true then (sMeet (ENM μ0 TC p n k) d (EVM μ0 p k i) (G p)).2 else G p) nc' nb' := by
  have hP := H.pl
  have hN := H.N
  have hpe := H.ep i hi
  have hR := H.r
  obtain ⟨ncn, c1, c2, c3, c4, c5⟩ := hR.n (g := 218) (lo := 0) (hi := 160) 0 (by decide) (by decide)
  have hcn : cnM μ0 = ncn := by unfold cnM; rw [c1, c3]
  obtain ⟨np, p1, p2, p3, p4, p5⟩ := hR.n (g := 230) (lo := 0) (hi := 19) i (by decide) (by decide)
  obtain ⟨nk, k1, k2, k3, k4, k5⟩ := hR.n (g := 229) (lo := 0) (hi := 8) i (by decide) (by decide)
  have ep : peM μ0 i = np := by unfold peM; rw [p1, p3]
  have hper : μ.1 230 0 0 i = nI (peM μ0 i) := (hI.lo (by decide)).trans (p1.trans (by rw [ep]))
  have hkd : μ.1 229 0 0 i = kdM μ0 i := hI.lo (by decide)
  by_cases c8 : kdM μ0 i = 8
  · refine ⟨1, _, nc, nb, done8 (by omega) hper (hkd.trans c8), hI.mv ((((RnX.s (by decide)).tr (RnX.s (by decide))).tr (RnX.s (by decide))).tr (RnX.s (by decide))) (fun f j q => ?_), ?_, hS.mv2 (fun f j q1 q2 => ?_), by omega, by omega, fun f j q => ?_, by rw [if_pos c8]; rfl, fun p hp => ?_⟩
    · rw [sI_o (by omega), sI_o (by omega), sI_o (by omega), sI_o (by omega)]
    · rw [sI_o (by decide), sI_o (by decide), sI_o (by decide), sI_o (by decide)]
      exact hn
    · rw [sI_o (by omega), sI_o (by omega), sI_o (by omega), sI_o (by omega)]
    · rw [sI_o (by omega), sI_o (by omega), sI_o (by omega), sI_o (by omega)]
    · rw [if_neg (by unfold slM; rw [c8]; simp)]
      refine (hG p hp).g (by omega) (fun f j q => ?_) (fun _ _ _ => rfl)
      rw [sI_o (by omega), sI_o (by omega), sI_o (by omega), sI_o (by omega)]
  · have hsl : slM μ0 (peM μ0 i) k i = true := by
      unfold slM
      rw [hk]
      simp [c8]
    obtain ⟨μ', nc', nb', i1, i2, i3, i4, i5⟩ := done_e (N := N) (e := i) (ev := EVM μ0 (peM μ0 i) k i) (by omega) (hI.cx H (p := peM μ0 i) (by omega) hd1 hd hn hS) (hG _ hpe) (by omega) hper hkd (hI.lo (by decide)) (hI.c i hi) ⟨nk, by
      have : nk ≠ 8 := fun z => c8 (by unfold kdM; rw [k1, z]; rfl)
      omega, k1⟩ (fun h7 => (H.of hi h7).mv (fun f j q => hI.lo (by omega))) hnc hnb
    refine ⟨_, μ', nc', nb', i1, hI.pn i2, (i2.o _ _ _ _ (by decide)).trans hn, hS.mv2 (fun f j q1 q2 => i2.o f 0 0 j (by omega)), i3, i4, fun f j q => i2.o f 0 0 j (by omega), ?_, fun p hp => ?_⟩
    · rw [if_neg c8]
      rcases sMeet_01 (ENM μ0 TC (peM μ0 i) n k) d (EVM μ0 (peM μ0 i) k i) (G (peM μ0 i)) with z | z <;> rw [z] <;> rfl
    · by_cases z : p = peM μ0 i
      · rw [z, if_pos hsl]
        exact i5
      · rw [if_neg (by unfold slM; rw [decide_eq_false (fun q : peM μ0 i = p => z q.symm)]; simp)]
        exact (hG p hp).oth2 i2 z (by omega) (by omega) (by omega) i5 (Or.inl (Nat.le_refl _))
