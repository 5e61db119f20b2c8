/-! what a run says, and when it needs no second one -/
def dt (μ : St) : St := (fun f a b i => if f < 260 ∨ 308 < f then μ.1 f a b i else 0, fun _ _ _ _ => 0)
theorem dt_eq {μ μ' : St} (h : ∀ f a b i, f < 260 ∨ 308 < f → μ'.1 f a b i = μ.1 f a b i) : dt μ' = dt μ := by
  unfold dt
  refine Prod.ext (funext fun f => funext fun a => funext fun b => funext fun i => ?_) rfl
  dsimp only
  by_cases c : f < 260 ∨ 308 < f
  · rw [if_pos c, if_pos c, h f a b i c]
  · rw [if_neg c, if_neg c]
theorem dt_cn (μ : St) : cnM (dt μ) = cnM μ := rfl
theorem dt_ENM (μ : St) (TC : Nat → List Cl) (p n k : Nat) : ENM (dt μ) TC p n k = ENM μ TC p n k := rfl
theorem dt_evM (μ : St) (p k : Nat) : evM (dt μ) p k = evM μ p k := rfl
theorem dt_gS (μ : St) (TC : Nat → List Cl) (n k : Nat) (S0 : Nat → Lfe) (t i p : Nat) : gS (dt μ) TC n k S0 t i p = gS μ TC n k S0 t i p := rfl
theorem dt_gD (μ : St) (TC : Nat → List Cl) (n k : Nat) (S0 : Nat → Lfe) (t i e : Nat) : gD (dt μ) TC n k S0 t i e = gD μ TC n k S0 t i e := rfl
theorem dt_inD (μ : St) (TC : Nat → List Cl) (n d : Nat) : inD (dt μ) TC n d = inD μ TC n d := rfl
theorem dt_row (μ : St) (p y k : Nat) : rowL (dt μ) p y k = rowL μ p y k := rfl
theorem dt_rtn (μ : St) (p k w : Nat) : rtn (dt μ) p k w = rtn μ p k w := rfl
/-- the reference's run is that of a day -/
abbrev RunOK (P n k : Nat) (TC : Nat → List Cl) (μ : St) : Prop := (BkM k μ μ) ∧ (∀ S0 : Nat → Lfe, ∃ nc nb, ∀ p, p < P → RfA p (k + 1) μ (gS μ TC n k S0 (k + 1 - 312) 0 p) nc nb) ∧ (∀ S0 : Nat → Lfe, ∀ e, e < cnM μ → μ.1 277 0 0 e = gD μ TC n k S0 (k + 1 - 312) 0 e) ∧ (∀ j, 312 + j ≤ k → μ.1 307 0 0 j = inD μ TC n (312 + j))
theorem RunOK.b {P n k : Nat} {TC : Nat → List Cl} {μ : St} (h : RunOK P n k TC μ) : BkM k μ μ := h.1
theorem RunOK.a {P n k : Nat} {TC : Nat → List Cl} {μ : St} (h : RunOK P n k TC μ) : ∀ S0 : Nat → Lfe, ∃ nc nb, ∀ p, p < P → RfA p (k + 1) μ (gS μ TC n k S0 (k + 1 - 312) 0 p) nc nb := h.2.1
theorem RunOK.d {P n k : Nat} {TC : Nat → List Cl} {μ : St} (h : RunOK P n k TC μ) : ∀ S0 : Nat → Lfe, ∀ e, e < cnM μ → μ.1 277 0 0 e = gD μ TC n k S0 (k + 1 - 312) 0 e := h.2.2.1
theorem RunOK.i {P n k : Nat} {TC : Nat → List Cl} {μ : St} (h : RunOK P n k TC μ) : ∀ j, 312 + j ≤ k → μ.1 307 0 0 j = inD μ TC n (312 + j) := h.2.2.2
theorem RnX.dt {μ μ' : St} (h : RnX μ μ') : dt μ' = dt μ := dt_eq (fun f a b i q => h.1 f a b i (by omega))
/-- the run stays if its own places do and what it rests on -/
theorem RunOK.mv {P n k : Nat} {TC : Nat → List Cl} {μ μ' : St} (h : RunOK P n k TC μ) (hk : k < 936) (hd : dt μ' = dt μ) (h1 : ∀ f i, (260 ≤ f ∧ f ≤ 261) ∨ (275 ≤ f ∧ f ≤ 307 ∧ f ≠ 278) → μ'.1 f 0 0 i = μ.1 f 0 0 i) (hj : ∀ f i, f = 300 ∨ f = 308 → μ'.2 f 0 0 i = μ.2 f 0 0 i) : RunOK P n k TC μ' := by
  refine ⟨⟨fun p y hp hy => ?_, fun p w hp hw => ?_⟩, fun S0 => ?_, fun S0 e he => ?_, fun j hk' => ?_⟩
  · rw [h1 _ _ (by decide), ← dt_row μ', hd, dt_row]
    exact h.b.1 p y hp hy
  · rw [h1 _ _ (by decide), ← dt_rtn μ', hd, dt_rtn]
    exact h.b.2 p w hp hw
  · obtain ⟨nc, nb, h2⟩ := h.a S0
    refine ⟨nc, nb, fun p hp => ?_⟩
    rw [← dt_gS μ', hd, dt_gS]
    exact (h2 p hp).g2 (by omega) (fun f i q => h1 f i (by omega)) hj
  · rw [h1 _ _ (by decide), ← dt_gD μ', hd, dt_gD]
    exact h.d S0 e (by rw [← dt_cn μ, ← hd, dt_cn]; exact he)
  · rw [h1 _ _ (by decide), ← dt_inD μ', hd, dt_inD]
    exact h.i j hk'
theorem takes.un {μ : St} {k : Int32} {n m : Nat} (h : takes μ k n) (h2 : takes μ k m) : n = m := by
  obtain ⟨a, a1, a2⟩ := h
  obtain ⟨b, b1, b2⟩ := h2
  rcases a2 with ⟨x1, x2, x3, x4, x5⟩ | ⟨x1, x2, x3, x4⟩ <;> rcases b2 with ⟨y1, y2, y3, y4, y5⟩ | ⟨y1, y2, y3, y4⟩
  · have ab : a = b := (nI_eq (by omega) (by omega)).mp (a1.symm.trans b1)
    rcases Nat.lt_trichotomy n m with q | q | q
    · exact absurd (y4 n q) (Int32.not_le.mpr (x5 n (Nat.le_refl _) (by omega)))
    · exact q
    · exact absurd (x4 m q) (Int32.not_le.mpr (y5 m (Nat.le_refl _) (by omega)))
  · exact absurd x1 y1
  · exact absurd y1 x1
  · have ab : a = b := (nI_eq (by omega) (by omega)).mp (a1.symm.trans b1)
    omega
theorem EvI.dtm {μ μ' : St} (h : EvI μ) (hd : dt μ' = dt μ) : EvI μ' := by
  have e1 : EvI (dt μ') = EvI μ' := rfl
  have e2 : EvI (dt μ) = EvI μ := rfl
  rw [← e1, hd, e2]
  exact h
theorem dt_at {μ μ' : St} (hd : dt μ' = dt μ) {f i : Nat} (hf : f < 260 ∨ 308 < f) : μ'.1 f 0 0 i = μ.1 f 0 0 i := by
  have := congrFun (congrFun (congrFun (congrFun (congrArg Prod.fst hd) f) 0) 0) i
  unfold dt at this
  dsimp only at this
  rw [if_pos hf, if_pos hf] at this
  exact this
theorem RnH.mv {N P n k : Nat} {TC : Nat → List Cl} {μ μ' : St} (h : RnH N P n k TC μ) (hx : RnX μ μ') : RnH N P n k TC μ' := by
  have hd := hx.dt
  refine ⟨h.r.mv (fun f i q => dt_at hd q), h.e.dtm hd, h.t.mv (fun f i q1 q2 => dt_at hd (by omega)), fun j hj => (dt_at hd (by decide)).trans (h.d j hj), h.tk.mv (fun f i q => hx.at (by omega)), h.n, (dt_at hd (by decide)).trans h.p, h.pl, fun e he => ?_, fun o ho => ?_, h.N, h.k1, h.k2⟩
  · have e1 : peM μ' e = peM μ e := by unfold peM; rw [dt_at hd (by decide)]
    rw [e1]
    exact h.ep e (by rw [← dt_cn μ, ← hd, dt_cn]; exact he)
  · rw [dt_at hd (by decide), dt_at hd (by decide)]
    exact h.su o ho
/-- what the reference knows of its run -/
def RunI (P : Nat) (TC : Nat → List Cl) (μ : St) : Prop := μ.1 273 0 0 0 ≠ 0 → ∃ k n, μ.1 274 0 0 0 = nI k ∧ 312 ≤ k ∧ k < 936 ∧ takes μ (nI k) n ∧ RunOK P n k TC μ
theorem know_M {N P n k : Nat} {TC : Nat → List Cl} {μ : St} (H : RnH N P n k TC μ) (hr : RunI P TC μ) : ∃ μ', fM_know N (nI k) μ = some μ' ∧ RnX μ μ' ∧ RunOK P n k TC μ' ∧ μ'.1 273 0 0 0 ≠ 0 ∧ μ'.1 274 0 0 0 = nI k ∧ RunI P TC μ' := by
  have hk2 := H.k2
  have fin : ∀ μ', RnX μ μ' → RunOK P n k TC μ' → μ'.1 273 0 0 0 ≠ 0 → μ'.1 274 0 0 0 = nI k → RunI P TC μ' := fun μ' q1 q2 q3 q4 _ => ⟨k, n, q4, H.k1, H.k2, H.tk.mv (fun f i q => q1.at (by omega)), q2⟩
  have new : ∃ μ', fM_know_16 N (nI k) μ = some μ' ∧ RnX μ μ' ∧ RunOK P n k TC μ' ∧ μ'.1 273 0 0 0 ≠ 0 ∧ μ'.1 274 0 0 0 = nI k ∧ RunI P TC μ' := by
    obtain ⟨μ1, nc, nb, a1, a2, a3, a4, a5, a6⟩ := run_M (u := k) (fun _ _ _ => 0) H (by have := H.k1; omega) H.k2
    have hd1 := a2.x.dt
    have ok : RunOK P n k TC μ1 := by
      refine ⟨⟨fun p y hp hy => ?_, fun p w hp hw => ?_⟩, fun S0 => ?_, fun S0 e he => ?_, fun j hj => ?_⟩
      · rw [← dt_row μ1, hd1, dt_row]
        exact a2.b.1 p y hp hy
      · rw [← dt_rtn μ1, hd1, dt_rtn]
        exact a2.b.2 p w hp hw
      · obtain ⟨μ2, nc2, nb2, b1, b2, b3, b4, b5, b6⟩ := run_M (u := k) S0 H (by have := H.k1; omega) H.k2
        rw [a1] at b1
        cases b1
        refine ⟨nc2, nb2, fun p hp => ?_⟩
        rw [← dt_gS μ1, hd1, dt_gS]
        exact b4 p hp
      · obtain ⟨μ2, nc2, nb2, b1, b2, b3, b4, b5, b6⟩ := run_M (u := k) S0 H (by have := H.k1; omega) H.k2
        rw [a1] at b1
        cases b1
        rw [← dt_gD μ1, hd1, dt_gD]
        exact b5 e (by rw [← dt_cn μ, ← hd1, dt_cn]; exact he)
      · rw [← dt_inD μ1, hd1, dt_inD]
        exact a6 j hj
    obtain ⟨μ2, hμ2⟩ : ∃ μ2, μ2 = sI (sI μ1 273 0 0 0 1) 274 0 0 0 (nI k) := ⟨_, rfl⟩
    have x2 : RnX μ1 μ2 := by
      rw [hμ2]
      exact (RnX.s (by decide)).tr (RnX.s (by decide))
    have r2 : RunOK P n k TC μ2 := ok.mv hk2 x2.dt (fun f i q => by rw [hμ2, sI_o (by omega), sI_o (by omega)]) (fun f i _ => by rw [hμ2]; rfl)
    have i2 : μ2.1 273 0 0 0 ≠ 0 := by
      rw [hμ2, sI_o (by decide), sI_s]
      decide
    have k2 : μ2.1 274 0 0 0 = nI k := by rw [hμ2, sI_s]
    refine ⟨μ2, ?_, a2.x.tr x2, r2, i2, k2, fin μ2 (a2.x.tr x2) r2 i2 k2⟩
    unfold fM_know_16
    rw [a1, bn1_e, nmx, nmx, hμ2]
  unfold fM_know
  by_cases c : μ.1 273 0 0 0 = 0
  · rw [if_pos c]
    exact new
  · rw [if_neg c]
    by_cases c2 : μ.1 274 0 0 0 = nI k
    · rw [if_pos c2]
      obtain ⟨k', n', b1, b2, b3, b4, b5⟩ := hr c
      have ek : k' = k := (nI_eq (by omega) (by omega)).mp (b1.symm.trans c2)
      rw [ek] at b4 b5
      have en : n' = n := b4.un H.tk
      rw [en] at b5
      exact ⟨μ, rfl, RnX.rf, b5, c, c2, fin μ RnX.rf b5 c c2⟩
    · rw [if_neg c2]
      exact new
