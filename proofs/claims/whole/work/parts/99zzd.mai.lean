/-! an act is tried: a run, totals, a text read by both -/
theorem run_ok {N P n k : Nat} {TC : Nat → List Cl} {μ : St} (H : RnH N P n k TC μ) : ∃ μ1, fM_run N (nI k) (nI k) μ = some μ1 ∧ RnX μ μ1 ∧ RunOK P n k TC μ1 := by
  have hk2 := H.k2
  obtain ⟨μ1, nc, nb, a1, a2, a3, a4, a5, a6⟩ := run_M (u := k) (fun _ _ _ => 0) H (by have := H.k1; omega) H.k2
  have hd1 : SmR P k μ μ1 := a2.x.sm
  refine ⟨μ1, a1, a2.x, ⟨⟨fun p y hp hy => ?_, fun p w hp hw => ?_⟩, fun S0 => ?_, fun S0 e he hP => ?_, fun j hj => ?_⟩⟩
  · rw [← cB_row μ1, cut_eq hd1.b, cB_row]
    exact a2.b.1 p y hp hy
  · rw [← cB_rtn μ1, cut_eq hd1.b, cB_rtn]
    exact a2.b.2 p w hp hw
  · obtain ⟨μ2, nc2, nb2, b1, b2, b3, b4, b5, b6⟩ := run_M (u := k) S0 H (by have := H.k1; omega) H.k2
    rw [a1] at b1
    cases b1
    refine ⟨nc2, nb2, fun p hp => ?_⟩
    rw [hd1.gS hp]
    exact b4 p hp
  · obtain ⟨μ2, nc2, nb2, b1, b2, b3, b4, b5, b6⟩ := run_M (u := k) S0 H (by have := H.k1; omega) H.k2
    rw [a1] at b1
    cases b1
    rw [hd1.gD (by rw [← hd1.e.pe]; exact hP)]
    exact b5 e (by rw [← hd1.e.cn]; exact he)
  · rw [← cT_in μ1, cut_eq hd1.t, cT_in]
    exact a6 j hj
/-- what was paid up to a day, as a number -/
def tY (ρ : St) (p : Nat) : Nat → Nat
  | 0 => 0
  | n + 1 => tY ρ p n + (ρ.2 308 0 0 (624 * p + n)).toInt.toNat
theorem tY_e {ρ : St} {p : Nat} : ∀ n, n ≤ 624 → (∀ i, i < n → ∃ y : Nat, y ≤ 9999 ∧ ρ.2 308 0 0 (624 * p + i) = jN y) → pyS ρ p n = jN (tY ρ p n) ∧ tY ρ p n ≤ 9999 * n
  | 0, _, _ => ⟨rfl, Nat.le_refl _⟩
  | n + 1, hn, h => by
    obtain ⟨i1, i2⟩ := tY_e n (by omega) (fun i hi => h i (by omega))
    obtain ⟨y, y1, y2⟩ := h n (by omega)
    have e : (ρ.2 308 0 0 (624 * p + n)).toInt.toNat = y := by
      rw [y2, jN_t (by omega)]
      exact Int.toNat_natCast y
    refine ⟨?_, ?_⟩
    · show pyS ρ p n + ρ.2 308 0 0 (624 * p + n) = jN (tY ρ p n + (ρ.2 308 0 0 (624 * p + n)).toInt.toNat)
      rw [e, i1, y2]
      exact jN_add (by omega)
    · show tY ρ p n + (ρ.2 308 0 0 (624 * p + n)).toInt.toNat ≤ 9999 * (n + 1)
      rw [e]
      omega
def tA (ρ : St) (n : Nat) (j p : Nat) : Nat := if j = 0 then tY ρ p n else if j = 1 then ctS ρ p isPd n else ctS ρ p (fun k => decide (k = 0)) n
theorem tA0 (ρ : St) (n p : Nat) : tA ρ n 0 p = tY ρ p n := if_pos rfl
theorem tA1 (ρ : St) (n p : Nat) : tA ρ n 1 p = ctS ρ p isPd n := (if_neg (by decide)).trans (if_pos rfl)
theorem tA2 (ρ : St) (n p : Nat) : tA ρ n 2 p = ctS ρ p (fun k => decide (k = 0)) n := (if_neg (by decide)).trans (if_neg (by decide))
theorem ctS_le {ρ : St} {p : Nat} {g : Int32 → Bool} : ∀ n, ctS ρ p g n ≤ n
  | 0 => Nat.le_refl _
  | n + 1 => by
    have := ctS_le (ρ := ρ) (p := p) (g := g) n
    show ctS ρ p g n + _ ≤ n + 1
    split <;> omega
/-- a run's days and totals, and a life's totals -/
theorem tot_e {v p k n P : Nat} {TC : Nat → List Cl} {σ μ ρ : St} (hL : LfOK v p k (ENM μ TC p n k) μ (evM μ p k) σ) (sm : SmR P k μ ρ) (hr : RunOK P n k TC ρ) (hp : p < P) (hk : 312 ≤ k) (hk2 : k < 936) : (∀ j, j < 3 → σ.1 81 v p j = nI (tA ρ (k + 1 - 312) j p)) := by
  obtain ⟨s0, l1, l2, l3⟩ := hL
  obtain ⟨nc, nb, r1⟩ := hr.a (fun _ => s0)
  have r2 := r1 p hp
  have e1 : k + 1 - 312 = k - 311 := by omega
  rw [sm.gS hp, e1, gS0] at r2
  obtain ⟨c, cm, -, -, -, D, -⟩ := r2
  obtain ⟨y1, y2⟩ := tY_e (ρ := ρ) (p := p) (k - 311) (by omega) (fun i hi => by
    obtain ⟨k, y, tt, c, -, z1, -, -, -, z2, -⟩ := D.dy i (by omega)
    exact ⟨y, z1, z2⟩)
  have d0 := D.t0
  have d1 := D.t1
  have d2 := D.t2
  rw [← l1, e1] at d0 d1 d2
  rw [e1]
  have f : ∀ j, σ.1 81 v p j = sl v p σ 81 j := fun j => rfl
  intro j hj
  rcases (show j = 0 ∨ j = 1 ∨ j = 2 by omega) with rfl | rfl | rfl
  · rw [f, d0, y1, tA0]
    unfold jN
    rw [i32_64 (by omega)]
  · rw [f, d1, tA1]
  · rw [f, d2, tA2]
theorem dy_e {k n P p : Nat} {TC : Nat → List Cl} {ρ : St} (hr : RunOK P n k TC ρ) (hp : p < P) (hk : 312 ≤ k) : ∀ i, 312 + i ≤ k → ∃ kk y : Nat, kk ≤ 9 ∧ y ≤ 9999 ∧ ρ.1 304 0 0 (624 * p + i) = nI kk ∧ ρ.2 308 0 0 (624 * p + i) = jN y := by
  obtain ⟨nc, nb, r1⟩ := hr.a (fun _ _ _ => 0)
  obtain ⟨c, cm, -, -, -, D, -⟩ := r1 p hp
  intro i hi
  obtain ⟨k, y, tt, c, z0, z1, -, -, z2, z3, -⟩ := D.dy i (by omega)
  exact ⟨k, y, z0, z1, z2, z3⟩
/-- what a reading by both leaves -/
abbrev RdB (T : Nat) (r : Int32) (σ μ σ2 μ2 : St) : Prop := (∀ f a b i, ¬ (112 ≤ f ∧ f ≤ 121) → ¬ ((1 ≤ f ∧ f ≤ 12) ∧ a = T) → f ≠ 111 → f ≠ 160 → σ2.1 f a b i = σ.1 f a b i) ∧ (∀ f a b i, ¬ (247 ≤ f ∧ f ≤ 259) → ¬ (238 ≤ f ∧ f ≤ 245) → μ2.1 f a b i = μ.1 f a b i) ∧ (μ2.2 = μ.2) ∧ (∀ i, i < T → μ2.1 238 0 0 i = μ.1 238 0 0 i) ∧ (∀ f i, 239 ≤ f → f ≤ 244 → i < 24 * T → μ2.1 f 0 0 i = μ.1 f 0 0 i) ∧ (∀ j, j < 1000 * T → μ2.1 245 0 0 j = μ.1 245 0 0 j) ∧ (∀ i, σ2.1 111 0 0 i = μ2.1 247 0 0 i) ∧ (σ2.1 112 0 0 0 = μ2.1 257 0 0 0) ∧ (∀ i, 0 ≤ (μ2.1 247 0 0 i).toInt ∧ (μ2.1 247 0 0 i).toInt ≤ 600) ∧ (r = μ2.1 255 0 0 0) ∧ (r = 0 → Txd T σ2 μ2)
theorem RdB.x {T : Nat} {r : Int32} {σ μ σ2 μ2 : St} (h : RdB T r σ μ σ2 μ2) : ∀ f a b i, ¬ (112 ≤ f ∧ f ≤ 121) → ¬ ((1 ≤ f ∧ f ≤ 12) ∧ a = T) → f ≠ 111 → f ≠ 160 → σ2.1 f a b i = σ.1 f a b i := h.1
theorem RdB.m {T : Nat} {r : Int32} {σ μ σ2 μ2 : St} (h : RdB T r σ μ σ2 μ2) : ∀ f a b i, ¬ (247 ≤ f ∧ f ≤ 259) → ¬ (238 ≤ f ∧ f ≤ 245) → μ2.1 f a b i = μ.1 f a b i := h.2.1
theorem RdB.j {T : Nat} {r : Int32} {σ μ σ2 μ2 : St} (h : RdB T r σ μ σ2 μ2) : μ2.2 = μ.2 := h.2.2.1
theorem RdB.c {T : Nat} {r : Int32} {σ μ σ2 μ2 : St} (h : RdB T r σ μ σ2 μ2) : ∀ i, i < T → μ2.1 238 0 0 i = μ.1 238 0 0 i := h.2.2.2.1
theorem RdB.t {T : Nat} {r : Int32} {σ μ σ2 μ2 : St} (h : RdB T r σ μ σ2 μ2) : ∀ f i, 239 ≤ f → f ≤ 244 → i < 24 * T → μ2.1 f 0 0 i = μ.1 f 0 0 i := h.2.2.2.2.1
theorem RdB.w {T : Nat} {r : Int32} {σ μ σ2 μ2 : St} (h : RdB T r σ μ σ2 μ2) : ∀ j, j < 1000 * T → μ2.1 245 0 0 j = μ.1 245 0 0 j := h.2.2.2.2.2.1
theorem RdB.e {T : Nat} {r : Int32} {σ μ σ2 μ2 : St} (h : RdB T r σ μ σ2 μ2) : ∀ i, σ2.1 111 0 0 i = μ2.1 247 0 0 i := h.2.2.2.2.2.2.1
theorem RdB.p {T : Nat} {r : Int32} {σ μ σ2 μ2 : St} (h : RdB T r σ μ σ2 μ2) : σ2.1 112 0 0 0 = μ2.1 257 0 0 0 := h.2.2.2.2.2.2.2.1
theorem RdB.b {T : Nat} {r : Int32} {σ μ σ2 μ2 : St} (h : RdB T r σ μ σ2 μ2) : ∀ i, 0 ≤ (μ2.1 247 0 0 i).toInt ∧ (μ2.1 247 0 0 i).toInt ≤ 600 := h.2.2.2.2.2.2.2.2.1
theorem RdB.r {T : Nat} {r : Int32} {σ μ σ2 μ2 : St} (h : RdB T r σ μ σ2 μ2) : r = μ2.1 255 0 0 0 := h.2.2.2.2.2.2.2.2.2.1
theorem RdB.d {T : Nat} {r : Int32} {σ μ σ2 μ2 : St} (h : RdB T r σ μ σ2 μ2) : r = 0 → Txd T σ2 μ2 := h.2.2.2.2.2.2.2.2.2.2
theorem read_both {N n s T : Nat} {TC : Nat → List Cl} {tp : Nat → Nat} {σ μ : St} (hN : 4000 ≤ N) (h : InvB TC tp σ μ) (eT : nT μ = T) (h6 : μ.1 247 0 0 0 = nI s) (hs : s ≤ 600) (hn : n ≤ s) : ∃ r σ2 μ2, fReader_read N T (nI n) σ = some (r, σ2) ∧ fM_readText N (nI T) (nI n) (sI μ 257 0 0 0 (-1)) = some (r, μ2) ∧ RdB T r σ μ σ2 μ2 := by
  have c := h.rg.cns
  have hT := c.T
  have h7 : σ.1 111 0 0 0 = nI s := (h.eq.at 0 (by decide)).trans h6
  have h80 : σ.1 159 0 0 0 = nI T := (h.eq.at (g := 219) 0 (by decide)).trans (by rw [hT.1, eT])
  obtain ⟨μ2, hμ2⟩ : ∃ μ2, μ2 = sI μ 257 0 0 0 (-1) := ⟨_, rfl⟩
  have f2 : ∀ f a b i, f ≠ 257 → μ2.1 f a b i = μ.1 f a b i := fun f a b i q => by rw [hμ2, sI_o q]
  have f2i : ∀ i, i ≠ 0 → μ2.1 257 0 0 i = μ.1 257 0 0 i := fun i q => by rw [hμ2, sI_i q]
  rw [← hμ2]
  have tp2 : TP tp σ μ2 := h.tp.mv (fun _ => rfl) (fun i => f2 _ _ _ _ (by decide))
  obtain ⟨r, σ', μ', r1, r2, r3, r4, r5, r6, r7, r8⟩ := read_e (N := N) (n := n) (t := T) (s := s) (by omega) (by omega) hn hs h7 tp2
  have gX : ∀ f a b i, ¬ (112 ≤ f ∧ f ≤ 121) → ¬ ((1 ≤ f ∧ f ≤ 12) ∧ a = T) → σ'.1 f a b i = σ.1 f a b i := r3.1
  have gM : ∀ f a b i, ¬ (247 ≤ f ∧ f ≤ 259) → ¬ (238 ≤ f ∧ f ≤ 245) → μ'.1 f a b i = μ.1 f a b i := fun f a b i q1 q2 => by rw [r4.1 f a b i q1 q2, f2 _ _ _ _ (by omega)]
  have gJ : μ'.2 = μ.2 := by rw [r4.2.2.2.2, hμ2]; rfl
  have gc : ∀ i, i < T → μ'.1 238 0 0 i = μ.1 238 0 0 i := fun i q => by rw [r4.2.1 i (by omega), f2 _ _ _ _ (by decide)]
  have gt : ∀ f i, 239 ≤ f → f ≤ 244 → i < 24 * T → μ'.1 f 0 0 i = μ.1 f 0 0 i := fun f i q1 q2 q3 => by rw [r4.2.2.1 f i q1 q2 q3, f2 _ _ _ _ (by omega)]
  have gr : ∀ j, j < 1000 * T → μ'.1 245 0 0 j = μ.1 245 0 0 j := fun j q => by rw [r4.2.2.2.1 j q, f2 _ _ _ _ (by decide)]
  have g247 : ∀ i, i ≠ 0 → μ'.1 247 0 0 i = μ.1 247 0 0 i := fun i q => by rw [r5 _ _ (Or.inl rfl) q, f2 _ _ _ _ (by decide)]
  have g257 : ∀ i, i ≠ 0 → μ'.1 257 0 0 i = μ.1 257 0 0 i := fun i q => by rw [r5 _ _ (Or.inr rfl) q, f2i _ q]
  refine ⟨r, _, μ', r1, r2, fun f a b i q1 q2 q3 q4 => ?_, gM, gJ, gc, gt, gr, fun i => ?_, ?_, fun i => ?_, r7, fun q => ?_⟩
  · rw [sI_o q3]
    exact gX f a b i q1 q2
  · by_cases q : i = 0
    · rw [q, sI_s, r6]
    · rw [sI_i q, g247 i q, gX _ _ _ _ (by decide) (by omega)]
      exact h.eq.at i (by decide)
  · rw [sI_o (by decide)]
    rcases r8 with ⟨-, -, r10, r13⟩ | ⟨-, -, -, r12⟩
    · rw [r13, r10]
    · exact r12
  · by_cases q : i = 0
    · rw [q, r6]
      decide
    · rw [g247 i q]
      exact h.rg.at i (by decide)
  · rcases r8 with ⟨-, r9, -⟩ | ⟨-, -, r11, -⟩
    · obtain ⟨l, L, C, ⟨c1, ⟨a1, a2, a3, a4, a5, a6, a7, a8, a9⟩⟩, c2, c3, c4, c5, c6⟩ := r9
      have s : ∀ f b i, f < 111 → (sI σ' 111 0 0 0 0).1 f T b i = σ'.1 f T b i := fun f b i q => by rw [sI_o (by omega)]
      exact ⟨l, L, C, ⟨fun i c hc => ⟨(c1 i c hc).1, fun w => ⟨At_eq _ _ (fun j b1 b2 => s _ _ _ (by decide)) ((c1 i c hc).2.1 w).1, ((c1 i c hc).2.1 w).2⟩, (c1 i c hc).2.2⟩, ⟨(s _ _ _ (by decide)).trans a1, fun k hk => (s _ _ _ (by decide)).trans (a2 k hk), (s _ _ _ (by decide)).trans a3, (s _ _ _ (by decide)).trans a4, (s _ _ _ (by decide)).trans a5, (s _ _ _ (by decide)).trans a6, fun i c hc => (s _ _ _ (by decide)).trans (a7 i c hc), (s _ _ _ (by decide)).trans a8, fun i c hc => ⟨(s _ _ _ (by decide)).trans (a9 i c hc).1, (s _ _ _ (by decide)).trans (a9 i c hc).2⟩⟩⟩, (s _ _ _ (by decide)).trans c2, c3, c4, c5, c6⟩
    · exact absurd q r11
/-- a text read with a fault: all that was told stays -/
theorem RdB.inv {T : Nat} {r : Int32} {TC : Nat → List Cl} {tp : Nat → Nat} {σ μ σ2 μ2 : St} (R : RdB T r σ μ σ2 μ2) (h : InvB TC tp σ μ) (eT : nT μ = T) : InvB TC tp σ2 μ2 :=
  h.tx4 (fun f a b i q1 q2 q3 q4 => R.x f a b i q1 (by rw [← eT]; exact q2) q3 q4) R.m (fun i q => R.c i (by omega)) (fun f i q1 q2 q3 => R.t f i q1 q2 (by omega)) (fun j q => R.w j (by omega)) R.j R.e R.p R.b
