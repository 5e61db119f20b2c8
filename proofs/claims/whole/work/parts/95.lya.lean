/-! the reference tells the books -/
def bkM (f : Nat) : Bool := decide (f = 260) || decide (f = 261)
theorem Fx.bk {μ μ' : St} (h : Fx bkM μ μ') {f a b i : Nat} (hf : f < 260 ∨ 262 ≤ f) : μ'.1 f a b i = μ.1 f a b i := h.1 f a b i (by simp [bkM]; omega)
theorem Fx.b1 {μ : St} {i : Nat} {x : Int32} : Fx bkM μ (sI μ 260 0 0 i x) := Fx.s (by decide)
theorem Fx.b2 {μ : St} {i : Nat} {x : Int32} : Fx bkM μ (sI μ 261 0 0 i x) := Fx.s (by decide)
theorem rw_step {p y k p' y' r : Nat} (hp : p < 20) (hy : y < 3) (hp' : p' < 20) (hy' : y' < 3) {μ : St} (h1 : μ.1 220 0 0 r = nI p') (h2 : μ.1 221 0 0 r = nI y') (h3 : μ.1 223 0 0 r ≤ nI k) : lastB (rowP μ p y k) (r + 1) = if 3 * p + y = 3 * p' + y' then some r else lastB (rowP μ p y k) r := by
  show (if rowP μ p y k r = true then some r else lastB (rowP μ p y k) r) = _
  by_cases c : 3 * p + y = 3 * p' + y'
  · obtain rfl : p = p' := by omega
    obtain rfl : y = y' := by omega
    rw [if_pos rfl, if_pos (by simp [rowP, h1, h2, h3])]
  · rw [if_neg c, if_neg]
    intro q
    simp only [rowP, Bool.and_eq_true, decide_eq_true_eq, h1, h2] at q
    have q1 := (nI_eq (by omega) (by omega)).mp q.1.1
    have q2 := (nI_eq (by omega) (by omega)).mp q.1.2
    omega
theorem rt_step {p w k p' w' r : Nat} (hp : p < 20) (hw : w < 156) (hp' : p' < 20) (hw' : w' < 156) {μ : St} (h1 : μ.1 225 0 0 r = nI p') (h2 : μ.1 226 0 0 r = nI w') (h3 : μ.1 228 0 0 r ≤ nI k) : lastB (retP μ p w k) (r + 1) = if 156 * p + w = 156 * p' + w' then some r else lastB (retP μ p w k) r := by
  show (if retP μ p w k r = true then some r else lastB (retP μ p w k) r) = _
  by_cases c : 156 * p + w = 156 * p' + w'
  · obtain rfl : p = p' := by omega
    obtain rfl : w = w' := by omega
    rw [if_pos rfl, if_pos (by simp [retP, h1, h2, h3])]
  · rw [if_neg c, if_neg]
    intro q
    simp only [retP, Bool.and_eq_true, decide_eq_true_eq, h1, h2] at q
    have q1 := (nI_eq (by omega) (by omega)).mp q.1.1
    have q2 := (nI_eq (by omega) (by omega)).mp q.1.2
    omega
theorem tb92 {N k : Nat} {μ : St} (hR : Rng μ) {cnt : Nat} (hcnt : μ.1 217 0 0 0 = nI cnt) (hc : cnt ≤ 100) : ∀ (e i m : Nat) (μ1 : St), i + e = cnt → e < m → Fx bkM μ μ1 → (∀ p w, p < 20 → w < 156 → μ1.1 261 0 0 (156 * p + w) = retV μ (lastB (retP μ p w k) i)) →
    ∃ μ', fM_tellBooks_92 N m (nI k) (nI i) μ1 = some μ' ∧ Fx bkM μ μ' ∧ (∀ i, μ'.1 260 0 0 i = μ1.1 260 0 0 i) ∧ ∀ p w, p < 20 → w < 156 → μ'.1 261 0 0 (156 * p + w) = rtn μ p k w := by
  intro e
  induction e with
  | zero =>
    intro i m μ1 h1 h2 hF h3
    obtain ⟨m, rfl⟩ : ∃ q, m = q + 1 := ⟨m - 1, by omega⟩
    obtain rfl : i = cnt := by omega
    refine ⟨μ1, ?_, hF, fun _ => rfl, fun p w hp hw => ?_⟩
    · show (if μ1.1 217 0 0 0 ≤ nI i then some μ1 else _) = _
      rw [hF.bk (by decide), hcnt, if_pos (Int32.le_refl _)]
    · rw [h3 p w hp hw]
      unfold rtn
      rw [hcnt, nI_clamp (by omega)]
  | succ e ih =>
    intro i m μ1 h1 h2 hF h3
    obtain ⟨m, rfl⟩ : ∃ q, m = q + 1 := ⟨m - 1, by omega⟩
    obtain ⟨np, p1, p2, p3, p4, p5⟩ := hR.n (g := 225) (lo := 0) (hi := 19) i (by decide) (by decide)
    obtain ⟨nw, w1, w2, w3, w4, w5⟩ := hR.n (g := 226) (lo := 0) (hi := 155) i (by decide) (by decide)
    have e1 : (156 : Int32) * nI np + nI nw = nI (156 * np + nw) := by rw [show (156 : Int32) * nI np = nI (156 * np) from (Int32.ofNat_mul 156 np).symm, nI_add]
    have e0 : fM_tellBooks_92 N (m + 1) (nI k) (nI i) μ1 = if nI k < μ.1 228 0 0 i then fM_tellBooks_92 N m (nI k) (nI (i + 1)) μ1 else fM_tellBooks_92 N m (nI k) (nI (i + 1)) (sI μ1 261 0 0 (156 * np + nw) (μ.1 227 0 0 i)) := by
      show (if μ1.1 217 0 0 0 ≤ nI i then _ else chk (inb (nI i) 100) (if nI k < μ1.1 228 0 0 (nI i).toNatClampNeg then fM_tellBooks_92 N m (nI k) (nI i + 1) μ1 else chk (inb ((156 * μ1.1 225 0 0 (nI i).toNatClampNeg) + μ1.1 226 0 0 (nI i).toNatClampNeg) 3120) (nm (sI μ1 261 0 0 ((156 * μ1.1 225 0 0 (nI i).toNatClampNeg) + μ1.1 226 0 0 (nI i).toNatClampNeg).toNatClampNeg (μ1.1 227 0 0 (nI i).toNatClampNeg)) fun (σ1 : St) => fM_tellBooks_92 N m (nI k) (nI i + 1) σ1))) = _
      rw [hF.bk (f := 217) (by decide), hcnt, if_neg (nI_ge (by omega) (by omega)), chk_t (inb_n (by omega) (by decide)), nI_clamp (by omega), hF.bk (f := 228) (by decide), hF.bk (f := 225) (by decide), hF.bk (f := 226) (by decide), hF.bk (f := 227) (by decide), p1, w1, e1, chk_t (inb_n (by omega) (by decide)), nmx, nI_clamp (by omega), nI_1]
    rw [e0]
    by_cases c : nI k < μ.1 228 0 0 i
    · rw [if_pos c]
      refine ih (i + 1) m μ1 (by omega) (by omega) hF (fun p w hp hw => ?_)
      rw [h3 p w hp hw]
      show _ = retV μ (if retP μ p w k i = true then some i else lastB (retP μ p w k) i)
      rw [if_neg]
      intro q
      simp only [retP, Bool.and_eq_true, decide_eq_true_eq] at q
      exact absurd c (Int32.not_lt.mpr q.2)
    · rw [if_neg c]
      obtain ⟨μ', i1, i2, i3, i4⟩ := ih (i + 1) m (sI μ1 261 0 0 (156 * np + nw) (μ.1 227 0 0 i)) (by omega) (by omega) (hF.tr Fx.b2) (fun p w hp hw => by
        rw [rt_step hp hw (by omega) (by omega) p1 w1 (Int32.not_lt.mp c)]
        by_cases z : 156 * p + w = 156 * np + nw
        · rw [if_pos z, z, sI_s]
          rfl
        · rw [if_neg z, sI_i z, h3 p w hp hw])
      exact ⟨μ', i1, i2, fun j => (i3 j).trans (sI_o (by decide)), i4⟩
theorem tb45 {N k : Nat} {μ : St} (hR : Rng μ) {cnt : Nat} (hcnt : μ.1 216 0 0 0 = nI cnt) (hc : cnt ≤ 60) : ∀ (e i m : Nat) (μ1 : St), i + e = cnt → e < m → Fx bkM μ μ1 → (∀ p y, p < 20 → y < 3 → μ1.1 260 0 0 (3 * p + y) = oI (lastB (rowP μ p y k) i)) →
    ∃ μ', fM_tellBooks_45 N m (nI k) (nI i) μ1 = fM_tellBooks_92 N N (nI k) 0 μ' ∧ Fx bkM μ μ' ∧ (∀ i, μ'.1 261 0 0 i = μ1.1 261 0 0 i) ∧ ∀ p y, p < 20 → y < 3 → μ'.1 260 0 0 (3 * p + y) = oI (rowL μ p y k) := by
  intro e
  induction e with
  | zero =>
    intro i m μ1 h1 h2 hF h3
    obtain ⟨m, rfl⟩ : ∃ q, m = q + 1 := ⟨m - 1, by omega⟩
    obtain rfl : i = cnt := by omega
    refine ⟨μ1, ?_, hF, fun _ => rfl, fun p y hp hy => ?_⟩
    · show (if μ1.1 216 0 0 0 ≤ nI i then fM_tellBooks_92 N N (nI k) 0 μ1 else _) = _
      rw [hF.bk (by decide), hcnt, if_pos (Int32.le_refl _)]
    · rw [h3 p y hp hy]
      unfold rowL
      rw [hcnt, nI_clamp (by omega)]
  | succ e ih =>
    intro i m μ1 h1 h2 hF h3
    obtain ⟨m, rfl⟩ : ∃ q, m = q + 1 := ⟨m - 1, by omega⟩
    obtain ⟨np, p1, p2, p3, p4, p5⟩ := hR.n (g := 220) (lo := 0) (hi := 19) i (by decide) (by decide)
    obtain ⟨ny, y1, y2, y3, y4, y5⟩ := hR.n (g := 221) (lo := 0) (hi := 2) i (by decide) (by decide)
    have e1 : (3 : Int32) * nI np + nI ny = nI (3 * np + ny) := by rw [show (3 : Int32) * nI np = nI (3 * np) from (Int32.ofNat_mul 3 np).symm, nI_add]
    have e0 : fM_tellBooks_45 N (m + 1) (nI k) (nI i) μ1 = if nI k < μ.1 223 0 0 i then fM_tellBooks_45 N m (nI k) (nI (i + 1)) μ1 else fM_tellBooks_45 N m (nI k) (nI (i + 1)) (sI μ1 260 0 0 (3 * np + ny) (nI i)) := by
      show (if μ1.1 216 0 0 0 ≤ nI i then _ else chk (inb (nI i) 60) (if nI k < μ1.1 223 0 0 (nI i).toNatClampNeg then fM_tellBooks_45 N m (nI k) (nI i + 1) μ1 else chk (inb ((3 * μ1.1 220 0 0 (nI i).toNatClampNeg) + μ1.1 221 0 0 (nI i).toNatClampNeg) 60) (nm (sI μ1 260 0 0 ((3 * μ1.1 220 0 0 (nI i).toNatClampNeg) + μ1.1 221 0 0 (nI i).toNatClampNeg).toNatClampNeg (nI i)) fun (σ1 : St) => fM_tellBooks_45 N m (nI k) (nI i + 1) σ1))) = _
      rw [hF.bk (f := 216) (by decide), hcnt, if_neg (nI_ge (by omega) (by omega)), chk_t (inb_n (by omega) (by decide)), nI_clamp (by omega), hF.bk (f := 223) (by decide), hF.bk (f := 220) (by decide), hF.bk (f := 221) (by decide), p1, y1, e1, chk_t (inb_n (by omega) (by decide)), nmx, nI_clamp (by omega), nI_1]
    rw [e0]
    by_cases c : nI k < μ.1 223 0 0 i
    · rw [if_pos c]
      refine ih (i + 1) m μ1 (by omega) (by omega) hF (fun p y hp hy => ?_)
      rw [h3 p y hp hy]
      show _ = oI (if rowP μ p y k i = true then some i else lastB (rowP μ p y k) i)
      rw [if_neg]
      intro q
      simp only [rowP, Bool.and_eq_true, decide_eq_true_eq] at q
      exact absurd c (Int32.not_lt.mpr q.2)
    · rw [if_neg c]
      obtain ⟨μ', i1, i2, i3, i4⟩ := ih (i + 1) m (sI μ1 260 0 0 (3 * np + ny) (nI i)) (by omega) (by omega) (hF.tr Fx.b1) (fun p y hp hy => by
        rw [rw_step hp hy (by omega) (by omega) p1 y1 (Int32.not_lt.mp c)]
        by_cases z : 3 * p + y = 3 * np + ny
        · rw [if_pos z, z, sI_s]
          rfl
        · rw [if_neg z, sI_i z, h3 p y hp hy])
      exact ⟨μ', i1, i2, fun j => (i3 j).trans (sI_o (by decide)), i4⟩
theorem tb23 {N : Nat} {x : Int32} : ∀ (e i m : Nat) (μ : St), i + e = 3120 → e < m → ∃ μ', fM_tellBooks_23 N m x (nI i) μ = fM_tellBooks_45 N N x 0 μ' ∧ Fx bkM μ μ' ∧ (∀ i, μ'.1 260 0 0 i = μ.1 260 0 0 i) ∧ (∀ j, j < i → μ'.1 261 0 0 j = μ.1 261 0 0 j) ∧ ∀ j, i ≤ j → j < 3120 → μ'.1 261 0 0 j = -1 := by
  intro e
  induction e with
  | zero =>
    intro i m μ h1 h2
    obtain ⟨m, rfl⟩ : ∃ q, m = q + 1 := ⟨m - 1, by omega⟩
    obtain rfl : i = 3120 := by omega
    exact ⟨μ, rfl, Fx.rf, fun _ => rfl, fun _ _ => rfl, fun j a b => by omega⟩
  | succ e ih =>
    intro i m μ h1 h2
    obtain ⟨m, rfl⟩ : ∃ q, m = q + 1 := ⟨m - 1, by omega⟩
    obtain ⟨μ', i1, i2, i3, i4, i5⟩ := ih (i + 1) m (sI μ 261 0 0 i (-1)) (by omega) (by omega)
    refine ⟨μ', ?_, Fx.b2.tr i2, fun j => (i3 j).trans (sI_o (by decide)), fun j hj => (i4 j (by omega)).trans (sI_i (by omega)), fun j a b => ?_⟩
    · show (if (3120 : Int32) ≤ nI i then _ else chk (inb (nI i) 3120) (nm (sI μ 261 0 0 (nI i).toNatClampNeg (-1)) fun (σ1 : St) => fM_tellBooks_23 N m x (nI i + 1) σ1)) = _
      rw [if_neg (show ¬ (3120 : Int32) ≤ nI i from nI_ge (a := i) (b := 3120) (by omega) (by omega)), chk_t (inb_n (by omega) (by decide)), nmx, nI_clamp (by omega), nI_1, i1]
    · by_cases c : j = i
      · rw [c, i4 i (by omega), sI_s]
      · exact i5 j (by omega) b
theorem tb2 {N : Nat} {x : Int32} : ∀ (e i m : Nat) (μ : St), i + e = 60 → e < m → ∃ μ', fM_tellBooks_2 N m x (nI i) μ = fM_tellBooks_23 N N x 0 μ' ∧ Fx bkM μ μ' ∧ (∀ j, j < i → μ'.1 260 0 0 j = μ.1 260 0 0 j) ∧ ∀ j, i ≤ j → j < 60 → μ'.1 260 0 0 j = -1 := by
  intro e
  induction e with
  | zero =>
    intro i m μ h1 h2
    obtain ⟨m, rfl⟩ : ∃ q, m = q + 1 := ⟨m - 1, by omega⟩
    obtain rfl : i = 60 := by omega
    exact ⟨μ, rfl, Fx.rf, fun _ _ => rfl, fun j a b => by omega⟩
  | succ e ih =>
    intro i m μ h1 h2
    obtain ⟨m, rfl⟩ : ∃ q, m = q + 1 := ⟨m - 1, by omega⟩
    obtain ⟨μ', i1, i2, i4, i5⟩ := ih (i + 1) m (sI μ 260 0 0 i (-1)) (by omega) (by omega)
    refine ⟨μ', ?_, Fx.b1.tr i2, fun j hj => (i4 j (by omega)).trans (sI_i (by omega)), fun j a b => ?_⟩
    · show (if (60 : Int32) ≤ nI i then _ else chk (inb (nI i) 60) (nm (sI μ 260 0 0 (nI i).toNatClampNeg (-1)) fun (σ1 : St) => fM_tellBooks_2 N m x (nI i + 1) σ1)) = _
      rw [if_neg (show ¬ (60 : Int32) ≤ nI i from nI_ge (a := i) (b := 60) (by omega) (by omega)), chk_t (inb_n (by omega) (by decide)), nmx, nI_clamp (by omega), nI_1, i1]
    · by_cases c : j = i
      · rw [c, i4 i (by omega), sI_s]
      · exact i5 j (by omega) b
/-- the books as known on a day -/
def BkM (k : Nat) (μ μ' : St) : Prop := (∀ p y, p < 20 → y < 3 → μ'.1 260 0 0 (3 * p + y) = oI (rowL μ p y k)) ∧ ∀ p w, p < 20 → w < 156 → μ'.1 261 0 0 (156 * p + w) = rtn μ p k w
theorem tellBooks_e {N k : Nat} {μ : St} (hN : 3200 ≤ N) (hR : Rng μ) : ∃ μ', fM_tellBooks N (nI k) μ = some μ' ∧ Fx bkM μ μ' ∧ BkM k μ μ' := by
  obtain ⟨nr, r1, r2, r3, r4, r5⟩ := hR.n (g := 216) (lo := 0) (hi := 60) 0 (by decide) (by decide)
  obtain ⟨nt, t1, t2, t3, t4, t5⟩ := hR.n (g := 217) (lo := 0) (hi := 100) 0 (by decide) (by decide)
  obtain ⟨μ1, a1, a2, -, a4⟩ := tb2 (N := N) (x := nI k) 60 0 N μ (by omega) (by omega)
  obtain ⟨μ2, b1, b2, b3, -, b5⟩ := tb23 (N := N) (x := nI k) 3120 0 N μ1 (by omega) (by omega)
  obtain ⟨μ3, c1, c2, c3, c4⟩ := tb45 (N := N) (k := k) hR r1 (by omega) nr 0 N μ2 (by omega) (by omega) (a2.tr b2) (fun p y hp hy => by rw [b3, a4 _ (by omega) (by omega)]; rfl)
  obtain ⟨μ4, d1, d2, d3, d4⟩ := tb92 (N := N) (k := k) hR t1 (by omega) nt 0 N μ3 (by omega) (by omega) c2 (fun p w hp hw => by rw [c3, b5 _ (by omega) (by omega)]; rfl)
  refine ⟨μ4, ?_, d2, fun p y hp hy => (d3 _).trans (c4 p y hp hy), d4⟩
  unfold fM_tellBooks
  rw [show fM_tellBooks_2 N N (nI k) 0 μ = _ from a1, show fM_tellBooks_23 N N (nI k) 0 μ1 = _ from b1, show fM_tellBooks_45 N N (nI k) 0 μ2 = _ from c1]
  exact d1
