/-! how long the fund lasts -/
theorem xs32 {x : Int32} {n : Nat} (hn : n < 2 ^ 31) : (0 ≤ x ^^^ nI n) ↔ 0 ≤ x.toInt := by
  rw [fa_le, Int32.toInt_zero]
  have h1 : (x ^^^ nI n).toInt < 0 ↔ x.toInt < 0 := by
    have e1 : (x ^^^ nI n).toBitVec = x.toBitVec ^^^ (nI n).toBitVec := rfl
    have a1 := BitVec.msb_eq_toInt (x := (x ^^^ nI n).toBitVec)
    have a2 := BitVec.msb_eq_toInt (x := x.toBitVec)
    have a3 := BitVec.msb_eq_toInt (x := (nI n).toBitVec)
    rw [e1, BitVec.msb_xor, ← e1] at a1
    have e3 : (nI n).toBitVec.toInt = (n : Int) := nI_toInt hn
    rw [e3] at a3
    have e4 : (nI n).toBitVec.msb = false := by rw [a3]; exact decide_eq_false (by omega)
    rw [e4, Bool.xor_false, a2] at a1
    have := decide_eq_decide.mp a1
    exact this.symm
  omega
theorem xs64 {x : Int64} {n : Nat} (hn : n < 2 ^ 31) : (0 ≤ lg_cmp (x ^^^ (nI n).toInt64) 0) ↔ 0 ≤ x.toInt := by
  have h1 : (x ^^^ (nI n).toInt64).toInt < 0 ↔ x.toInt < 0 := by
    have e1 : (x ^^^ (nI n).toInt64).toBitVec = x.toBitVec ^^^ (nI n).toInt64.toBitVec := rfl
    have a1 := BitVec.msb_eq_toInt (x := (x ^^^ (nI n).toInt64).toBitVec)
    have a2 := BitVec.msb_eq_toInt (x := x.toBitVec)
    have a3 := BitVec.msb_eq_toInt (x := (nI n).toInt64.toBitVec)
    rw [e1, BitVec.msb_xor, ← e1] at a1
    have e3 : (nI n).toInt64.toBitVec.toInt = (n : Int) := (Int32.toInt_toInt64 _).trans (nI_toInt hn)
    rw [e3] at a3
    have e4 : (nI n).toInt64.toBitVec.msb = false := by rw [a3]; exact decide_eq_false (by omega)
    rw [e4, Bool.xor_false, a2] at a1
    have := decide_eq_decide.mp a1
    exact this.symm
  have h2 : (0 ≤ lg_cmp (x ^^^ (nI n).toInt64) 0) ↔ 0 ≤ (x ^^^ (nI n).toInt64).toInt := by
    unfold lg_cmp
    generalize x ^^^ (nI n).toInt64 = y
    have g1 : (y > 0) ↔ 0 < y.toInt := by
      show 0 < y ↔ _
      rw [fa_lt64]
      exact Iff.rfl
    have g2 : (y = 0) ↔ y.toInt = 0 := by
      rw [fa_eq64]
      exact Iff.rfl
    simp only [g1, g2]
    by_cases c1 : 0 < y.toInt
    · rw [if_pos c1]
      exact ⟨fun _ => by omega, fun _ => by decide⟩
    · rw [if_neg c1]
      by_cases c2 : y.toInt = 0
      · rw [if_pos c2]
        exact ⟨fun _ => by omega, fun _ => by decide⟩
      · rw [if_neg c2]
        exact ⟨fun h => absurd h (by decide), fun h => by omega⟩
  rw [h2]
  omega
theorem td {x : Int} {n : Nat} (h : n = 1 ∨ n = 2 ∨ n = 3 ∨ n = 4) : (0 ≤ x → x.tdiv n = x / n) ∧ (x < 0 → x.tdiv n = -((-x) / n)) := by
  refine ⟨fun h0 => Int.tdiv_eq_ediv_of_nonneg h0, fun h0 => ?_⟩
  have e : x = -(-x) := by omega
  rw [e, Int.neg_tdiv, Int.neg_neg, Int.tdiv_eq_ediv_of_nonneg (by omega)]
theorem td_b {x : Int} {n : Nat} (h : n = 1 ∨ n = 2 ∨ n = 3 ∨ n = 4) (hx : -1000000000 ≤ x ∧ x ≤ 1000000000) : -1000000000 ≤ x.tdiv n ∧ x.tdiv n ≤ 1000000000 := by
  obtain ⟨t1, t2⟩ := td (x := x) h
  by_cases c : 0 ≤ x
  · rw [t1 c]
    rcases h with rfl | rfl | rfl | rfl <;> omega
  · rw [t2 (by omega)]
    rcases h with rfl | rfl | rfl | rfl <;> omega
theorem td_m {x : Int} {n : Nat} (h : n = 1 ∨ n = 2 ∨ n = 3 ∨ n = 4) (hx : -1000000000 ≤ x ∧ x ≤ 1000000000) : -1000000000 ≤ x.tdiv n * n ∧ x.tdiv n * n ≤ 1000000000 := by
  obtain ⟨t1, t2⟩ := td (x := x) h
  by_cases c : 0 ≤ x
  · rw [t1 c]
    rcases h with rfl | rfl | rfl | rfl <;> omega
  · rw [t2 (by omega)]
    rcases h with rfl | rfl | rfl | rfl <;> omega
theorem fd32 {N n : Nat} {x : Int32} {σ : St} (h : n = 1 ∨ n = 2 ∨ n = 3 ∨ n = 4) (hx : -1000000000 ≤ x.toInt ∧ x.toInt ≤ 1000000000) : ∃ r, fMath_floorDiv_I N x (nI n) σ = some r ∧ r.toInt = x.toInt / n := by
  have hn : n < 2 ^ 31 := by omega
  have en := nI_toInt hn
  obtain ⟨t1, t2⟩ := td (x := x.toInt) h
  obtain ⟨b1, b2⟩ := td_b (x := x.toInt) h hx
  obtain ⟨m1, m2⟩ := td_m (x := x.toInt) h hx
  have eq0 : (x / nI n).toInt = x.toInt.tdiv n := by
    rw [Int32.toInt_div, en]
    exact Int.bmod_eq_of_le (by omega) (by omega)
  unfold fMath_floorDiv_I
  rw [chk_t (nI_ne0 (by omega) hn), nmx]
  by_cases c : 0 ≤ x.toInt
  · rw [if_pos ((xs32 hn).mpr c)]
    exact ⟨_, rfl, by rw [eq0, t1 c]⟩
  · rw [if_neg (fun z => c ((xs32 hn).mp z))]
    have t2 := t2 (by omega)
    have em : (x / nI n * nI n).toInt = x.toInt.tdiv n * n := by
      rw [Int32.toInt_mul, eq0, en]
      exact Int.bmod_eq_of_le (by omega) (by omega)
    by_cases d : x / nI n * nI n = x
    · rw [if_pos d]
      refine ⟨_, rfl, ?_⟩
      rw [eq0]
      have := congrArg Int32.toInt d
      rw [em, t2] at this
      rw [t2]
      rcases h with rfl | rfl | rfl | rfl <;> omega
    · rw [if_neg d]
      refine ⟨_, rfl, ?_⟩
      have d2 : ¬ x.toInt.tdiv n * n = x.toInt := fun z => d ((fa_eq _ _).mpr (em.trans z))
      have e1 : (1 : Int32).toInt = 1 := by decide
      rw [sub_i (by omega) (by omega), eq0, e1]
      rw [t2] at d2 ⊢
      rcases h with rfl | rfl | rfl | rfl <;> omega
theorem w64 {n : Nat} (hn : n < 2 ^ 31) : ((nI n).toInt64).toInt = (n : Int) := (Int32.toInt_toInt64 _).trans (nI_toInt hn)
theorem cmp0 (x : Int64) : (lg_cmp x 0 = 0 ↔ x.toInt = 0) ∧ (lg_cmp x 0 < 0 ↔ x.toInt < 0) ∧ (0 ≤ lg_cmp x 0 ↔ 0 ≤ x.toInt) := by
  unfold lg_cmp
  have g1 : (x > 0) ↔ 0 < x.toInt := by
    show 0 < x ↔ _
    rw [fa_lt64]
    exact Iff.rfl
  have g2 : (x = 0) ↔ x.toInt = 0 := by
    rw [fa_eq64]
    exact Iff.rfl
  by_cases c1 : 0 < x.toInt
  · rw [if_pos (g1.mpr c1)]
    exact ⟨⟨fun h => absurd h (by decide), fun h => by omega⟩, ⟨fun h => absurd h (by decide), fun h => by omega⟩, ⟨fun _ => by omega, fun _ => by decide⟩⟩
  · rw [if_neg (fun z => c1 (g1.mp z))]
    by_cases c2 : x.toInt = 0
    · rw [if_pos (g2.mpr c2)]
      exact ⟨⟨fun _ => c2, fun _ => rfl⟩, ⟨fun h => absurd h (by decide), fun h => by omega⟩, ⟨fun _ => by omega, fun _ => by decide⟩⟩
    · rw [if_neg (fun z => c2 (g2.mp z))]
      exact ⟨⟨fun h => absurd h (by decide), fun h => absurd h c2⟩, ⟨fun _ => by omega, fun _ => by decide⟩, ⟨fun h => absurd h (by decide), fun h => by omega⟩⟩
theorem cmpz (x y : Int64) : lg_cmp x y = 0 ↔ x.toInt = y.toInt := by
  unfold lg_cmp
  rw [← fa_eq64]
  by_cases c1 : x > y
  · rw [if_pos c1]
    refine ⟨fun h => absurd h (by decide), fun h => ?_⟩
    subst h
    have := (fa_lt64 x x).mp c1
    omega
  · rw [if_neg c1]
    by_cases c2 : x = y
    · rw [if_pos c2]
      exact ⟨fun _ => c2, fun _ => rfl⟩
    · rw [if_neg c2]
      exact ⟨fun h => absurd h (by decide), fun h => absurd h c2⟩
theorem fd64 {N n : Nat} {x : Int64} {σ : St} (h : n = 1 ∨ n = 2 ∨ n = 3 ∨ n = 4) (hx : -1000000000 ≤ x.toInt ∧ x.toInt ≤ 1000000000) : ∃ r, fMath_floorDiv_J N x (nI n).toInt64 σ = some r ∧ r.toInt = x.toInt / n := by
  have hn : n < 2 ^ 31 := by omega
  have en := w64 hn
  obtain ⟨t1, t2⟩ := td (x := x.toInt) h
  obtain ⟨b1, b2⟩ := td_b (x := x.toInt) h hx
  obtain ⟨m1, m2⟩ := td_m (x := x.toInt) h hx
  have eq0 : (x / (nI n).toInt64).toInt = x.toInt.tdiv n := by
    rw [Int64.toInt_div, en]
    exact Int.bmod_eq_of_le (by omega) (by omega)
  unfold fMath_floorDiv_J
  rw [chk_t (by rw [fa_eq64, en]; show ¬ ((n : Int) = 0); omega), nmx]
  by_cases c : 0 ≤ x.toInt
  · rw [if_pos ((xs64 hn).mpr c)]
    exact ⟨_, rfl, by rw [eq0, t1 c]⟩
  · rw [if_neg (fun z => c ((xs64 hn).mp z))]
    have t2 := t2 (by omega)
    have em : (x / (nI n).toInt64 * (nI n).toInt64).toInt = x.toInt.tdiv n * n := by
      rw [Int64.toInt_mul, eq0, en]
      exact Int.bmod_eq_of_le (by omega) (by omega)
    by_cases d : lg_cmp (x / (nI n).toInt64 * (nI n).toInt64) x = 0
    · rw [if_pos d]
      refine ⟨_, rfl, ?_⟩
      rw [eq0]
      have := (cmpz _ _).mp d
      rw [em, t2] at this
      rw [t2]
      rcases h with rfl | rfl | rfl | rfl <;> omega
    · rw [if_neg d]
      refine ⟨_, rfl, ?_⟩
      have d2 : ¬ x.toInt.tdiv n * n = x.toInt := fun z => d ((cmpz _ _).mpr (em.trans z))
      have e1 : (1 : Int64).toInt = 1 := by decide
      have e2 : (x / (nI n).toInt64 - 1).toInt = x.toInt.tdiv n - 1 := by
        rw [Int64.toInt_sub, eq0, e1]
        exact Int.bmod_eq_of_le (by omega) (by omega)
      rw [e2]
      rw [t2] at d2 ⊢
      rcases h with rfl | rfl | rfl | rfl <;> omega
def sumC (g : Nat → Int) : Nat → Int
  | 0 => 0
  | k + 1 => sumC g k + g k
theorem sumC_b {g : Nat → Int} (hg : ∀ k, -200000000 ≤ g k ∧ g k ≤ 200000000) : ∀ k : Nat, -200000000 * (k : Int) ≤ sumC g k ∧ sumC g k ≤ 200000000 * (k : Int)
  | 0 => ⟨by simp [sumC], by simp [sumC]⟩
  | k + 1 => by
    have := sumC_b hg k
    have := hg k
    simp only [sumC]
    omega
/-- the last week's losses, a number of pence, and what is left -/
def lastV (n : Nat) (has sum : Int) : Int := if has < 0 then 0 else if sum < 0 ∧ n ≠ 0 then has / (-(sum / n)) + 1 else -1
theorem lastsX {N n : Nat} {σ : St} {g : Nat → Int} (hn : n ≤ 4) (hg : ∀ k, -200000000 ≤ g k ∧ g k ≤ 200000000) (h1 : ∀ k, k < 4 → (σ.1 59 0 0 k).toInt = g k) (h0 : 0 ≤ (σ.1 56 0 0 0).toInt) (h2 : (σ.1 56 0 0 0).toInt ≤ 2000000000) : ∀ (d i m : Nat) (s : Int32), i + d = n → d < m → s.toInt = sumC g i → ∃ r, fLand_lasts_22 N m (nI n) s (nI i) σ = some r ∧ r.toInt = lastV n (σ.1 56 0 0 0).toInt (sumC g n) := by
  have em1 : (-1 : Int32).toInt = -1 := by decide
  intro d
  induction d with
  | zero =>
    intro i m s hi hm hs
    obtain ⟨m, rfl⟩ : ∃ m', m = m' + 1 := ⟨m - 1, by omega⟩
    obtain rfl : i = n := by omega
    have hb := sumC_b hg i
    show ∃ r, (if nI i ≤ nI i then _ else _) = some r ∧ _
    rw [if_pos (Int32.le_refl _)]
    unfold lastV
    rw [if_neg (show ¬ (σ.1 56 0 0 0).toInt < 0 by omega)]
    by_cases c : 0 ≤ s
    · rw [if_pos c, if_neg (by rw [fa_le, Int32.toInt_zero] at c; omega)]
      exact ⟨_, rfl, em1⟩
    · rw [if_neg c]
      rw [fa_le, Int32.toInt_zero] at c
      by_cases c0 : i = 0
      · rw [if_pos (by rw [c0]; rfl), if_neg (by omega)]
        exact ⟨_, rfl, em1⟩
      · rw [if_neg (nI_ne0 (by omega) (by omega)), if_pos ⟨by omega, c0⟩]
        obtain ⟨r, hr, er⟩ := fd32 (N := N) (n := i) (x := s) (σ := σ) (by omega) (by omega)
        rw [hr, bn1_e, nmx]
        have hq : s.toInt / (i : Int) < 0 ∧ -1000000000 ≤ s.toInt / (i : Int) := by
          rcases (by omega : i = 1 ∨ i = 2 ∨ i = 3 ∨ i = 4) with rfl | rfl | rfl | rfl <;> omega
        have en : (-r).toInt = -(s.toInt / i) := by rw [neg_i (by omega), er]
        rw [if_neg (by rw [fa_le, en, Int32.toInt_zero]; omega), chk_t (by rw [fa_eq, en, Int32.toInt_zero]; omega)]
        refine ⟨_, rfl, ?_⟩
        have e1 : (1 : Int32).toInt = 1 := by decide
        have ed : (σ.1 56 0 0 0 / -r).toInt = (σ.1 56 0 0 0).toInt / (-(s.toInt / i)) := by
          rw [Int32.toInt_div, en, Int.tdiv_eq_ediv_of_nonneg h0]
          have h5 : 0 ≤ (σ.1 56 0 0 0).toInt / (-(s.toInt / i)) := Int.ediv_nonneg h0 (by omega)
          have h6 : (σ.1 56 0 0 0).toInt / (-(s.toInt / i)) ≤ (σ.1 56 0 0 0).toInt := Int.ediv_le_self _ h0
          exact Int.bmod_eq_of_le (by omega) (by omega)
        have h5 : 0 ≤ (σ.1 56 0 0 0).toInt / (-(s.toInt / i)) := Int.ediv_nonneg h0 (by omega)
        have h6 : (σ.1 56 0 0 0).toInt / (-(s.toInt / i)) ≤ (σ.1 56 0 0 0).toInt := Int.ediv_le_self _ h0
        rw [add_i (by omega) (by omega), ed, e1, hs]
  | succ d ih =>
    intro i m s hi hm hs
    obtain ⟨m, rfl⟩ : ∃ m', m = m' + 1 := ⟨m - 1, by omega⟩
    have hb := sumC_b hg i
    have hgi := hg i
    have h3 := h1 i (by omega)
    show ∃ r, (if nI n ≤ nI i then _ else chk (inb (nI i) 4) (nm (s + σ.1 59 0 0 (nI i).toNatClampNeg) _)) = some r ∧ _
    rw [if_neg (nI_ge (by omega) (by omega)), chk_t (inb_n (by omega) (by decide)), nmx, nI_clamp (by omega), nI_1]
    exact ih (i + 1) m _ (by omega) (by omega) (by rw [add_i (by omega) (by omega), hs, h3]; rfl)
theorem lastsM {N n : Nat} {μ : St} {g : Nat → Int} (hn : n ≤ 4) (hn0 : n ≠ 0) (hg : ∀ k, -200000000 ≤ g k ∧ g k ≤ 200000000) (h1 : ∀ k, k < 4 → (μ.2 311 0 0 k).toInt = g k) (h2 : -2000000000 ≤ (μ.2 312 0 0 0).toInt ∧ (μ.2 312 0 0 0).toInt ≤ 2000000000) : ∀ (d i m : Nat) (s : Int64), i + d = n → d < m → s.toInt = sumC g i → ∃ r, fM_lasts_20 N m (nI n) s (nI i) μ = some r ∧ r.toInt = lastV n (μ.2 312 0 0 0).toInt (sumC g n) := by
  have em1 : (-1 : Int32).toInt = -1 := by decide
  intro d
  induction d with
  | zero =>
    intro i m s hi hm hs
    obtain ⟨m, rfl⟩ : ∃ m', m = m' + 1 := ⟨m - 1, by omega⟩
    obtain rfl : i = n := by omega
    have hb := sumC_b hg i
    show ∃ r, (if nI i ≤ nI i then _ else _) = some r ∧ _
    rw [if_pos (Int32.le_refl _)]
    obtain ⟨r, hr, er⟩ := fd64 (N := N) (n := i) (x := s) (σ := μ) (by omega) (by omega)
    rw [hr, bn1_e]
    unfold lastV
    have hq : s.toInt < 0 ↔ s.toInt / (i : Int) < 0 := by
      rcases (by omega : i = 1 ∨ i = 2 ∨ i = 3 ∨ i = 4) with rfl | rfl | rfl | rfl <;> omega
    have hq2 : -1000000000 ≤ s.toInt / (i : Int) := by
      rcases (by omega : i = 1 ∨ i = 2 ∨ i = 3 ∨ i = 4) with rfl | rfl | rfl | rfl <;> omega
    by_cases c : 0 ≤ (μ.2 312 0 0 0).toInt
    · rw [if_pos ((cmp0 _).2.2.mpr c), if_neg (show ¬ (μ.2 312 0 0 0).toInt < 0 by omega)]
      by_cases c2 : s.toInt < 0
      · rw [if_pos ((cmp0 _).2.1.mpr (by rw [er]; exact hq.mp c2)), if_pos ⟨by omega, hn0⟩]
        have en : (-r).toInt = -(s.toInt / i) := by
          rw [Int64.toInt_neg, er]
          exact Int.bmod_eq_of_le (by omega) (by have := hq.mp c2; omega)
        have := hq.mp c2
        rw [chk_t (by rw [fa_eq64, en]; show ¬ (-(s.toInt / (i : Int)) = 0); omega)]
        refine ⟨_, rfl, ?_⟩
        have e1 : (1 : Int32).toInt = 1 := by decide
        have h5 : 0 ≤ (μ.2 312 0 0 0).toInt / (-(s.toInt / i)) := Int.ediv_nonneg c (by omega)
        have h6 : (μ.2 312 0 0 0).toInt / (-(s.toInt / i)) ≤ (μ.2 312 0 0 0).toInt := Int.ediv_le_self _ c
        have ed : (μ.2 312 0 0 0 / -r).toInt = (μ.2 312 0 0 0).toInt / (-(s.toInt / i)) := by
          rw [Int64.toInt_div, en, Int.tdiv_eq_ediv_of_nonneg c]
          exact Int.bmod_eq_of_le (by omega) (by omega)
        have ed2 : (μ.2 312 0 0 0 / -r).toInt32.toInt = (μ.2 312 0 0 0).toInt / (-(s.toInt / i)) := by
          rw [Int64.toInt_toInt32, ed]
          exact Int.bmod_eq_of_le (by omega) (by omega)
        rw [add_i (by omega) (by omega), ed2, e1, hs]
      · rw [if_neg (fun z => c2 (by have := (cmp0 _).2.1.mp z; rw [er] at this; exact hq.mpr this)), if_neg (by rw [← hs]; omega)]
        exact ⟨_, rfl, em1⟩
    · rw [if_neg (fun z => c ((cmp0 _).2.2.mp z)), if_pos (by omega)]
      exact ⟨_, rfl, Int32.toInt_zero⟩
  | succ d ih =>
    intro i m s hi hm hs
    obtain ⟨m, rfl⟩ : ∃ m', m = m' + 1 := ⟨m - 1, by omega⟩
    have hb := sumC_b hg i
    have hgi := hg i
    have h3 := h1 i (by omega)
    show ∃ r, (if nI n ≤ nI i then _ else chk (inb (nI i) 4) (nm (s + μ.2 311 0 0 (nI i).toNatClampNeg) _)) = some r ∧ _
    rw [if_neg (nI_ge (by omega) (by omega)), chk_t (inb_n (by omega) (by decide)), nmx, nI_clamp (by omega), nI_1]
    exact ih (i + 1) m _ (by omega) (by omega) (by
      rw [Int64.toInt_add, hs, h3]
      exact Int.bmod_eq_of_le (by omega) (by omega))
theorem e_lasts {N w : Nat} {σ μ : St} {g : Nat → Int} (hN : 10 ≤ N) (hw1 : σ.1 60 0 0 0 = nI w) (hw2 : μ.1 315 0 0 0 = nI w) (hw : w < 1000) (hg : ∀ k, -200000000 ≤ g k ∧ g k ≤ 200000000)
    (h1 : ∀ k, k < 4 → (σ.1 59 0 0 k).toInt = g k) (h2 : ∀ k, k < 4 → (μ.2 311 0 0 k).toInt = g k) (h3 : (σ.1 56 0 0 0).toInt = (μ.2 312 0 0 0).toInt) (h4 : -2000000000 ≤ (μ.2 312 0 0 0).toInt ∧ (μ.2 312 0 0 0).toInt ≤ 2000000000) (h5 : w = 0 → 0 ≤ (μ.2 312 0 0 0).toInt) :
    ∃ r, fLand_lasts N σ = some r ∧ fM_lasts N μ = some r := by
  have ew := nI_toInt (n := w) (by omega)
  have e4 : (4 : Int32).toInt = 4 := by decide
  obtain ⟨n, hn, hn2, hx, hm⟩ : ∃ n, n ≤ 4 ∧ (n = 0 ↔ w = 0) ∧ (if (4 : Int32) < nI w then (4 : Int32) else nI w) = nI n ∧ (if nI w < 4 then nI w else (4 : Int32)) = nI n := by
    by_cases c : w < 4
    · exact ⟨w, by omega, Iff.rfl, by rw [if_neg (by rw [fa_lt, ew, e4]; omega)], by rw [if_pos (by rw [fa_lt, ew, e4]; omega)]⟩
    · by_cases c2 : w = 4
      · subst c2
        exact ⟨4, by omega, by omega, rfl, rfl⟩
      · exact ⟨4, by omega, by omega, by rw [if_pos (by rw [fa_lt, ew, e4]; omega)]; rfl, by rw [if_neg (by rw [fa_lt, ew, e4]; omega)]; rfl⟩
  unfold fLand_lasts fM_lasts
  rw [mn_e, mn_e, bn1_e, bn1_e, hw1, hw2, hx, hm]
  by_cases c : 0 ≤ (μ.2 312 0 0 0).toInt
  · rw [if_pos (by rw [fa_le, h3, Int32.toInt_zero]; exact c)]
    obtain ⟨r, hr, er⟩ := lastsX (N := N) (σ := σ) hn hg h1 (by omega) (by omega) n 0 N 0 (by omega) (by omega) rfl
    refine ⟨r, hr, ?_⟩
    by_cases c0 : n = 0
    · rw [if_pos (by rw [c0]; rfl)]
      have : r.toInt = -1 := by
        rw [er]
        unfold lastV
        rw [if_neg (by omega), if_neg (by omega)]
      rw [(fa_eq r (-1)).mpr this]
    · rw [if_neg (nI_ne0 (by omega) (by omega))]
      obtain ⟨r2, hr2, er2⟩ := lastsM (N := N) (μ := μ) hn c0 hg h2 h4 n 0 N 0 (by omega) (by omega) rfl
      rw [h3, ← er2] at er
      rw [(fa_eq r r2).mpr er]
      exact hr2
  · rw [if_neg (by rw [fa_le, h3, Int32.toInt_zero]; exact c)]
    have c0 : n ≠ 0 := fun z => c (h5 (hn2.mp z))
    rw [if_neg (nI_ne0 (by omega) (by omega))]
    obtain ⟨r2, hr2, er2⟩ := lastsM (N := N) (μ := μ) hn c0 hg h2 h4 n 0 N 0 (by omega) (by omega) rfl
    refine ⟨0, rfl, ?_⟩
    have : r2.toInt = 0 := by
      rw [er2]
      unfold lastV
      rw [if_pos (by omega)]
    exact hr2.trans (congrArg some ((fa_eq r2 0).mpr this))
