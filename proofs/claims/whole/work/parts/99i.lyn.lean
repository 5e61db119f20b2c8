/-! a day's kind and pay, in the reference -/
theorem barred_loop {N p d nb : Nat} {μ : St} {s : Lfe} (hB : RfB p d μ s nb) (hd : d < 936) (hn : μ.1 269 0 0 0 = nI d) : ∀ (e i m : Nat) (x : Int32), i + e = nb → e < m → (x = 0 ∨ x = 1) → (x = 1 ↔ ∃ b, b < i ∧ μ.1 301 0 0 b = nI p ∧ (d : Int) ≤ (μ.1 303 0 0 b).toInt) → ∃ r, fM_isBarred_4 N m (nI p) x (nI i) μ = some r ∧ (r = 0 ∨ r = 1) ∧ (r = 1 ↔ ∃ b, b < nb ∧ μ.1 301 0 0 b = nI p ∧ (d : Int) ≤ (μ.1 303 0 0 b).toInt) := by
  have hnb := hB.bd
  have hd3 : (nI d).toInt = d := nI_toInt (by omega)
  intro e
  induction e with
  | zero =>
    intro i m x h1 h2 h3 h4
    obtain ⟨m, rfl⟩ : ∃ q, m = q + 1 := ⟨m - 1, by omega⟩
    obtain rfl : i = nb := by omega
    refine ⟨x, ?_, h3, h4⟩
    show (if μ.1 287 0 0 0 ≤ nI i then some (x &&& 1) else _) = some x
    rw [hB.nb, if_pos (Int32.le_refl _)]
    rcases h3 with q | q <;> rw [q] <;> rfl
  | succ e ih =>
    intro i m x h1 h2 h3 h4
    obtain ⟨m, rfl⟩ : ∃ q, m = q + 1 := ⟨m - 1, by omega⟩
    have go : ∀ y : Int32, (y = 0 ∨ y = 1) → (y = 1 ↔ ∃ b, b < i + 1 ∧ μ.1 301 0 0 b = nI p ∧ (d : Int) ≤ (μ.1 303 0 0 b).toInt) → fM_isBarred_4 N (m + 1) (nI p) x (nI i) μ = fM_isBarred_4 N m (nI p) y (nI (i + 1)) μ → ∃ r, fM_isBarred_4 N (m + 1) (nI p) x (nI i) μ = some r ∧ (r = 0 ∨ r = 1) ∧ (r = 1 ↔ ∃ b, b < nb ∧ μ.1 301 0 0 b = nI p ∧ (d : Int) ≤ (μ.1 303 0 0 b).toInt) := fun y y1 y2 y3 => by
      rw [y3]
      exact ih (i + 1) m y (by omega) (by omega) y1 y2
    have e0 : fM_isBarred_4 N (m + 1) (nI p) x (nI i) μ = if x = 0 then (if μ.1 301 0 0 i = nI p then (if nI d < μ.1 302 0 0 i then fM_isBarred_4 N m (nI p) 0 (nI (i + 1)) μ else if μ.1 303 0 0 i < nI d then fM_isBarred_4 N m (nI p) 0 (nI (i + 1)) μ else fM_isBarred_4 N m (nI p) 1 (nI (i + 1)) μ) else fM_isBarred_4 N m (nI p) 0 (nI (i + 1)) μ) else fM_isBarred_4 N m (nI p) 1 (nI (i + 1)) μ := by
      show (if μ.1 287 0 0 0 ≤ nI i then _ else if x = 0 then chk (inb (nI i) 160) (if μ.1 301 0 0 (nI i).toNatClampNeg = nI p then (if μ.1 269 0 0 0 < μ.1 302 0 0 (nI i).toNatClampNeg then fM_isBarred_4 N m (nI p) 0 (nI i + 1) μ else if μ.1 303 0 0 (nI i).toNatClampNeg < μ.1 269 0 0 0 then fM_isBarred_4 N m (nI p) 0 (nI i + 1) μ else fM_isBarred_4 N m (nI p) 1 (nI i + 1) μ) else fM_isBarred_4 N m (nI p) 0 (nI i + 1) μ) else fM_isBarred_4 N m (nI p) 1 (nI i + 1) μ) = _
      rw [hB.nb, if_neg (nI_ge (by omega) (by omega)), chk_t (inb_n (by omega) (by decide)), nI_clamp (by omega), hn, nI_1]
    have old : ∀ y : Int32, (y = 1 ↔ ∃ b, b < i ∧ μ.1 301 0 0 b = nI p ∧ (d : Int) ≤ (μ.1 303 0 0 b).toInt) → ¬ (μ.1 301 0 0 i = nI p ∧ (d : Int) ≤ (μ.1 303 0 0 i).toInt) → (y = 1 ↔ ∃ b, b < i + 1 ∧ μ.1 301 0 0 b = nI p ∧ (d : Int) ≤ (μ.1 303 0 0 b).toInt) := fun y y1 y2 => by
      rw [y1]
      constructor
      · rintro ⟨b, b1, b2⟩
        exact ⟨b, by omega, b2⟩
      · rintro ⟨b, b1, b2⟩
        by_cases z : b = i
        · exact absurd (by rw [← z]; exact b2) y2
        · exact ⟨b, by omega, b2⟩
    rcases h3 with q | q
    · rw [q] at h4
      rw [if_pos q] at e0
      by_cases c1 : μ.1 301 0 0 i = nI p
      · rw [if_pos c1] at e0
        have hf := hB.fr i (by omega)
        rw [if_neg (show ¬ nI d < μ.1 302 0 0 i by rw [Int32.lt_iff_toInt_lt, hd3]; omega)] at e0
        by_cases c2 : μ.1 303 0 0 i < nI d
        · rw [if_pos c2] at e0
          rw [Int32.lt_iff_toInt_lt, hd3] at c2
          exact go 0 (Or.inl rfl) (old 0 h4 (fun z => by have := z.2; omega)) e0
        · rw [if_neg c2] at e0
          rw [Int32.lt_iff_toInt_lt, hd3] at c2
          exact go 1 (Or.inr rfl) ⟨fun _ => ⟨i, by omega, c1, by omega⟩, fun _ => rfl⟩ e0
      · rw [if_neg c1] at e0
        exact go 0 (Or.inl rfl) (old 0 h4 (fun z => c1 z.1)) e0
    · rw [if_neg (by rw [q]; decide)] at e0
      rw [q] at h4
      obtain ⟨b, b1, b2⟩ := h4.mp rfl
      exact go 1 (Or.inr rfl) ⟨fun _ => ⟨b, by omega, b2⟩, fun _ => rfl⟩ e0
theorem barred_M {N p d nb : Nat} {μ : St} {s : Lfe} (hN : 200 ≤ N) (hB : RfB p d μ s nb) (hd : d < 936) (hn : μ.1 269 0 0 0 = nI d) : fM_isBarred N (nI p) μ = some (if s 90 0 < nI d then 0 else 1) := by
  have hnb := hB.bd
  obtain ⟨r, r1, r2, r3⟩ := barred_loop (N := N) hB hd hn nb 0 N 0 (by omega) (by omega) (Or.inl rfl) ⟨fun q => absurd q (by decide), fun ⟨b, b1, _⟩ => by omega⟩
  unfold fM_isBarred
  rw [show fM_isBarred_4 N N (nI p) 0 0 μ = some r from r1]
  rw [hB.eq d (Nat.le_refl _) hd] at r3
  have hd3 : (nI d).toInt = d := nI_toInt (by omega)
  by_cases c : s 90 0 < nI d
  · rw [if_pos c]
    rw [Int32.lt_iff_toInt_lt, hd3] at c
    rcases r2 with q | q
    · rw [q]
    · have := r3.mp q
      omega
  · rw [if_neg c]
    rw [Int32.lt_iff_toInt_lt, hd3] at c
    rw [r3.mpr (by omega)]
theorem lim0 (x : Int64) : lim x = 0 ↔ lg_cmp x 0 ≤ 0 := by
  obtain ⟨n, h1, h2, h3, h4⟩ := lim_n x
  have hc : (lg_cmp x 0 ≤ 0) ↔ ¬ 0 < x := by
    have := cmp_p x 0
    rw [← Int32.not_lt, this]
  have hx : (0 < (if x < 9999 then x else 9999)) ↔ 0 < x := by
    by_cases c : x < 9999
    · rw [if_pos c]
    · rw [if_neg c]
      constructor
      · intro _
        rw [Int64.lt_iff_toInt_lt] at c ⊢
        rw [show (9999 : Int64).toInt = 9999 by decide] at c
        rw [Int64.toInt_zero]
        omega
      · intro _
        decide
  rw [hc, h2, ← hx, h3]
  constructor
  · intro q
    have := (nI_eq (a := n) (b := 0) (by omega) (by decide)).mp q
    omega
  · intro q
    have : n = 0 := by omega
    rw [this]
    rfl
