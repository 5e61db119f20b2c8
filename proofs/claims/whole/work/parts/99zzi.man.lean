/-! greatest sums of pairs: what they are; what proves them -/
def mxN (f : Nat → Nat) : Nat → Nat
  | 0 => 0
  | n + 1 => max (mxN f n) (f n)
theorem mxN_le {f : Nat → Nat} {X : Nat} : ∀ n, (∀ v, v < n → f v ≤ X) → mxN f n ≤ X
  | 0, _ => Nat.zero_le _
  | n + 1, h => Nat.max_le.mpr ⟨mxN_le n fun v hv => h v (by omega), h n (by omega)⟩
theorem le_mxN {f : Nat → Nat} {v : Nat} : ∀ n, v < n → f v ≤ mxN f n
  | 0, h => absurd h (by omega)
  | n + 1, h => by
    show f v ≤ max (mxN f n) (f n)
    by_cases c : v = n
    · rw [c]; exact Nat.le_max_right _ _
    · exact Nat.le_trans (le_mxN n (by omega)) (Nat.le_max_left _ _)
theorem mxN_ex {f : Nat → Nat} : ∀ n, mxN f n = 0 ∨ ∃ v, v < n ∧ mxN f n = f v
  | 0 => Or.inl rfl
  | n + 1 => by
    show max (mxN f n) (f n) = 0 ∨ ∃ v, v < n + 1 ∧ max (mxN f n) (f n) = f v
    rcases Nat.le_total (mxN f n) (f n) with c | c
    · rw [Nat.max_eq_right c]; exact Or.inr ⟨n, by omega, rfl⟩
    · rw [Nat.max_eq_left c]
      rcases mxN_ex n with h | ⟨v, h1, h2⟩
      · exact Or.inl h
      · exact Or.inr ⟨v, by omega, h2⟩
def insU (U : Nat → Bool) (v : Nat) : Nat → Bool := fun w => decide (w = v) || U w
theorem insU_s (U : Nat → Bool) (v : Nat) : insU U v v = true := by simp [insU]
theorem insU_o {U : Nat → Bool} {v w : Nat} (h : w ≠ v) : insU U v w = U w := by simp [insU, h]
/-- may v be given to q, besides those given away -/
abbrev mayG (g : Nat → Nat → Nat) (U : Nat → Bool) (q v : Nat) : Prop := U v = false ∧ g q v ≠ 0
def bW (g : Nat → Nat → Nat) (V : Nat) : Nat → Nat → (Nat → Bool) → Nat
  | 0, _, _ => 0
  | k + 1, p, U => max (bW g V k (p + 1) U) (mxN (fun v => if mayG g U p v then g p v + bW g V k (p + 1) (insU U v) else 0) V)
theorem bW_skip {g : Nat → Nat → Nat} {V k p : Nat} {U : Nat → Bool} : bW g V k (p + 1) U ≤ bW g V (k + 1) p U := Nat.le_max_left _ _
theorem bW_take {g : Nat → Nat → Nat} {V k p v : Nat} {U : Nat → Bool} (hv : v < V) (h : mayG g U p v) : g p v + bW g V k (p + 1) (insU U v) ≤ bW g V (k + 1) p U := by
  have := le_mxN (f := fun v => if mayG g U p v then g p v + bW g V k (p + 1) (insU U v) else 0) V hv
  rw [if_pos h] at this
  exact Nat.le_trans this (Nat.le_max_right _ _)
theorem bW_le {g : Nat → Nat → Nat} {V k p X : Nat} {U : Nat → Bool} (h1 : bW g V k (p + 1) U ≤ X) (h2 : ∀ v, v < V → mayG g U p v → g p v + bW g V k (p + 1) (insU U v) ≤ X) : bW g V (k + 1) p U ≤ X := by
  refine Nat.max_le.mpr ⟨h1, mxN_le V fun v hv => ?_⟩
  by_cases c : mayG g U p v
  · rw [if_pos c]; exact h2 v hv c
  · rw [if_neg c]; exact Nat.zero_le _
theorem bW_ex {g : Nat → Nat → Nat} {V k p : Nat} {U : Nat → Bool} : bW g V (k + 1) p U = bW g V k (p + 1) U ∨ ∃ v, v < V ∧ mayG g U p v ∧ bW g V (k + 1) p U = g p v + bW g V k (p + 1) (insU U v) := by
  show max _ _ = _ ∨ ∃ v, v < V ∧ mayG g U p v ∧ max _ _ = _
  rcases Nat.le_total (bW g V k (p + 1) U) (mxN (fun v => if mayG g U p v then g p v + bW g V k (p + 1) (insU U v) else 0) V) with c | c
  · rw [Nat.max_eq_right c]
    rcases mxN_ex (f := fun v => if mayG g U p v then g p v + bW g V k (p + 1) (insU U v) else 0) V with h | ⟨v, h1, h2⟩
    · exact Or.inl (by omega)
    · by_cases z : mayG g U p v
      · rw [if_pos z] at h2
        exact Or.inr ⟨v, h1, z, h2⟩
      · rw [if_neg z] at h2
        exact Or.inl (by omega)
  · exact Or.inl (Nat.max_eq_left c)
theorem bW_cg {g g' : Nat → Nat → Nat} {V : Nat} : ∀ (k p : Nat) (U : Nat → Bool), (∀ q v, p ≤ q → q < p + k → v < V → g q v = g' q v) → bW g V k p U = bW g' V k p U
  | 0, _, _, _ => rfl
  | k + 1, p, U, h => by
    have ih := fun U => bW_cg (g := g) (g' := g') (V := V) k (p + 1) U (fun q v a b c => h q v (by omega) (by omega) c)
    have e : ∀ v, v < V → g p v = g' p v := fun v hv => h p v (by omega) (by omega) hv
    refine Nat.le_antisymm (bW_le (by rw [ih]; exact bW_skip) fun v hv z => ?_) (bW_le (by rw [← ih]; exact bW_skip) fun v hv z => ?_)
    · rw [e v hv, ih]
      exact bW_take hv ⟨z.1, by rw [← e v hv]; exact z.2⟩
    · rw [← e v hv, ← ih]
      exact bW_take hv ⟨z.1, by rw [e v hv]; exact z.2⟩
def sR (f : Nat → Int) : Nat → Nat → Int
  | 0, _ => 0
  | k + 1, p => f p + sR f k (p + 1)
def sY (y : Nat → Int) (U : Nat → Bool) : Nat → Int
  | 0 => 0
  | n + 1 => sY y U n + (if U n then 0 else y n)
theorem sR_cg {f f' : Nat → Int} : ∀ k p, (∀ q, p ≤ q → q < p + k → f' q = f q) → sR f' k p = sR f k p
  | 0, _, _ => rfl
  | k + 1, p, h => by
    show f' p + sR f' k (p + 1) = f p + sR f k (p + 1)
    rw [h p (by omega) (by omega), sR_cg k (p + 1) fun q a b => h q (by omega) (by omega)]
theorem sR_upd {f f' : Nat → Int} {j : Nat} : ∀ k p, (∀ q, p ≤ q → q < p + k → q ≠ j → f' q = f q) → p ≤ j → j < p + k → sR f' k p = sR f k p + (f' j - f j)
  | 0, _, _, h1, h2 => absurd h2 (by omega)
  | k + 1, p, h, h1, h2 => by
    show f' p + sR f' k (p + 1) = f p + sR f k (p + 1) + (f' j - f j)
    by_cases c : j = p
    · subst c
      rw [sR_cg k (j + 1) fun q a b => h q (by omega) (by omega) (by omega)]
      omega
    · rw [h p (by omega) (by omega) (fun e => c e.symm), sR_upd k (p + 1) (fun q a b => h q (by omega) (by omega)) (by omega) (by omega)]
      omega
theorem sR_add {f g : Nat → Int} {l : Int} {u : Nat → Int} (h : ∀ q, f q = g q + l * u q) : ∀ k p, sR f k p = sR g k p + l * sR u k p
  | 0, _ => by simp [sR]
  | k + 1, p => by
    show f p + sR f k (p + 1) = g p + sR g k (p + 1) + l * (u p + sR u k (p + 1))
    rw [h p, sR_add h k (p + 1), Int.mul_add]
    omega
theorem sY_0 {y : Nat → Int} {U : Nat → Bool} : ∀ n, (∀ v, v < n → U v = false → y v = 0) → sY y U n = 0
  | 0, _ => rfl
  | n + 1, h => by
    show sY y U n + _ = 0
    rw [sY_0 n fun v hv => h v (by omega)]
    cases c : U n with
    | true => simp
    | false => simp [h n (by omega) c]
theorem sY_p {y : Nat → Int} {U : Nat → Bool} : ∀ n, (∀ v, v < n → U v = false → 0 ≤ y v) → 0 ≤ sY y U n
  | 0, _ => Int.le_refl _
  | n + 1, h => by
    show 0 ≤ sY y U n + _
    have h1 := sY_p n fun v hv => h v (by omega)
    cases c : U n with
    | true => simpa using h1
    | false =>
      have := h n (by omega) c
      simp
      omega
theorem sY_cg {y : Nat → Int} {U U' : Nat → Bool} : ∀ n, (∀ v, v < n → U' v = U v) → sY y U' n = sY y U n
  | 0, _ => rfl
  | n + 1, h => by
    show sY y U' n + _ = sY y U n + _
    rw [sY_cg n fun v hv => h v (by omega), h n (by omega)]
theorem sY_ins {y : Nat → Int} {U : Nat → Bool} {v : Nat} (hU : U v = false) : ∀ n, v < n → sY y U n = y v + sY y (insU U v) n
  | 0, h => absurd h (by omega)
  | n + 1, h => by
    show sY y U n + _ = y v + (sY y (insU U v) n + _)
    by_cases c : v = n
    · subst c
      rw [sY_cg (U := U) (U' := insU U v) v fun w hw => insU_o (U := U) (v := v) (by omega), hU, insU_s]
      simp
      omega
    · rw [sY_ins hU n (by omega), insU_o (U := U) (v := v) (by omega : n ≠ v)]
      omega
/-- prices that are enough -/
theorem bW_ub {g : Nat → Nat → Nat} {V : Nat} {x y : Nat → Int} : ∀ (k p : Nat) (U : Nat → Bool), (∀ q v, p ≤ q → q < p + k → v < V → mayG g U q v → (g q v : Int) ≤ x q + y v) → (∀ q, p ≤ q → q < p + k → 0 ≤ x q) → (∀ v, v < V → U v = false → 0 ≤ y v) → (bW g V k p U : Int) ≤ sR x k p + sY y U V
  | 0, p, U, _, _, h3 => by
    have : 0 ≤ sY y U V := sY_p V h3
    show ((0 : Nat) : Int) ≤ 0 + _
    omega
  | k + 1, p, U, h1, h2, h3 => by
    have x0 := h2 p (by omega) (by omega)
    have e : sR x (k + 1) p = x p + sR x k (p + 1) := rfl
    rcases bW_ex (g := g) (V := V) (k := k) (p := p) (U := U) with c | ⟨v, v1, v2, v3⟩
    · have ih := bW_ub k (p + 1) U (fun q v a b => h1 q v (by omega) (by omega)) (fun q a b => h2 q (by omega) (by omega)) h3
      rw [c, e]
      omega
    · have ih := bW_ub (g := g) (V := V) (x := x) (y := y) k (p + 1) (insU U v) (fun q w a b c d => by
        have : U w = false := by
          by_cases z : w = v
          · rw [z]; exact v2.1
          · rw [← insU_o (U := U) z]; exact d.1
        exact h1 q w (by omega) (by omega) c ⟨this, d.2⟩) (fun q a b => h2 q (by omega) (by omega)) (fun w hw d => by
        have : U w = false := by
          by_cases z : w = v
          · rw [z]; exact v2.1
          · rw [← insU_o (U := U) z]; exact d
        exact h3 w hw this)
      have hg := h1 p v (by omega) (by omega) v1 v2
      have hs := sY_ins (y := y) v2.1 V v1
      rw [v3, e]
      omega
/-- who gets what: what a row of pairs is worth -/
def wl (g : Nat → Nat → Nat) (V : Nat) (s : Nat → Nat) (l : Int) (q : Nat) : Int := if s q < V then (g q (s q) : Int) else l
theorem bW_lb {g : Nat → Nat → Nat} {V : Nat} {s : Nat → Nat} : ∀ (k p : Nat) (U : Nat → Bool), (∀ q, p ≤ q → q < p + k → s q < V → mayG g U q (s q)) → (∀ q r, p ≤ q → q < p + k → p ≤ r → r < p + k → s q < V → s q = s r → q = r) → sR (wl g V s 0) k p ≤ (bW g V k p U : Int)
  | 0, _, _, _, _ => Int.le_refl _
  | k + 1, p, U, h1, h2 => by
    show wl g V s 0 p + sR (wl g V s 0) k (p + 1) ≤ _
    by_cases c : s p < V
    · have m := h1 p (by omega) (by omega) c
      have ih := bW_lb (g := g) (V := V) (s := s) k (p + 1) (insU U (s p)) (fun q a b d => by
        have m2 := h1 q (by omega) (by omega) d
        refine ⟨?_, m2.2⟩
        rw [insU_o]
        · exact m2.1
        · intro e
          have := h2 q p (by omega) (by omega) (by omega) (by omega) d e
          omega) (fun q r a b c d => h2 q r (by omega) (by omega) (by omega) (by omega))
      have t := bW_take (g := g) (k := k) (U := U) c m
      have e : wl g V s 0 p = (g p (s p) : Int) := if_pos c
      rw [e]
      omega
    · have ih := bW_lb (g := g) (V := V) (s := s) k (p + 1) U (fun q a b => h1 q (by omega) (by omega)) (fun q r a b c d => h2 q r (by omega) (by omega) (by omega) (by omega))
      have t := bW_skip (g := g) (V := V) (k := k) (p := p) (U := U)
      have e : wl g V s 0 p = 0 := if_neg c
      rw [e]
      omega
/-- prices that those pairs just pay -/
theorem pay_eq {g : Nat → Nat → Nat} {V : Nat} {s : Nat → Nat} {x y : Nat → Int} {l : Int} : ∀ (k p : Nat) (U : Nat → Bool), (∀ q, p ≤ q → q < p + k → s q < V → U (s q) = false ∧ x q + y (s q) = (g q (s q) : Int)) → (∀ q r, p ≤ q → q < p + k → p ≤ r → r < p + k → s q < V → s q = s r → q = r) → (∀ q, p ≤ q → q < p + k → V ≤ s q → x q = l) → (∀ v, v < V → U v = false → (∀ q, p ≤ q → q < p + k → s q ≠ v) → y v = 0) → sR x k p + sY y U V = sR (wl g V s l) k p
  | 0, p, U, _, _, _, h4 => by
    show 0 + sY y U V = 0
    rw [sY_0 V fun v hv c => h4 v hv c fun q a b => absurd b (by omega)]
    rfl
  | k + 1, p, U, h1, h2, h3, h4 => by
    show x p + sR x k (p + 1) + sY y U V = wl g V s l p + sR (wl g V s l) k (p + 1)
    by_cases c : s p < V
    · obtain ⟨m1, m2⟩ := h1 p (by omega) (by omega) c
      have ih := pay_eq (g := g) (V := V) (s := s) (x := x) (y := y) (l := l) k (p + 1) (insU U (s p)) (fun q a b d => by
        have m := h1 q (by omega) (by omega) d
        refine ⟨?_, m.2⟩
        rw [insU_o]
        · exact m.1
        · intro e
          have := h2 q p (by omega) (by omega) (by omega) (by omega) d e
          omega) (fun q r a b c d => h2 q r (by omega) (by omega) (by omega) (by omega)) (fun q a b => h3 q (by omega) (by omega)) (fun v hv d z => by
        have n : v ≠ s p := fun e => by rw [e, insU_s] at d; exact absurd d (by decide)
        rw [insU_o n] at d
        refine h4 v hv d fun q a b => ?_
        by_cases e : q = p
        · rw [e]; exact fun w => n w.symm
        · exact z q (by omega) (by omega))
      have hs := sY_ins (y := y) m1 V c
      have e : wl g V s l p = (g p (s p) : Int) := if_pos c
      rw [e]
      omega
    · have ih := pay_eq (g := g) (V := V) (s := s) (x := x) (y := y) (l := l) k (p + 1) U (fun q a b => h1 q (by omega) (by omega)) (fun q r a b c d => h2 q r (by omega) (by omega) (by omega) (by omega)) (fun q a b => h3 q (by omega) (by omega)) (fun v hv d z => h4 v hv d fun q a b => by
        by_cases e : q = p
        · rw [e]; omega
        · exact z q (by omega) (by omega))
      have e : wl g V s l p = l := if_neg c
      have e2 := h3 p (by omega) (by omega) (by omega)
      rw [e]
      omega
theorem wl_add {g : Nat → Nat → Nat} {V : Nat} {s : Nat → Nat} {l : Int} (k p : Nat) : sR (wl g V s l) k p = sR (wl g V s 0) k p + l * sR (fun q => if s q < V then 0 else 1) k p := by
  refine sR_add (fun q => ?_) k p
  unfold wl
  by_cases c : s q < V
  · rw [if_pos c, if_pos c, if_pos c]; omega
  · rw [if_neg c, if_neg c, if_neg c]; omega
/-- more fell in than there is room -/
theorem inj_cnt {m : Nat} {f : Nat → Nat} : ∀ (n : Nat) (A C : Nat → Bool), (∀ i, i < n → A i = true → f i < m ∧ C (f i) = true) → (∀ i j, i < n → j < n → A i = true → A j = true → f i = f j → i = j) → cnt A n ≤ cnt C m
  | 0, _, _, _, _ => Nat.zero_le _
  | n + 1, A, C, h1, h2 => by
    show cnt A n + (if A n = true then 1 else 0) ≤ cnt C m
    by_cases c : A n = true
    · rw [if_pos c]
      obtain ⟨a1, a2⟩ := h1 n (by omega) c
      have e := cnt_add (p := fun w => C w && decide (w ≠ f n)) (q := C) (i := f n) (by simp) a2 (fun x z => by simp [z]) m a1
      have ih := inj_cnt (m := m) (f := f) n A (fun w => C w && decide (w ≠ f n)) (fun i a b => by
        obtain ⟨b1, b2⟩ := h1 i (by omega) b
        have : f i ≠ f n := fun e => by
          have := h2 i n (by omega) (by omega) b c e
          omega
        exact ⟨b1, by simp [b2, this]⟩) (fun i j a b => h2 i j (by omega) (by omega))
      omega
    · rw [if_neg c]
      exact inj_cnt n A C (fun i a => h1 i (by omega)) (fun i j a b => h2 i j (by omega) (by omega))
theorem cnt_all {p : Nat → Bool} : ∀ m, m ≤ cnt p m → ∀ x, x < m → p x = true
  | 0, _, x, h => absurd h (by omega)
  | m + 1, h, x, hx => by
    have h' : m + 1 ≤ cnt p m + (if p m = true then 1 else 0) := h
    have l := cnt_le p m
    by_cases c : p m = true
    · rw [if_pos c] at h'
      by_cases e : x = m
      · rw [e]; exact c
      · exact cnt_all m (by omega) x (by omega)
    · rw [if_neg c] at h'
      omega
