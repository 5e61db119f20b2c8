/-! appeals -/
def knB (μ : St) (e : Nat) (t : Int) : Bool := decide ((μ.1 233 0 0 e).toInt ≤ t) && (decide ((μ.1 234 0 0 e).toInt = -1) || decide (t < (μ.1 234 0 0 e).toInt))
theorem known_M {N e : Nat} {μ : St} (he : e < 160) (t : Int32) : fM_isKnown N (nI e) t μ = some (if knB μ e t.toInt = true then 1 else 0) := by
  have ee := nI_toInt (n := e) (by omega)
  have ce := nI_clamp (n := e) (by omega)
  unfold fM_isKnown fM_isKnown_30 knB
  rw [chk_t (inb_n he (by decide)), ce]
  simp only [fa_lt, fa_le, fa_eq, Int32.reduceToInt, Bool.and_eq_true, Bool.or_eq_true, decide_eq_true_eq]
  ((repeat' split) <;> first | rfl | (exfalso; omega))
theorem known_X {N : Nat} {σ μ : St} (hE : Eq1 σ μ) (x t : Int32) : fEvents_isKnown N x t σ = fM_isKnown N x t μ := by
  unfold fEvents_isKnown fM_isKnown fEvents_isKnown_30 fM_isKnown_30
  have h1 : ∀ i, σ.1 41 0 0 i = μ.1 233 0 0 i := hE (41, 233) (by decide)
  have h2 : ∀ i, σ.1 42 0 0 i = μ.1 234 0 0 i := hE (42, 234) (by decide)
  simp only [h1, h2]
theorem hasCase_X {N C : Nat} {σ : St} {x : Int32} (h1 : σ.1 36 0 0 0 = nI C) (hC : C ≤ 30) : ∀ (d i n : Nat), i + d = C → d < n → fCourts_hasCaseOf_2 N n x (nI i) σ = some (if (List.range' i d).any (fun q => decide (σ.1 31 0 0 q = x)) = true then 1 else 0) := by
  intro d
  induction d with
  | zero =>
    intro i n hi hn
    obtain ⟨n, rfl⟩ : ∃ m, n = m + 1 := ⟨n - 1, by omega⟩
    show (if σ.1 36 0 0 0 ≤ nI i then _ else _) = _
    rw [h1, if_pos (nI_le (by omega) (by omega))]
    rfl
  | succ d ih =>
    intro i n hi hn
    obtain ⟨n, rfl⟩ : ∃ m, n = m + 1 := ⟨n - 1, by omega⟩
    show (if σ.1 36 0 0 0 ≤ nI i then _ else chk (inb (nI i) 30) (if σ.1 31 0 0 (nI i).toNatClampNeg = x then some 1 else fCourts_hasCaseOf_2 N n x (nI i + 1) σ)) = _
    rw [h1, if_neg (nI_ge (by omega) (by omega)), chk_t (inb_n (by omega) (by decide)), nI_clamp (by omega), nI_1, ih (i + 1) n (by omega) (by omega), List.range'_succ, List.any_cons]
    by_cases h : σ.1 31 0 0 i = x
    · rw [if_pos h, decide_eq_true h, Bool.true_or]
      rfl
    · rw [if_neg h, decide_eq_false h, Bool.false_or]
theorem inCase_M {N C : Nat} {μ : St} {x : Int32} (h1 : μ.1 338 0 0 0 = nI C) (hC : C ≤ 30) : ∀ (d i n : Nat) (b : Bool), i + d = C → d < n → fM_isInCase_4 N n x (if b = true then 1 else 0) (nI i) μ = some (if (b || (List.range' i d).any (fun q => decide (μ.1 342 0 0 q = x))) = true then 1 else 0) := by
  intro d
  induction d with
  | zero =>
    intro i n b hi hn
    obtain ⟨n, rfl⟩ : ∃ m, n = m + 1 := ⟨n - 1, by omega⟩
    show (if μ.1 338 0 0 0 ≤ nI i then some ((if b = true then (1 : Int32) else 0) &&& 1) else _) = _
    rw [h1, if_pos (nI_le (by omega) (by omega))]
    cases b <;> rfl
  | succ d ih =>
    intro i n b hi hn
    obtain ⟨n, rfl⟩ : ∃ m, n = m + 1 := ⟨n - 1, by omega⟩
    have s : ∀ c : Bool, fM_isInCase_31 N (fM_isInCase_4 N n) x (nI i) (if c = true then 1 else 0) μ = some (if (c || (List.range' (i + 1) d).any (fun q => decide (μ.1 342 0 0 q = x))) = true then 1 else 0) := by
      intro c
      unfold fM_isInCase_31
      rw [nI_1, ih (i + 1) n c (by omega) (by omega)]
    show (if μ.1 338 0 0 0 ≤ nI i then _ else (if (if b = true then (1 : Int32) else 0) = 0 then chk (inb (nI i) 30) (if μ.1 342 0 0 (nI i).toNatClampNeg = x then fM_isInCase_31 N (fM_isInCase_4 N n) x (nI i) 1 μ else fM_isInCase_31 N (fM_isInCase_4 N n) x (nI i) 0 μ) else fM_isInCase_31 N (fM_isInCase_4 N n) x (nI i) 1 μ)) = _
    rw [h1, if_neg (nI_ge (by omega) (by omega)), List.range'_succ, List.any_cons]
    have s1 := s true
    have s0 := s false
    rw [if_pos rfl, Bool.true_or] at s1
    rw [if_neg (by decide), Bool.false_or] at s0
    cases b with
    | true =>
      rw [if_neg (by decide), s1]
      rfl
    | false =>
      rw [if_pos (by decide), chk_t (inb_n (by omega) (by decide)), nI_clamp (by omega)]
      by_cases h : μ.1 342 0 0 i = x
      · rw [if_pos h, s1, decide_eq_true h]
        rfl
      · rw [if_neg h, s0, decide_eq_false h]
        rfl
theorem next_eq {N : Nat} {σ μ : St} (hE : Eq1 σ μ) : ∀ (n : Nat) (a b c : Int32), fCourts_nextOf_2 N n a b c σ = fM_nextJudge_2 N n a b c μ := by
  have h1 : σ.1 29 0 0 0 = μ.1 337 0 0 0 := hE (29, 337) (by decide) 0
  have h2 : ∀ i, σ.1 30 0 0 i = μ.1 341 0 0 i := hE (30, 341) (by decide)
  have h3 : ∀ i, σ.1 27 0 0 i = μ.1 339 0 0 i := hE (27, 339) (by decide)
  have h4 : ∀ i, σ.1 28 0 0 i = μ.1 340 0 0 i := hE (28, 340) (by decide)
  intro n
  induction n with
  | zero => intro a b c; rfl
  | succ n ih =>
    intro a b c
    show (if σ.1 29 0 0 0 < c then _ else _) = (if μ.1 337 0 0 0 < c then _ else _)
    simp only [h1, h2, h3, h4, ih]
theorem irem_n {a b : Nat} (ha : a < 2 ^ 31) (h0 : 0 < b) (hb : b < 2 ^ 31) : irem (nI a) (nI b) = nI (a % b) := pk_rem ha h0 hb
theorem next_tot {N J l : Nat} {μ : St} (hR : Rng μ) (h1 : μ.1 337 0 0 0 = nI J) (hJ : J ≤ 18) (hl : l < 3) (b : Int32) : ∀ (d k n : Nat), k + d = J + 1 → 1 ≤ k → d < n → ∃ r, fM_nextJudge_2 N n (nI l) b (nI k) μ = some r ∧ (r = -1 ∨ ∃ j : Nat, j < J ∧ r = nI j) := by
  intro d
  induction d with
  | zero =>
    intro k n hk hk1 hn
    obtain ⟨n, rfl⟩ : ∃ m, n = m + 1 := ⟨n - 1, by omega⟩
    refine ⟨-1, ?_, Or.inl rfl⟩
    show (if μ.1 337 0 0 0 < nI k then _ else _) = _
    rw [h1, if_pos (nI_lt (by omega) (by omega))]
  | succ d ih =>
    intro k n hk hk1 hn
    obtain ⟨n, rfl⟩ : ∃ m, n = m + 1 := ⟨n - 1, by omega⟩
    obtain ⟨r, hr, hr2⟩ := ih (k + 1) n (by omega) (by omega) (by omega)
    have hl3 := hR (341, -1, 17) (by decide) l
    dsimp only at hl3
    obtain ⟨q, hq, hq2⟩ : ∃ q : Nat, q < 40 ∧ μ.1 341 0 0 l + nI k = nI q := by
      refine ⟨((μ.1 341 0 0 l).toInt + k).toNat, by omega, eq_i ?_ (by omega)⟩
      rw [add_i (by rw [nI_toInt (by omega)]; omega) (by rw [nI_toInt (by omega)]; omega), nI_toInt (by omega)]
      omega
    have hm : q % J < J := Nat.mod_lt _ (by omega)
    show ∃ r, (if μ.1 337 0 0 0 < nI k then _ else chk (inb (nI l) 3) (chk (¬ μ.1 337 0 0 0 = 0) (nm (irem (μ.1 341 0 0 (nI l).toNatClampNeg + nI k) (μ.1 337 0 0 0)) _))) = some r ∧ _
    rw [if_neg (by rw [h1]; exact nI_nlt (by omega) (by omega)), chk_t (inb_n hl (by decide)), chk_t (by rw [h1]; exact nI_ne0 (by omega) (by omega)), nmx, nI_clamp (by omega), h1, hq2, irem_n (by omega) (by omega) (by omega), chk_t (inb_n (by omega) (by decide)), nI_1, hr]
    by_cases g1 : μ.1 339 0 0 (nI (q % J)).toNatClampNeg = nI l
    · rw [if_pos g1]
      by_cases g2 : μ.1 340 0 0 (nI (q % J)).toNatClampNeg = b
      · rw [if_pos g2]
        exact ⟨r, rfl, hr2⟩
      · rw [if_neg g2]
        exact ⟨_, rfl, Or.inr ⟨_, hm, rfl⟩⟩
    · rw [if_neg g1]
      exact ⟨r, rfl, hr2⟩
