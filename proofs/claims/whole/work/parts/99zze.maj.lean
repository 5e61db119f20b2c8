/-! an act is tried: the reference adds up -/
def sv (b : Bool) (a : Nat) : Int := if b = true then (a : Int) else -(a : Int)
def xb (b : Bool) : Int32 := if b = true then 1 else -1
theorem sv_b (b : Bool) (a : Nat) : -(a : Int) ≤ sv b a ∧ sv b a ≤ (a : Int) := by
  unfold sv
  split <;> omega
theorem sv_add (b : Bool) (a c : Nat) : sv b (a + c) = sv b a + sv b c := by
  unfold sv
  split <;> omega
theorem sv_0 (b : Bool) : sv b 0 = 0 := by
  unfold sv
  split <;> rfl
theorem xb_mul {b : Bool} {y : Nat} (h : y ≤ 9999) : ((xb b).toInt64 * jN y).toInt = sv b y := by
  unfold xb sv
  rw [Int64.toInt_mul, jN_t (by omega)]
  cases b
  · rw [if_neg (by decide), if_neg (by decide), show ((-1 : Int32).toInt64).toInt = -1 by decide]
    exact (Int.bmod_eq_of_le (by omega) (by omega)).trans (by omega)
  · rw [if_pos rfl, if_pos rfl, show ((1 : Int32).toInt64).toInt = 1 by decide]
    exact (Int.bmod_eq_of_le (by omega) (by omega)).trans (by omega)
theorem xb_t (b : Bool) : (xb b).toInt = sv b 1 := by
  cases b <;> decide
abbrev sel (tr t : Nat) : Prop := t = tr ∨ t = 8
def AdS (b : Bool) (tr : Nat) (c : Nat → Nat → Int) (A : Nat → Nat) (ρ : St) : Prop := ∀ t, t < 9 → (ρ.2 348 0 0 t).toInt = c 0 t + (if sel tr t then sv b (A 0) else 0) ∧ (ρ.1 349 0 0 t).toInt = c 1 t + (if sel tr t then sv b (A 1) else 0) ∧ (ρ.1 350 0 0 t).toInt = c 2 t + (if sel tr t then sv b (A 2) else 0)
theorem add77 {N p i tr y e1 e2 : Nat} {b : Bool} {go2 : Int32 → Int32 → St → Option St} {go12 : Int32 → Int32 → Int32 → St → Option St} {c : Nat → Nat → Int} {A A' : Nat → Nat} {ρ : St} {x5 x0 : Int32} (hp : p < 20) (hi : i < 624) (htr : tr < 8) (h211 : ρ.1 211 0 0 p = nI tr) (hy : y ≤ 9999) (h308 : ρ.2 308 0 0 (624 * p + i) = jN y) (hc : ∀ j t, -300000000 ≤ c j t ∧ c j t ≤ 300000000) (hA : ∀ j, A j ≤ 6300000) (h : AdS b tr c A ρ) (a0 : A' 0 = A 0 + y) (a1 : A' 1 = A 1 + e1) (a2 : A' 2 = A 2 + e2) (he1 : e1 ≤ 1 ∧ x5.toInt = sv b e1) (he2 : e2 ≤ 1 ∧ x0.toInt = sv b e2) : ∃ ρ', fM_addUp_77 N go2 go12 (xb b) (nI p) (nI i) (nI (624 * p + i)) x5 x0 ρ = go12 (xb b) (nI p) (nI (i + 1)) ρ' ∧ (∀ f a b i, f ≠ 349 → f ≠ 350 → ρ'.1 f a b i = ρ.1 f a b i) ∧ (∀ f a b i, f ≠ 348 → ρ'.2 f a b i = ρ.2 f a b i) ∧ AdS b tr c A' ρ' := by
  obtain ⟨X, hX⟩ : ∃ X, X = (xb b).toInt64 * jN y := ⟨_, rfl⟩
  have hXt : X.toInt = sv b y := by rw [hX]; exact xb_mul hy
  obtain ⟨ρ1, hρ1⟩ : ∃ ρ1, ρ1 = sJ (sJ ρ 348 0 0 tr (ρ.2 348 0 0 tr + X)) 348 0 0 8 (ρ.2 348 0 0 8 + X) := ⟨_, rfl⟩
  obtain ⟨ρ2, hρ2⟩ : ∃ ρ2, ρ2 = sI (sI ρ1 349 0 0 tr (ρ.1 349 0 0 tr + x5)) 349 0 0 8 (ρ.1 349 0 0 8 + x5) := ⟨_, rfl⟩
  obtain ⟨ρ3, hρ3⟩ : ∃ ρ3, ρ3 = sI (sI ρ2 350 0 0 tr (ρ.1 350 0 0 tr + x0)) 350 0 0 8 (ρ.1 350 0 0 8 + x0) := ⟨_, rfl⟩
  have l1 : ρ1.1 = ρ.1 := by rw [hρ1]; rfl
  have l2 : ∀ f a b i, f ≠ 349 → ρ2.1 f a b i = ρ.1 f a b i := fun f a b i q => by rw [hρ2, sI_o q, sI_o q, l1]
  have l3 : ∀ f a b i, f ≠ 349 → f ≠ 350 → ρ3.1 f a b i = ρ.1 f a b i := fun f a b i q1 q2 => by rw [hρ3, sI_o q2, sI_o q2, l2 f a b i q1]
  have j3 : ρ3.2 = ρ1.2 := by rw [hρ3, hρ2]; rfl
  have j1 : ∀ f a b i, f ≠ 348 → ρ1.2 f a b i = ρ.2 f a b i := fun f a b i q => by rw [hρ1, sJ_o q, sJ_o q]
  have t8 : tr ≠ 8 := by omega
  refine ⟨ρ3, ?_, l3, fun f a b i q => by rw [j3, j1 f a b i q], fun t ht => ?_⟩
  · unfold fM_addUp_77
    rw [chk_t (inb_n hp (by decide)), nI_clamp (n := p) (by omega), h211, chk_t (inb_n (by omega) (by decide)), chk_t (inb_n (by omega) (by decide)), nI_clamp (n := tr) (by omega), nI_clamp (n := 624 * p + i) (by omega), h308, ← hX, nmx, sJ_i (Ne.symm t8), sJ_o (by decide), h308, ← hX, nmx, ← hρ1, l1, h211, chk_t (inb_n (by omega) (by decide)), nI_clamp (n := tr) (by omega), nmx, sI_i (Ne.symm t8), l1, nmx, ← hρ2, l2 _ _ _ _ (by decide), h211, chk_t (inb_n (by omega) (by decide)), nI_clamp (n := tr) (by omega), l2 _ _ _ _ (by decide), nmx, sI_i (Ne.symm t8), l2 _ _ _ _ (by decide), nmx, ← hρ3, nI_1]
  · obtain ⟨z1, z2, z3⟩ := h t ht
    have c0 := hc 0 t
    have c1 := hc 1 t
    have c2 := hc 2 t
    have A0 := hA 0
    have A1 := hA 1
    have A2 := hA 2
    have s0 := sv_b b (A 0)
    have s1 := sv_b b (A 1)
    have s2 := sv_b b (A 2)
    have sy := sv_b b y
    have se1 := sv_b b e1
    have se2 := sv_b b e2
    rw [a0, a1, a2, sv_add, sv_add, sv_add]
    by_cases q : sel tr t
    · rw [if_pos q] at z1 z2 z3
      have v1 : ρ3.2 348 0 0 t = ρ.2 348 0 0 t + X := by
        rw [j3, hρ1]
        rcases q with rfl | rfl
        · rw [sJ_i t8, sJ_s]
        · rw [sJ_s]
      have v2 : ρ3.1 349 0 0 t = ρ.1 349 0 0 t + x5 := by
        rw [hρ3, sI_o (by decide), sI_o (by decide), hρ2]
        rcases q with rfl | rfl
        · rw [sI_i t8, sI_s]
        · rw [sI_s]
      have v3 : ρ3.1 350 0 0 t = ρ.1 350 0 0 t + x0 := by
        rw [hρ3]
        rcases q with rfl | rfl
        · rw [sI_i t8, sI_s]
        · rw [sI_s]
      rw [if_pos q, if_pos q, if_pos q, v1, v2, v3]
      refine ⟨?_, ?_, ?_⟩
      · rw [Int64.toInt_add, hXt, z1]
        exact (Int.bmod_eq_of_le (by omega) (by omega)).trans (by omega)
      · rw [Int32.toInt_add, he1.2, z2]
        exact (Int.bmod_eq_of_le (by omega) (by omega)).trans (by omega)
      · rw [Int32.toInt_add, he2.2, z3]
        exact (Int.bmod_eq_of_le (by omega) (by omega)).trans (by omega)
    · rw [if_neg q] at z1 z2 z3
      have q1 : t ≠ tr := fun z => q (Or.inl z)
      have q2 : t ≠ 8 := fun z => q (Or.inr z)
      have v1 : ρ3.2 348 0 0 t = ρ.2 348 0 0 t := by rw [j3, hρ1, sJ_i q2, sJ_i q1]
      have v2 : ρ3.1 349 0 0 t = ρ.1 349 0 0 t := by rw [hρ3, sI_o (by decide), sI_o (by decide), hρ2, sI_i q2, sI_i q1, l1]
      have v3 : ρ3.1 350 0 0 t = ρ.1 350 0 0 t := by rw [hρ3, sI_i q2, sI_i q1, l2 _ _ _ _ (by decide)]
      rw [if_neg q, if_neg q, if_neg q, v1, v2, v3]
      exact ⟨z1, z2, z3⟩
/-- what the adding reads of a run -/
def RnD (ρ : St) (p n : Nat) : Prop := ∀ i, i < n → ∃ kk y : Nat, kk ≤ 9 ∧ y ≤ 9999 ∧ ρ.1 304 0 0 (624 * p + i) = nI kk ∧ ρ.2 308 0 0 (624 * p + i) = jN y
theorem tA_b {ρ : St} {p n j i : Nat} (hn : n ≤ 624) (h : RnD ρ p n) (hi : i ≤ n) : tA ρ i j p ≤ 6300000 := by
  obtain ⟨-, y2⟩ := tY_e (ρ := ρ) (p := p) i (by omega) (fun i' hi' => by
    obtain ⟨kk, y, -, y1, -, y2⟩ := h i' (by omega)
    exact ⟨y, y1, y2⟩)
  have c1 := ctS_le (ρ := ρ) (p := p) (g := isPd) i
  have c2 := ctS_le (ρ := ρ) (p := p) (g := fun k => decide (k = 0)) i
  unfold tA
  split
  · omega
  · split <;> omega
theorem add12 {N p n tr : Nat} {b : Bool} {go : Int32 → Int32 → St → Option St} {c : Nat → Nat → Int} {ρ0 : St} (hp : p < 20) (hn : n ≤ 624) (hn1 : 1 ≤ n) (htr : tr < 8) (h205 : ρ0.1 205 0 0 0 = nI (311 + n)) (h211 : ρ0.1 211 0 0 p = nI tr) (hd : RnD ρ0 p n) (hc : ∀ j t, -300000000 ≤ c j t ∧ c j t ≤ 300000000) : ∀ (e i m : Nat) (ρ : St), i + e = n → e < m → (∀ f a b i, f ≠ 349 → f ≠ 350 → ρ.1 f a b i = ρ0.1 f a b i) → (∀ f a b i, f ≠ 348 → ρ.2 f a b i = ρ0.2 f a b i) → AdS b tr c (fun j => tA ρ0 i j p) ρ → ∃ ρ', fM_addUp_12 N go m (xb b) (nI p) (nI i) ρ = go (xb b) (nI (p + 1)) ρ' ∧ (∀ f a b i, f ≠ 349 → f ≠ 350 → ρ'.1 f a b i = ρ0.1 f a b i) ∧ (∀ f a b i, f ≠ 348 → ρ'.2 f a b i = ρ0.2 f a b i) ∧ AdS b tr c (fun j => tA ρ0 n j p) ρ' := by
  have e205 : nI (311 + n) - 312 = nI (n - 1) := by
    rw [show 311 + n = 312 + (n - 1) by omega]
    exact nI_subl (a := 312) (k := n - 1)
  intro e
  induction e with
  | zero =>
    intro i m ρ h1 h2 hm hj h
    obtain ⟨m, rfl⟩ : ∃ q, m = q + 1 := ⟨m - 1, by omega⟩
    have : i = n := by omega
    subst this
    refine ⟨ρ, ?_, hm, hj, h⟩
    show (if (ρ.1 205 0 0 0 - 312) < nI i then go (xb b) (nI p + 1) ρ else _) = _
    rw [hm _ _ _ _ (by decide) (by decide), h205, e205, if_pos (nI_lt (by omega) (by omega)), nI_1]
  | succ e ih =>
    intro i m ρ h1 h2 hm hj h
    obtain ⟨m, rfl⟩ : ∃ q, m = q + 1 := ⟨m - 1, by omega⟩
    obtain ⟨kk, y, k1, k2, k3, k4⟩ := hd i (by omega)
    have ei : (624 : Int32) * nI p + nI i = nI (624 * p + i) := by
      rw [show (624 : Int32) * nI p = nI (624 * p) from (Int32.ofNat_mul 624 p).symm, nI_add]
    have h304 : ρ.1 304 0 0 (624 * p + i) = nI kk := (hm _ _ _ _ (by decide) (by decide)).trans k3
    have e0 : fM_addUp_12 N go (m + 1) (xb b) (nI p) (nI i) ρ = fM_addUp_77 N go (fM_addUp_12 N go m) (xb b) (nI p) (nI i) (nI (624 * p + i)) (if isPd (nI kk) = true then xb b else 0) (if nI kk = 0 then xb b else 0) ρ := by
      have e60 : ∀ s0 : Int32, fM_addUp_60 N go (fM_addUp_12 N go m) (xb b) (nI p) (nI i) (nI (624 * p + i)) s0 ρ = fM_addUp_77 N go (fM_addUp_12 N go m) (xb b) (nI p) (nI i) (nI (624 * p + i)) s0 (if nI kk = 0 then xb b else 0) ρ := fun s0 => by
        unfold fM_addUp_60
        rw [chk_t (inb_n (by omega) (by decide)), nI_clamp (by omega), h304]
        by_cases z : nI kk = 0
        · rw [if_pos z, if_pos z]
        · rw [if_neg z, if_neg z]
      show (if (ρ.1 205 0 0 0 - 312) < nI i then _ else nm ((624 * nI p) + nI i) fun (y1 : Int32) => chk (inb y1 12480) <| if (ρ.1 304 0 0 y1.toNatClampNeg) < 3 then fM_addUp_59 N go (fM_addUp_12 N go m) (xb b) (nI p) (nI i) y1 ρ else if 5 < (ρ.1 304 0 0 y1.toNatClampNeg) then fM_addUp_59 N go (fM_addUp_12 N go m) (xb b) (nI p) (nI i) y1 ρ else fM_addUp_60 N go (fM_addUp_12 N go m) (xb b) (nI p) (nI i) y1 (xb b) ρ) = _
      rw [hm 205 _ _ _ (by decide) (by decide), h205, e205, if_neg (nI_nlt (by omega) (by omega)), ei, nmx, chk_t (inb_n (by omega) (by decide)), nI_clamp (by omega), h304]
      unfold fM_addUp_59
      rw [e60, e60]
      have kc : ∀ k, k ≤ 9 → ((nI k < 3 ∨ 5 < nI k) ∧ isPd (nI k) = false) ∨ (¬ nI k < 3 ∧ ¬ 5 < nI k ∧ isPd (nI k) = true) := by decide
      rcases kc kk k1 with ⟨z1, z2⟩ | ⟨z1, z2, z3⟩
      · rw [z2, if_neg (show ¬ false = true by decide)]
        by_cases z : nI kk < 3
        · rw [if_pos z]
        · rw [if_neg z, if_pos (z1.resolve_left z)]
      · rw [if_neg z1, if_neg z2, if_pos z3]
    obtain ⟨ρ1, r1, r2, r3, r4⟩ := add77 (N := N) (p := p) (i := i) (tr := tr) (y := y) (e1 := if isPd (nI kk) = true then 1 else 0) (e2 := if nI kk = 0 then 1 else 0) (b := b) (go2 := go) (go12 := fM_addUp_12 N go m) (c := c) (A := fun j => tA ρ0 i j p) (A' := fun j => tA ρ0 (i + 1) j p) (ρ := ρ) (x5 := if isPd (nI kk) = true then xb b else 0) (x0 := if nI kk = 0 then xb b else 0) hp (by omega) htr ((hm _ _ _ _ (by decide) (by decide)).trans h211) k2 ((hj _ _ _ _ (by decide)).trans k4) hc (fun j => tA_b hn hd (by omega)) h (by
        show tA ρ0 (i + 1) 0 p = tA ρ0 i 0 p + y
        rw [tA0, tA0]
        show tY ρ0 p i + (ρ0.2 308 0 0 (624 * p + i)).toInt.toNat = _
        rw [k4, jN_t (by omega), Int.toNat_natCast]) (by
        show tA ρ0 (i + 1) 1 p = tA ρ0 i 1 p + _
        rw [tA1, tA1]
        show ctS ρ0 p isPd i + (if isPd (ρ0.1 304 0 0 (624 * p + i)) = true then 1 else 0) = _
        rw [k3]) (by
        show tA ρ0 (i + 1) 2 p = tA ρ0 i 2 p + _
        rw [tA2, tA2]
        show ctS ρ0 p (fun k => decide (k = 0)) i + (if decide (ρ0.1 304 0 0 (624 * p + i) = 0) = true then 1 else 0) = _
        rw [k3]
        by_cases z : nI kk = 0
        · rw [if_pos z, if_pos (decide_eq_true z)]
        · rw [if_neg z, if_neg (fun q => z (of_decide_eq_true q))]) (by
        by_cases z : isPd (nI kk) = true
        · rw [if_pos z, if_pos z]
          exact ⟨Nat.le_refl _, xb_t b⟩
        · rw [if_neg z, if_neg z, sv_0]
          exact ⟨by omega, rfl⟩) (by
        by_cases z : nI kk = 0
        · rw [if_pos z, if_pos z]
          exact ⟨Nat.le_refl _, xb_t b⟩
        · rw [if_neg z, if_neg z, sv_0]
          exact ⟨by omega, rfl⟩)
    obtain ⟨ρ', g1, g2, g3, g4⟩ := ih (i + 1) m ρ1 (by omega) (by omega) (fun f a b i q1 q2 => (r2 f a b i q1 q2).trans (hm f a b i q1 q2)) (fun f a b i q => (r3 f a b i q).trans (hj f a b i q)) r4
    exact ⟨ρ', by rw [e0, r1, g1], g2, g3, g4⟩
/-- the sum over people of a trade, or of all -/
def smT (tr : Nat → Nat) (A : Nat → Nat) (t : Nat) : Nat → Nat
  | 0 => 0
  | p + 1 => smT tr A t p + (if sel (tr p) t then A p else 0)
theorem smT_b {tr A : Nat → Nat} {t : Nat} : ∀ P, (∀ p, p < P → A p ≤ 6300000) → smT tr A t P ≤ 6300000 * P
  | 0, _ => Nat.le_refl _
  | P + 1, h => by
    have h1 := smT_b (tr := tr) (t := t) P (fun p hp => h p (by omega))
    have h2 := h P (by omega)
    show smT tr A t P + (if sel (tr P) t then A P else 0) ≤ 6300000 * (P + 1)
    split <;> omega
def AdP (b : Bool) (tr : Nat → Nat) (c : Nat → Nat → Int) (A : Nat → Nat → Nat) (P : Nat) (ρ : St) : Prop := ∀ t, t < 9 → (ρ.2 348 0 0 t).toInt = c 0 t + sv b (smT tr (A 0) t P) ∧ (ρ.1 349 0 0 t).toInt = c 1 t + sv b (smT tr (A 1) t P) ∧ (ρ.1 350 0 0 t).toInt = c 2 t + sv b (smT tr (A 2) t P)
theorem add2 {N P n : Nat} {b : Bool} {tr : Nat → Nat} {c : Nat → Nat → Int} {ρ0 : St} (hN : 1000 ≤ N) (hP : P ≤ 20) (hn : n ≤ 624) (hn1 : 1 ≤ n) (h205 : ρ0.1 205 0 0 0 = nI (311 + n)) (h208 : ρ0.1 208 0 0 0 = nI P) (h211 : ∀ p, p < P → ρ0.1 211 0 0 p = nI (tr p) ∧ tr p < 8) (hd : ∀ p, p < P → RnD ρ0 p n) (hc : ∀ j t, -150000000 ≤ c j t ∧ c j t ≤ 150000000) : ∀ (e p m : Nat) (ρ : St), p + e = P → e < m → (∀ f a b i, f ≠ 349 → f ≠ 350 → ρ.1 f a b i = ρ0.1 f a b i) → (∀ f a b i, f ≠ 348 → ρ.2 f a b i = ρ0.2 f a b i) → AdP b tr c (fun j => tA ρ0 n j) p ρ → ∃ ρ', fM_addUp_2 N m (xb b) (nI p) ρ = some ρ' ∧ (∀ f a b i, f ≠ 349 → f ≠ 350 → ρ'.1 f a b i = ρ0.1 f a b i) ∧ (∀ f a b i, f ≠ 348 → ρ'.2 f a b i = ρ0.2 f a b i) ∧ AdP b tr c (fun j => tA ρ0 n j) P ρ' := by
  intro e
  induction e with
  | zero =>
    intro p m ρ h1 h2 hm hj h
    obtain ⟨m, rfl⟩ : ∃ q, m = q + 1 := ⟨m - 1, by omega⟩
    have : p = P := by omega
    subst this
    refine ⟨ρ, ?_, hm, hj, h⟩
    show (if ρ.1 208 0 0 0 ≤ nI p then some ρ else _) = _
    rw [hm _ _ _ _ (by decide) (by decide), h208, if_pos (Int32.le_refl _)]
  | succ e ih =>
    intro p m ρ h1 h2 hm hj h
    obtain ⟨m, rfl⟩ : ∃ q, m = q + 1 := ⟨m - 1, by omega⟩
    obtain ⟨t1, t2⟩ := h211 p (by omega)
    have bd : ∀ j t, smT tr (tA ρ0 n j) t p ≤ 126000000 := fun j t => by
      have := smT_b (tr := tr) (A := tA ρ0 n j) (t := t) p (fun q hq => tA_b hn (hd q (by omega)) (Nat.le_refl _))
      omega
    obtain ⟨ρ1, r1, r2, r3, r4⟩ := add12 (N := N) (p := p) (n := n) (tr := tr p) (b := b) (go := fM_addUp_2 N m) (c := fun j t => c j t + sv b (smT tr (tA ρ0 n j) t p)) (ρ0 := ρ0) (by omega) hn hn1 t2 h205 t1 (hd p (by omega)) (fun j t => by
      have := hc j t
      have := bd j t
      have := sv_b b (smT tr (tA ρ0 n j) t p)
      omega) n 0 N ρ (by omega) (by omega) hm hj (fun t ht => by
      obtain ⟨z1, z2, z3⟩ := h t ht
      have e0 : ∀ j, tA ρ0 0 j p = 0 := fun j => by
        unfold tA
        split
        · rfl
        · split <;> rfl
      dsimp only
      rw [e0, e0, e0, sv_0, z1, z2, z3]
      by_cases q : sel (tr p) t
      · rw [if_pos q]
        exact ⟨(Int.add_zero _).symm, (Int.add_zero _).symm, (Int.add_zero _).symm⟩
      · rw [if_neg q]
        exact ⟨(Int.add_zero _).symm, (Int.add_zero _).symm, (Int.add_zero _).symm⟩)
    have h4 : AdP b tr c (fun j => tA ρ0 n j) (p + 1) ρ1 := fun t ht => by
      obtain ⟨z1, z2, z3⟩ := r4 t ht
      have es : ∀ j, sv b (smT tr (tA ρ0 n j) t (p + 1)) = sv b (smT tr (tA ρ0 n j) t p) + (if sel (tr p) t then sv b (tA ρ0 n j p) else 0) := fun j => by
        show sv b (smT tr (tA ρ0 n j) t p + (if sel (tr p) t then tA ρ0 n j p else 0)) = _
        rw [sv_add]
        by_cases q : sel (tr p) t
        · rw [if_pos q, if_pos q]
        · rw [if_neg q, if_neg q, sv_0]
      rw [z1, z2, z3, es 0, es 1, es 2, Int.add_assoc, Int.add_assoc, Int.add_assoc]
      exact ⟨rfl, rfl, rfl⟩
    obtain ⟨ρ', g1, g2, g3, g4⟩ := ih (p + 1) m ρ1 (by omega) (by omega) r2 r3 h4
    refine ⟨ρ', ?_, g2, g3, g4⟩
    show (if ρ.1 208 0 0 0 ≤ nI p then _ else fM_addUp_12 N (fM_addUp_2 N m) N (xb b) (nI p) 0 ρ) = _
    rw [hm 208 _ _ _ (by decide) (by decide), h208, if_neg (nI_ge (by omega) (by omega))]
    exact r1.trans g1
