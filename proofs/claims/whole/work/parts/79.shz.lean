/-! all sheets of a law -/
def cnt (p : Nat → Bool) : Nat → Nat
  | 0 => 0
  | d + 1 => cnt p d + if p d = true then 1 else 0
theorem cnt_or (p q : Nat → Bool) : ∀ d, cnt (fun x => p x || q x) d ≤ cnt p d + cnt q d
  | 0 => Nat.le_refl 0
  | d + 1 => by
    have := cnt_or p q d
    unfold cnt
    by_cases h : p d = true <;> by_cases h2 : q d = true <;> simp [h, h2] <;> omega
theorem cnt_zero (p : Nat → Bool) : ∀ d, (∀ x, x < d → p x = false) → cnt p d = 0
  | 0, _ => rfl
  | d + 1, h => by
    unfold cnt
    rw [cnt_zero p d (fun x hx => h x (by omega)), h d (by omega)]
    rfl
theorem cnt_one (p : Nat → Bool) : ∀ d, (∀ x y, x < d → y < d → p x = true → p y = true → x = y) → cnt p d ≤ 1
  | 0, _ => (by decide : 0 ≤ 1)
  | d + 1, h => by
    have ih := cnt_one p d (fun x y hx hy => h x y (by omega) (by omega))
    unfold cnt
    by_cases c : p d = true
    · rw [if_pos c, cnt_zero p d (fun x hx => by
        cases e : p x with
        | false => rfl
        | true =>
          have := h x d (by omega) (by omega) e c
          omega)]
      decide
    · rw [if_neg c]
      exact ih
theorem cnt_mono (p : Nat → Bool) {a b : Nat} (h : a ≤ b) : cnt p a ≤ cnt p b := by
  induction b with
  | zero =>
    have : a = 0 := by omega
    rw [this]
    exact Nat.le_refl _
  | succ b ih =>
    by_cases c : a = b + 1
    · rw [c]
      exact Nat.le_refl _
    · have := ih (by omega)
      show cnt p a ≤ cnt p b + _
      omega
def mkb (fr to : Nat → Int32) : Nat → Nat → Bool
  | 0, _ => false
  | i + 1, j => mkb fr to i j || (decide (fr i = nI j) || decide (to i = nI j))
def mk0 (fr to : Nat → Int32) (n j : Nat) : Bool := decide (j = 0) || mkb fr to n j
theorem mkb_no {fr to : Nat → Int32} : ∀ n j, mkb fr to n j = false → ∀ t, t < n → fr t ≠ nI j ∧ to t ≠ nI j
  | 0, _, _, t, ht => by omega
  | n + 1, j, h, t, ht => by
    unfold mkb at h
    simp only [Bool.or_eq_false_iff, decide_eq_false_iff_not] at h
    by_cases c : t = n
    · rw [c]
      exact h.2
    · exact mkb_no n j h.1 t (by omega)
theorem nI_one {x : Int32} {d : Nat} (hd : d ≤ 936) : cnt (fun j => decide (x = nI j)) d ≤ 1 := by
  refine cnt_one _ d (fun a b ha hb h1 h2 => ?_)
  have h1 : x = nI a := by simpa using h1
  have h2 : x = nI b := by simpa using h2
  exact (nI_eq (by omega) (by omega)).mp (h1.symm.trans h2)
theorem mkb_cnt {fr to : Nat → Int32} {d : Nat} (hd : d ≤ 936) : ∀ n, cnt (mkb fr to n) d ≤ 2 * n
  | 0 => by
    rw [cnt_zero (mkb fr to 0) d (fun _ _ => rfl)]
    omega
  | n + 1 => by
    have h1 := mkb_cnt (fr := fr) (to := to) hd n
    have h2 := cnt_or (mkb fr to n) (fun j => decide (fr n = nI j) || decide (to n = nI j)) d
    have h3 := cnt_or (fun j => decide (fr n = nI j)) (fun j => decide (to n = nI j)) d
    have h4 := nI_one (x := fr n) hd
    have h5 := nI_one (x := to n) hd
    have e : cnt (mkb fr to (n + 1)) d = cnt (fun x => mkb fr to n x || (decide (fr n = nI x) || decide (to n = nI x))) d := rfl
    omega
theorem mk0_cnt {fr to : Nat → Int32} {d n : Nat} (hd : d ≤ 936) : cnt (mk0 fr to n) d ≤ 2 * n + 1 := by
  have h1 := mkb_cnt (fr := fr) (to := to) hd n
  have h2 := cnt_or (fun j => decide (j = 0)) (mkb fr to n) d
  have h3 : cnt (fun j => decide (j = 0)) d ≤ 1 := cnt_one _ d (fun a b _ _ p q => by simp at p q; omega)
  have e : cnt (mk0 fr to n) d = cnt (fun x => decide (x = 0) || mkb fr to n x) d := rfl
  omega
theorem by8 {s : Nat} (h : s < 128) : (nI s).toInt8.toInt32.toInt8.toInt32 = nI s := by
  have : ∀ s, s < 128 → (nI s).toInt8.toInt32.toInt8.toInt32 = nI s := by decide +kernel
  exact this s h
theorem ShX.sfx {v s s' : Nat} {σ σ' : St} {sh : Sheet} (h : ShX v s σ sh) (hf : SFx v s' σ σ') (hs : s ≠ s') : ShX v s σ' sh := by
  obtain ⟨h1, h2, h3, h4, h5, h6, h7, h8⟩ := h
  have o : ∀ f, 66 ≤ f → f ≤ 71 → σ'.1 f v 0 s = σ.1 f v 0 s := fun f a b => hf.1 f v 0 s (fun z => by omega) (fun z => by omega) (fun z => by omega)
  exact ⟨Rep.eq _ (fun i _ => hf.1 _ _ _ _ (fun z => absurd z.1 (by decide)) (fun z => hs z.2.2) (fun z => by omega)) h1, (o _ (by decide) (by decide)).trans h2, fun k hk => (hf.1 _ _ _ _ (fun z => hs z.2.2) (fun z => absurd z.1 (by decide)) (fun z => by omega)).trans (h3 k hk), (o _ (by decide) (by decide)).trans h4, (o _ (by decide) (by decide)).trans h5, (o _ (by decide) (by decide)).trans h6, (o _ (by decide) (by decide)).trans h7, (o _ (by decide) (by decide)).trans h8⟩
theorem ShX.mv {v s : Nat} {σ σ' : St} {sh : Sheet} (h : ShX v s σ sh) (hm : ∀ f b i, 64 ≤ f → f ≤ 71 → σ'.1 f v b i = σ.1 f v b i) : ShX v s σ' sh := by
  obtain ⟨h1, h2, h3, h4, h5, h6, h7, h8⟩ := h
  exact ⟨Rep.eq _ (fun i _ => hm _ _ _ (by decide) (by decide)) h1, (hm _ _ _ (by decide) (by decide)).trans h2, fun k hk => (hm _ _ _ (by decide) (by decide)).trans (h3 k hk), (hm _ _ _ (by decide) (by decide)).trans h4, (hm _ _ _ (by decide) (by decide)).trans h5, (hm _ _ _ (by decide) (by decide)).trans h6, (hm _ _ _ (by decide) (by decide)).trans h7, (hm _ _ _ (by decide) (by decide)).trans h8⟩
/-- the law of a view: a sheet for each day -/
def shOf (TC : Nat → List Cl) (fr to : Nat → Int32) (n d : Nat) : Sheet := sheetR TC (forR fr to (nI d) n)
def LawX (v : Nat) (TC : Nat → List Cl) (fr to : Nat → Int32) (n : Nat) (σ : St) : Prop := ∀ d, d < 936 → ∃ s, s < 35 ∧ σ.1 63 v 0 d = nI s ∧ ShX v s σ (shOf TC fr to n d)
theorem shOf_same {TC : Nat → List Cl} {fr to : Nat → Int32} {n d : Nat} (hd : d + 1 < 936) (h : mkb fr to n (d + 1) = false) : shOf TC fr to n (d + 1) = shOf TC fr to n d := by
  unfold shOf
  congr 1
  refine forR_congr n (fun t ht => ⟨rfl, ?_⟩)
  obtain ⟨h1, h2⟩ := mkb_no n _ h t ht
  have e1 : fr t ≤ nI (d + 1) ↔ fr t ≤ nI d := by
    rw [Int32.le_iff_toInt_le, Int32.le_iff_toInt_le, nI_toInt (by omega), nI_toInt (by omega)]
    have : (fr t).toInt ≠ ((d + 1 : Nat) : Int) := fun q => h1 (Int32.toInt_inj.mp (by rw [q, nI_toInt (by omega)]))
    omega
  have e2 : nI (d + 1) < to t ↔ nI d < to t := by
    rw [Int32.lt_iff_toInt_lt, Int32.lt_iff_toInt_lt, nI_toInt (by omega), nI_toInt (by omega)]
    have : (to t).toInt ≠ ((d + 1 : Nat) : Int) := fun q => h2 (Int32.toInt_inj.mp (by rw [q, nI_toInt (by omega)]))
    omega
  unfold isF
  rw [decide_eq_decide.mpr e1, decide_eq_decide.mpr e2]
theorem fillS {N v : Nat} : ∀ (e i m : Nat) (σ : St), i + e = 936 → e < m → ∃ σ', fArrays_fill_Law_spanOf_5 N v m 0 (nI i) 936 σ = some σ' ∧ (∀ f a b j, ¬ (f = 63 ∧ a = v ∧ b = 0) → σ'.1 f a b j = σ.1 f a b j) ∧ σ'.2 = σ.2 ∧ (∀ j, j < i → σ'.1 63 v 0 j = σ.1 63 v 0 j) ∧ (∀ j, i ≤ j → j < 936 → σ'.1 63 v 0 j = 0) := by
  intro e
  induction e with
  | zero =>
    intro i m σ h1 h2
    obtain ⟨m, rfl⟩ : ∃ q, m = q + 1 := ⟨m - 1, by omega⟩
    obtain rfl : i = 936 := by omega
    exact ⟨σ, rfl, fun _ _ _ _ _ => rfl, rfl, fun _ _ => rfl, fun j a b => by omega⟩
  | succ e ih =>
    intro i m σ h1 h2
    obtain ⟨m, rfl⟩ : ∃ q, m = q + 1 := ⟨m - 1, by omega⟩
    obtain ⟨σ', k1, k2, k3, k4, k5⟩ := ih (i + 1) m (sI σ 63 v 0 i (0 : Int32).toInt8.toInt32) (by omega) (by omega)
    refine ⟨σ', ?_, fun f a b j q => ?_, k3, fun j hj => ?_, fun j hj hj2 => ?_⟩
    · show (if (936 : Int32) ≤ nI i then _ else chk (inb (nI i) 936) (nm (sI σ 63 v 0 (nI i).toNatClampNeg (0 : Int32).toInt8.toInt32) fun (σ1 : St) => fArrays_fill_Law_spanOf_5 N v m 0 (nI i + 1) 936 σ1)) = _
      rw [if_neg (show ¬ (936 : Int32) ≤ nI i from nI_ge (a := i) (b := 936) (by omega) (by omega)), chk_t (inb_n (by omega) (by decide)), nmx, nI_clamp (by omega), nI_1, k1]
    · rw [k2 f a b j q, sI_1, if_neg (fun z => q ⟨z.1, z.2.1, z.2.2.1⟩)]
    · rw [k4 j (by omega), sI_i (by omega)]
    · by_cases c : j = i
      · rw [c, k4 i (by omega), sI_s]
        rfl
      · exact k5 j (by omega) hj2
theorem clp {x : Int32} (h0 : 0 ≤ x.toInt) (h1 : x.toInt ≤ 935) : ∃ a, a < 936 ∧ x = nI a ∧ x.toNatClampNeg = a := by
  have := nI_self h0
  refine ⟨x.toNatClampNeg, ?_, this, rfl⟩
  have e : x.toNatClampNeg = x.toInt.toNat := rfl
  omega
theorem marks {N v n : Nat} {TC : Nat → List Cl} {fr to : Nat → Int32} (hn : n ≤ 17) : ∀ (e i m : Nat) (σ : St), i + e = n → e < m → TxX TC fr to n σ → σ.1 62 v 0 0 = nI n → (∀ j, j < 936 → σ.1 63 v 0 j = if mkb fr to i j = true then 1 else 0) →
    ∃ σ', fLaw_make_23 N v m (nI i) σ = fLaw_make_78 N v N (-1) 0 (sI σ' 63 v 0 0 1) ∧ (∀ f a b j, ¬ (f = 63 ∧ a = v ∧ b = 0) → σ'.1 f a b j = σ.1 f a b j) ∧ σ'.2 = σ.2 ∧ (∀ j, j < 936 → σ'.1 63 v 0 j = if mkb fr to n j = true then 1 else 0) := by
  intro e
  induction e with
  | zero =>
    intro i m σ h1 h2 hT hz h3
    obtain ⟨m, rfl⟩ : ∃ q, m = q + 1 := ⟨m - 1, by omega⟩
    obtain rfl : i = n := by omega
    refine ⟨σ, ?_, fun _ _ _ _ _ => rfl, rfl, h3⟩
    show (if σ.1 62 v 0 0 ≤ nI i then nm (sI σ 63 v 0 0 (1 : Int32).toInt8.toInt32) fun (σ1 : St) => fLaw_make_78 N v N (-1) 0 σ1 else _) = _
    rw [hz, if_pos (nI_le (by omega) (by omega)), nmx]
    rfl
  | succ e ih =>
    intro i m σ h1 h2 hT hz h3
    obtain ⟨m, rfl⟩ : ∃ q, m = q + 1 := ⟨m - 1, by omega⟩
    obtain ⟨-, -, -, f1, f2, f3, f4⟩ := hT i (by omega)
    obtain ⟨a, a1, a2, a3⟩ := clp f3.1 f3.2
    obtain ⟨b, b1, b2, b3⟩ := clp f4.1 f4.2
    have e0 : fLaw_make_23 N v (m + 1) (nI i) σ = fLaw_make_23 N v m (nI (i + 1)) (sI (sI σ 63 v 0 a 1) 63 v 0 b 1) := by
      show (if σ.1 62 v 0 0 ≤ nI i then _ else chk (inb (nI i) 17) (chk (inb (σ.1 13 (nI i).toNatClampNeg 0 0) 936) (nm (sI σ 63 v 0 (σ.1 13 (nI i).toNatClampNeg 0 0).toNatClampNeg (1 : Int32).toInt8.toInt32) fun (σ2 : St) => chk (inb (σ2.1 14 (nI i).toNatClampNeg 0 0) 936) (nm (sI σ2 63 v 0 (σ2.1 14 (nI i).toNatClampNeg 0 0).toNatClampNeg (1 : Int32).toInt8.toInt32) fun (σ3 : St) => fLaw_make_23 N v m (nI i + 1) σ3)))) = _
      rw [hz, if_neg (nI_ge (by omega) (by omega)), chk_t (inb_n (by omega) (by decide)), nI_clamp (by omega), f1, a2, chk_t (inb_n a1 (by decide)), nmx, nI_clamp (by omega), sI_o (by decide), f2, b2, chk_t (inb_n b1 (by decide)), nmx, nI_clamp (by omega), nI_1]
      rfl
    obtain ⟨σ', k1, k2, k3, k4⟩ := ih (i + 1) m (sI (sI σ 63 v 0 a 1) 63 v 0 b 1) (by omega) (by omega) (hT.mv (fun f a b i q1 q2 => by rw [sI_o (by omega), sI_o (by omega)])) (by rw [sI_o (by decide), sI_o (by decide), hz]) (fun j hj => by
      have em : mkb fr to (i + 1) j = (mkb fr to i j || (decide (fr i = nI j) || decide (to i = nI j))) := rfl
      rw [em]
      by_cases c1 : j = b
      · rw [c1, sI_s, if_pos (by rw [b2]; simp)]
      · rw [sI_i c1]
        by_cases c2 : j = a
        · rw [c2, sI_s, if_pos (by rw [a2]; simp)]
        · rw [sI_i c2, h3 j hj]
          have n1 : ¬ fr i = nI j := fun q => c2 ((nI_eq (by omega) (by omega)).mp (q.symm.trans a2))
          have n2 : ¬ to i = nI j := fun q => c1 ((nI_eq (by omega) (by omega)).mp (q.symm.trans b2))
          rw [decide_eq_false n1, decide_eq_false n2, Bool.or_false, Bool.or_false])
    exact ⟨σ', e0.trans k1, fun f a b j q => (k2 f a b j q).trans (by rw [sI_1, if_neg (fun z => q ⟨z.1, z.2.1, z.2.2.1⟩), sI_1, if_neg (fun z => q ⟨z.1, z.2.1, z.2.2.1⟩)]), k3, k4⟩
theorem mk_loop {N v n : Nat} {TC : Nat → List Cl} {fr to : Nat → Int32} (hN : 30 ≤ N) (hn : n ≤ 17) : ∀ (e d m : Nat) (σ : St), d + e = 936 → e < m → TxX TC fr to n σ → σ.1 62 v 0 0 = nI n → (∀ j, d ≤ j → j < 936 → σ.1 63 v 0 j = if mk0 fr to n j = true then 1 else 0) → (∀ j, j < d → ∃ s, s < cnt (mk0 fr to n) d ∧ σ.1 63 v 0 j = nI s ∧ ShX v s σ (shOf TC fr to n j)) → (0 < d → 0 < cnt (mk0 fr to n) d ∧ ShX v (cnt (mk0 fr to n) d - 1) σ (shOf TC fr to n (d - 1))) →
    ∃ σ', fLaw_make_78 N v m (nI (cnt (mk0 fr to n) d) - 1) (nI d) σ = some σ' ∧ (∀ f a b j, ¬ ((63 ≤ f ∧ f ≤ 71) ∧ a = v) → σ'.1 f a b j = σ.1 f a b j) ∧ σ'.2 = σ.2 ∧ LawX v TC fr to n σ' := by
  intro e
  induction e with
  | zero =>
    intro d m σ h1 h2 hT hz h3 h4 h5
    obtain ⟨m, rfl⟩ : ∃ q, m = q + 1 := ⟨m - 1, by omega⟩
    obtain rfl : d = 936 := by omega
    have hc := mk0_cnt (fr := fr) (to := to) (n := n) (Nat.le_refl 936)
    refine ⟨σ, rfl, fun _ _ _ _ _ => rfl, rfl, fun j hj => ?_⟩
    obtain ⟨s, s1, s2, s3⟩ := h4 j hj
    exact ⟨s, by omega, s2, s3⟩
  | succ e ih =>
    intro d m σ h1 h2 hT hz h3 h4 h5
    obtain ⟨m, rfl⟩ : ∃ q, m = q + 1 := ⟨m - 1, by omega⟩
    have hc1 := mk0_cnt (fr := fr) (to := to) (n := n) (d := d + 1) (by omega)
    have ec : cnt (mk0 fr to n) (d + 1) = cnt (mk0 fr to n) d + if mk0 fr to n d = true then 1 else 0 := rfl
    have w110 : ∀ (c : Nat) (σ1 : St), c < 128 → fLaw_make_110 N v (fLaw_make_78 N v m) (nI c) (nI d) σ1 = fLaw_make_78 N v m (nI c) (nI (d + 1)) (sI σ1 63 v 0 d (nI c)) := fun c σ1 hc => by
      unfold fLaw_make_110
      rw [chk_t (inb_n (by omega) (by decide)), nmx, nI_clamp (by omega), by8 hc, nI_1]
    have e0 : fLaw_make_78 N v (m + 1) (nI (cnt (mk0 fr to n) d) - 1) (nI d) σ = if σ.1 63 v 0 d = 1 then (if 34 ≤ nI (cnt (mk0 fr to n) d) - 1 then fLaw_make_110 N v (fLaw_make_78 N v m) (nI (cnt (mk0 fr to n) d) - 1) (nI d) σ else bn1 (fLaw_makeSheet N v (nI (cnt (mk0 fr to n) d) - 1 + 1) (nI d) σ) fun σ1 => fLaw_make_110 N v (fLaw_make_78 N v m) (nI (cnt (mk0 fr to n) d) - 1 + 1) (nI d) σ1) else fLaw_make_110 N v (fLaw_make_78 N v m) (nI (cnt (mk0 fr to n) d) - 1) (nI d) σ := by
      show (if (936 : Int32) ≤ nI d then _ else chk (inb (nI d) 936) (if σ.1 63 v 0 (nI d).toNatClampNeg = 1 then _ else _)) = _
      rw [if_neg (show ¬ (936 : Int32) ≤ nI d from nI_ge (a := d) (b := 936) (by omega) (by omega)), chk_t (inb_n (by omega) (by decide)), nI_clamp (by omega)]
    rw [e0, h3 d (Nat.le_refl _) (by omega)]
    by_cases cm : mk0 fr to n d = true
    · rw [if_pos cm, if_pos rfl]
      rw [if_pos cm] at ec
      have c34 : ¬ 34 ≤ nI (cnt (mk0 fr to n) d) - 1 := by
        rw [Int32.le_iff_toInt_le, nI_m1 (by omega)]
        have : (34 : Int32).toInt = 34 := by decide
        omega
      obtain ⟨σ1, a1, a2, a3⟩ := sheet_e (N := N) (v := v) (s := cnt (mk0 fr to n) d) (n := n) (TC := TC) (fr := fr) (to := to) (d := nI d) hN (by omega) hn hT hz
      rw [if_neg c34, Int32.sub_add_cancel, a1, bn1_e, w110 _ _ (by omega)]
      have sp1 : ∀ j, σ1.1 63 v 0 j = σ.1 63 v 0 j := fun j => a2.1 _ _ _ _ (fun z => absurd z.1 (by decide)) (fun z => absurd z.1 (by decide)) (fun z => by omega)
      have sh2 : ∀ s sh, ShX v s σ1 sh → ShX v s (sI σ1 63 v 0 d (nI (cnt (mk0 fr to n) d))) sh := fun s sh h => h.mv (fun f b i q1 q2 => sI_o (by omega))
      obtain ⟨σ', b1, b2, b3, b4⟩ := ih (d + 1) m (sI σ1 63 v 0 d (nI (cnt (mk0 fr to n) d))) (by omega) (by omega) (hT.mv (fun f a b i q1 q2 => by rw [sI_o (by omega), a2.1 f a b i (fun z => by omega) (fun z => by omega) (fun z => by omega)])) (by rw [sI_o (by decide), a2.1 _ _ _ _ (fun z => absurd z.1 (by decide)) (fun z => absurd z.1 (by decide)) (fun z => by omega), hz]) (fun j q1 q2 => by rw [sI_i (by omega), sp1, h3 j (by omega) q2]) (fun j hj => by
        by_cases cj : j = d
        · rw [cj]
          exact ⟨cnt (mk0 fr to n) d, by omega, sI_s .., sh2 _ _ a3⟩
        · obtain ⟨s, s1, s2, s3⟩ := h4 j (by omega)
          exact ⟨s, by omega, by rw [sI_i cj, sp1, s2], sh2 _ _ (s3.sfx a2 (by omega))⟩) (fun _ => ⟨by omega, by rw [ec]; exact sh2 _ _ a3⟩)
      refine ⟨σ', ?_, fun f a b j q => ?_, b3.trans a2.2, b4⟩
      · rw [ec, ← nI_1, Int32.add_sub_cancel] at b1
        exact b1
      · rw [b2 f a b j q, sI_1, if_neg (fun z => q ⟨by omega, z.2.1⟩), a2.1 f a b j (fun z => q ⟨by omega, z.2.1⟩) (fun z => q ⟨by omega, z.2.1⟩) (fun z => q ⟨by omega, z.2.2.1⟩)]
    · have cm0 : mk0 fr to n d = false := by simpa using cm
      have d0 : 0 < d := by
        rcases Nat.eq_zero_or_pos d with z | z
        · rw [z] at cm
          exact absurd (show mk0 fr to n 0 = true by simp [mk0]) cm
        · exact z
      obtain ⟨g1, g2⟩ := h5 d0
      rw [if_neg cm, if_neg (by decide)]
      rw [if_neg cm, Nat.add_zero] at ec
      obtain ⟨c, hc⟩ : ∃ c, cnt (mk0 fr to n) d = c + 1 := ⟨cnt (mk0 fr to n) d - 1, by omega⟩
      rw [hc] at ec g2 ⊢
      rw [nI_sub1, w110 _ _ (by omega)]
      have hs : shOf TC fr to n d = shOf TC fr to n (d - 1) := by
        obtain ⟨d', rfl⟩ : ∃ q, d = q + 1 := ⟨d - 1, by omega⟩
        refine shOf_same (by omega) ?_
        simp only [mk0, Bool.or_eq_false_iff] at cm0
        exact cm0.2
      have sh2 : ∀ s sh, ShX v s σ sh → ShX v s (sI σ 63 v 0 d (nI c)) sh := fun s sh h => h.mv (fun f b i q1 q2 => sI_o (by omega))
      obtain ⟨σ', b1, b2, b3, b4⟩ := ih (d + 1) m (sI σ 63 v 0 d (nI c)) (by omega) (by omega) (hT.mv (fun f a b i q1 q2 => sI_o (by omega))) (by rw [sI_o (by decide), hz]) (fun j q1 q2 => by rw [sI_i (by omega), h3 j (by omega) q2]) (fun j hj => by
        by_cases cj : j = d
        · rw [cj, hs, ec]
          exact ⟨c, by omega, sI_s .., sh2 _ _ g2⟩
        · obtain ⟨s, s1, s2, s3⟩ := h4 j (by omega)
          rw [ec]
          exact ⟨s, by omega, by rw [sI_i cj, s2], sh2 _ _ s3⟩) (fun _ => ⟨by omega, by rw [ec, show d + 1 - 1 = d by omega, hs]; exact sh2 _ _ g2⟩)
      refine ⟨σ', ?_, fun f a b j q => ?_, b3, b4⟩
      · rw [ec, nI_sub1] at b1
        exact b1
      · rw [b2 f a b j q, sI_1, if_neg (fun z => q ⟨by omega, z.2.1⟩)]
theorem make_e {N v n : Nat} {TC : Nat → List Cl} {fr to : Nat → Int32} {σ : St} (hN : 2000 ≤ N) (hn : n ≤ 17) (hT : TxX TC fr to n σ) :
    ∃ σ', fLaw_make N v (nI n) σ = some σ' ∧ LFx v σ σ' ∧ σ'.1 62 v 0 0 = nI n ∧ LawX v TC fr to n σ' := by
  obtain ⟨σ1, a1, a2, a3, -, a5⟩ := fillS (N := N) (v := v) 936 0 N (sI σ 62 v 0 0 (nI n)) (by omega) (by omega)
  have o1 : ∀ f a b j, ¬ ((62 ≤ f ∧ f ≤ 71) ∧ a = v) → σ1.1 f a b j = σ.1 f a b j := fun f a b j q => by rw [a2 f a b j (fun z => q ⟨by omega, z.2.1⟩), sI_1, if_neg (fun z => q ⟨by omega, z.2.1⟩)]
  have z1 : σ1.1 62 v 0 0 = nI n := (a2 _ _ _ _ (fun z => absurd z.1 (by decide))).trans (sI_s ..)
  obtain ⟨σ2, b1, b2, b3, b4⟩ := marks (N := N) (v := v) (n := n) (TC := TC) (fr := fr) (to := to) hn n 0 N σ1 (by omega) (by omega) (hT.mv (fun f a b i q1 q2 => o1 f a b i (fun z => by omega))) z1 (fun j hj => a5 j (by omega) hj)
  obtain ⟨σ3, c1, c2, c3, c4⟩ := mk_loop (N := N) (v := v) (n := n) (TC := TC) (fr := fr) (to := to) (by omega) hn 936 0 N (sI σ2 63 v 0 0 1) (by omega) (by omega) (hT.mv (fun f a b i q1 q2 => by rw [sI_o (by omega), b2 f a b i (fun z => by omega), o1 f a b i (fun z => by omega)])) (by rw [sI_o (by decide), b2 _ _ _ _ (fun z => absurd z.1 (by decide)), z1]) (fun j _ hj => by
    unfold mk0
    by_cases cj : j = 0
    · rw [cj, sI_s, if_pos (by simp)]
    · rw [sI_i cj, b4 j hj, decide_eq_false cj, Bool.false_or]) (fun j hj => by omega) (fun h => by omega)
  refine ⟨σ3, ?_, ⟨fun f a b j q => ?_, ?_⟩, ?_, c4⟩
  · unfold fLaw_make fArrays_fill_Law_spanOf
    have hm : fMath_min_I N (nI n) 17 σ = some (nI n) := by
      unfold fMath_min_I
      rw [if_neg]
      intro q
      have := (nI_ltI (a := 17) (b := n) (by omega) (by omega)).mp q
      omega
    rw [hm, bn1_e, nmx, show fArrays_fill_Law_spanOf_5 N v N 0 0 936 _ = some σ1 from a1, bn1_e]
    exact b1.trans c1
  · rw [c2 f a b j (fun z => q ⟨by omega, z.2⟩), sI_1, if_neg (fun z => q ⟨by omega, z.2.1⟩), b2 f a b j (fun z => q ⟨by omega, z.2.1⟩), o1 f a b j q]
  · rw [c3]
    show σ2.2 = _
    rw [b3, a3]
    rfl
  · rw [c2 _ _ _ _ (fun z => absurd z.1.1 (by decide)), sI_o (by decide), b2 _ _ _ _ (fun z => absurd z.1 (by decide)), z1]
