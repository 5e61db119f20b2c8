/-! the stamps of a person, as known -/
def lastB (P : Nat → Bool) : Nat → Option Nat
  | 0 => none
  | n + 1 => if P n = true then some n else lastB P n
theorem lastB_lt {P : Nat → Bool} : ∀ n r, lastB P n = some r → r < n ∧ P r = true
  | 0, r, h => absurd h (by simp [lastB])
  | n + 1, r, h => by
    unfold lastB at h
    by_cases c : P n = true
    · rw [if_pos c] at h
      cases h
      exact ⟨by omega, c⟩
    · rw [if_neg c] at h
      have := lastB_lt n r h
      exact ⟨by omega, this.2⟩
def oI : Option Nat → Int32
  | none => -1
  | some r => nI r
def rowP (μ : St) (p y k r : Nat) : Bool := decide (μ.1 220 0 0 r = nI p) && decide (μ.1 221 0 0 r = nI y) && decide (μ.1 223 0 0 r ≤ nI k)
def rowL (μ : St) (p y k : Nat) : Option Nat := lastB (rowP μ p y k) (μ.1 216 0 0 0).toNatClampNeg
def retP (μ : St) (p w k r : Nat) : Bool := decide (μ.1 225 0 0 r = nI p) && decide (μ.1 226 0 0 r = nI w) && decide (μ.1 228 0 0 r ≤ nI k)
def retV (μ : St) : Option Nat → Int32
  | none => -1
  | some r => μ.1 227 0 0 r
def rtn (μ : St) (p k w : Nat) : Int32 := retV μ (lastB (retP μ p w k) (μ.1 217 0 0 0).toNatClampNeg)
def inRw (μ : St) (p k w : Nat) : Int32 := match rowL μ p (w / 52) k with
  | none => -1
  | some r => if nI (w % 52) < μ.1 222 0 0 r then μ.1 224 0 0 (52 * r + w % 52) else -1
theorem inRw_s {μ : St} {p k w r : Nat} (h : rowL μ p (w / 52) k = some r) : inRw μ p k w = if nI (w % 52) < μ.1 222 0 0 r then μ.1 224 0 0 (52 * r + w % 52) else -1 := by
  unfold inRw
  rw [h]
def stOf (μ : St) (p k w : Nat) : Int32 := if inRw μ p k w = -1 then rtn μ p k w else inRw μ p k w
theorem Rng.at {μ : St} (h : Rng μ) {g : Nat} {lo hi : Int} (i : Nat) (hm : (g, lo, hi) ∈ rngF) : lo ≤ (μ.1 g 0 0 i).toInt ∧ (μ.1 g 0 0 i).toInt ≤ hi := h _ hm i
theorem Eq1.at {σ μ : St} (h : Eq1 σ μ) {f g : Nat} (i : Nat) (hm : (f, g) ∈ eqF) : σ.1 f 0 0 i = μ.1 g 0 0 i := h _ hm i
theorem i8s {x : Int32} (h1 : -1 ≤ x.toInt) (h2 : x.toInt ≤ 6) : x.toInt8.toInt32 = x ∧ x.toInt8.toInt32.toInt8.toInt32 = x := by
  have : ∃ k : Nat, k < 8 ∧ x = nI k - 1 := by
    refine ⟨(x.toInt + 1).toNat, by omega, ?_⟩
    apply Int32.toInt_inj.mp
    rw [nI_m1 (by omega)]
    omega
  obtain ⟨k, hk, rfl⟩ := this
  have : ∀ k, k < 8 → (nI k - 1).toInt8.toInt32 = nI k - 1 ∧ (nI k - 1).toInt8.toInt32.toInt8.toInt32 = nI k - 1 := by decide +kernel
  exact this k hk
theorem latest_e {N p y k : Nat} {σ μ : St} (hE : Eq1 σ μ) (hR : Rng μ) : ∀ (n m : Nat), n ≤ 60 → n < m → fBooks_latestRow_8 N m (nI p) (nI y) (nI k) (nI n - 1) σ = some (oI (lastB (rowP μ p y k) n)) := by
  intro n
  induction n with
  | zero =>
    intro m h1 h2
    obtain ⟨m, rfl⟩ : ∃ q, m = q + 1 := ⟨m - 1, by omega⟩
    rfl
  | succ n ih =>
    intro m h1 h2
    obtain ⟨m, rfl⟩ : ∃ q, m = q + 1 := ⟨m - 1, by omega⟩
    rw [nI_sub1]
    show (if nI n < 0 then _ else chk (inb (nI n) 60) (if σ.1 17 0 0 (nI n).toNatClampNeg = nI p then (if σ.1 18 0 0 (nI n).toNatClampNeg = nI y then (if nI k < σ.1 20 0 0 (nI n).toNatClampNeg then fBooks_latestRow_8 N m (nI p) (nI y) (nI k) (nI n + (-1)) σ else some (nI n)) else fBooks_latestRow_8 N m (nI p) (nI y) (nI k) (nI n + (-1)) σ) else fBooks_latestRow_8 N m (nI p) (nI y) (nI k) (nI n + (-1)) σ)) = some (oI (if rowP μ p y k n = true then some n else lastB (rowP μ p y k) n))
    rw [if_neg (nI_pos (by omega)), chk_t (inb_n (by omega) (by decide)), nI_clamp (by omega), ← Int32.sub_eq_add_neg, ih m (by omega) (by omega), hE.at (g := 220) n (by decide), hE.at (g := 221) n (by decide), hE.at (g := 223) n (by decide)]
    unfold rowP
    by_cases c1 : μ.1 220 0 0 n = nI p
    · rw [if_pos c1]
      by_cases c2 : μ.1 221 0 0 n = nI y
      · rw [if_pos c2]
        by_cases c3 : nI k < μ.1 223 0 0 n
        · rw [if_pos c3, if_neg (by simp [c1, c2]; exact c3)]
        · rw [if_neg c3, if_pos (by simp [c1, c2]; exact Int32.not_lt.mp c3)]
          rfl
      · rw [if_neg c2, if_neg (by simp [c2])]
    · rw [if_neg c1, if_neg (by simp [c1])]
def StX (v p : Nat) (σ σ' : St) : Prop := (∀ f a b i, ¬ (f = 80 ∧ a = v ∧ b = p) → σ'.1 f a b i = σ.1 f a b i) ∧ σ'.2 = σ.2
theorem StX.s {v p i : Nat} {σ : St} {x : Int32} : StX v p σ (sI σ 80 v p i x) := ⟨fun f a b j q => by rw [sI_1, if_neg (fun z => q ⟨z.1, z.2.1, z.2.2.1⟩)], rfl⟩
theorem StX.tr {v p : Nat} {σ σ' σ'' : St} (h : StX v p σ σ') (h2 : StX v p σ' σ'') : StX v p σ σ'' := ⟨fun f a b i e => (h2.1 f a b i e).trans (h.1 f a b i e), h2.2.trans h.2⟩
theorem StX.eq {v p : Nat} {σ σ' μ : St} (h : StX v p σ σ') (hE : Eq1 σ μ) : Eq1 σ' μ := by
  intro q hq i
  rw [← hE q hq i]
  refine h.1 _ _ _ _ (fun z => ?_)
  have : eqF.all (fun q => q.1 != 80) = true := by decide
  have := List.all_eq_true.mp this q hq
  rw [z.1] at this
  exact absurd this (by decide)
theorem fillT {N v p : Nat} : ∀ (e i m : Nat) (σ : St), i + e = 156 → e < m → ∃ σ', fArrays_fill_Life_stamps_5 N v p m (-1) (nI i) 156 σ = some σ' ∧ StX v p σ σ' ∧ (∀ j, j < i → σ'.1 80 v p j = σ.1 80 v p j) ∧ (∀ j, i ≤ j → j < 156 → σ'.1 80 v p j = -1) := by
  intro e
  induction e with
  | zero =>
    intro i m σ h1 h2
    obtain ⟨m, rfl⟩ : ∃ q, m = q + 1 := ⟨m - 1, by omega⟩
    obtain rfl : i = 156 := by omega
    exact ⟨σ, rfl, ⟨fun _ _ _ _ _ => rfl, rfl⟩, fun _ _ => rfl, fun j a b => by omega⟩
  | succ e ih =>
    intro i m σ h1 h2
    obtain ⟨m, rfl⟩ : ∃ q, m = q + 1 := ⟨m - 1, by omega⟩
    obtain ⟨σ', k1, k2, k4, k5⟩ := ih (i + 1) m (sI σ 80 v p i (-1)) (by omega) (by omega)
    refine ⟨σ', ?_, StX.s.tr k2, fun j hj => ?_, fun j hj hj2 => ?_⟩
    · show (if (156 : Int32) ≤ nI i then _ else chk (inb (nI i) 156) (nm (sI σ 80 v p (nI i).toNatClampNeg (-1 : Int32).toInt8.toInt32) fun (σ1 : St) => fArrays_fill_Life_stamps_5 N v p m (-1) (nI i + 1) 156 σ1)) = _
      rw [if_neg (show ¬ (156 : Int32) ≤ nI i from nI_ge (a := i) (b := 156) (by omega) (by omega)), chk_t (inb_n (by omega) (by decide)), nmx, nI_clamp (by omega), nI_1, ← k1]
      rfl
    · rw [k4 j (by omega), sI_i (by omega)]
    · by_cases c : j = i
      · rw [c, k4 i (by omega), sI_s]
      · exact k5 j (by omega) hj2
theorem ret_loop {N v p x k cnt : Nat} {μ : St} (hR : Rng μ) (hcnt : μ.1 217 0 0 0 = nI cnt) (hc : cnt ≤ 100) : ∀ (e i m : Nat) (σ : St), i + e = cnt → e < m → Eq1 σ μ → (∀ w, w < 156 → σ.1 80 v p w = retV μ (lastB (retP μ x w k) i)) → ∃ σ', fBooks_copyStamps_8 N v p m (nI x) (nI k) (nI i) σ = fBooks_copyStamps_65 N v p N (nI x) (nI k) 0 σ' ∧ StX v p σ σ' ∧ (∀ w, w < 156 → σ'.1 80 v p w = rtn μ x k w) := by
  intro e
  induction e with
  | zero =>
    intro i m σ h1 h2 hE h3
    obtain ⟨m, rfl⟩ : ∃ q, m = q + 1 := ⟨m - 1, by omega⟩
    obtain rfl : i = cnt := by omega
    refine ⟨σ, ?_, ⟨fun _ _ _ _ _ => rfl, rfl⟩, fun w hw => ?_⟩
    · show (if σ.1 26 0 0 0 ≤ nI i then _ else _) = _
      rw [hE.at (g := 217) 0 (by decide), hcnt, if_pos (Int32.le_refl _)]
    · rw [h3 w hw]
      unfold rtn
      rw [hcnt, nI_clamp (by omega)]
  | succ e ih =>
    intro i m σ h1 h2 hE h3
    obtain ⟨m, rfl⟩ : ∃ q, m = q + 1 := ⟨m - 1, by omega⟩
    obtain ⟨w0, w1, w2, w3, w4, w5⟩ := hR.n (g := 226) (lo := 0) (hi := 155) i (by decide) (by decide)
    have hd := hR.at (g := 227) (lo := -1) (hi := 6) i (by decide)
    have e0 : fBooks_copyStamps_8 N v p (m + 1) (nI x) (nI k) (nI i) σ = if μ.1 225 0 0 i = nI x ∧ μ.1 228 0 0 i ≤ nI k then fBooks_copyStamps_8 N v p m (nI x) (nI k) (nI (i + 1)) (sI σ 80 v p w0 (μ.1 227 0 0 i)) else fBooks_copyStamps_8 N v p m (nI x) (nI k) (nI (i + 1)) σ := by
      show (if σ.1 26 0 0 0 ≤ nI i then _ else chk (inb (nI i) 100) (if σ.1 22 0 0 (nI i).toNatClampNeg = nI x then (if nI k < σ.1 25 0 0 (nI i).toNatClampNeg then fBooks_copyStamps_8 N v p m (nI x) (nI k) (nI i + 1) σ else chk (inb (σ.1 23 0 0 (nI i).toNatClampNeg) 156) (nm (sI σ 80 v p (σ.1 23 0 0 (nI i).toNatClampNeg).toNatClampNeg (σ.1 24 0 0 (nI i).toNatClampNeg).toInt8.toInt32.toInt8.toInt32) fun (σ1 : St) => fBooks_copyStamps_8 N v p m (nI x) (nI k) (nI i + 1) σ1)) else fBooks_copyStamps_8 N v p m (nI x) (nI k) (nI i + 1) σ)) = _
      rw [hE.at (g := 217) 0 (by decide), hcnt, if_neg (nI_ge (by omega) (by omega)), chk_t (inb_n (by omega) (by decide)), nI_clamp (by omega), hE.at (g := 225) i (by decide), hE.at (g := 228) i (by decide), hE.at (g := 226) i (by decide), hE.at (g := 227) i (by decide), w1, chk_t (inb_n (by omega) (by decide)), nmx, w3, nI_1, (i8s (by omega) (by omega)).2]
      by_cases c1 : μ.1 225 0 0 i = nI x
      · rw [if_pos c1]
        by_cases c2 : nI k < μ.1 228 0 0 i
        · rw [if_pos c2, if_neg (fun q => absurd c2 (Int32.not_lt.mpr q.2))]
        · rw [if_neg c2, if_pos ⟨c1, Int32.not_lt.mp c2⟩]
      · rw [if_neg c1, if_neg (fun q => c1 q.1)]
    have el : ∀ w, lastB (retP μ x w k) (i + 1) = if retP μ x w k i = true then some i else lastB (retP μ x w k) i := fun _ => rfl
    rw [e0]
    by_cases c : μ.1 225 0 0 i = nI x ∧ μ.1 228 0 0 i ≤ nI k
    · rw [if_pos c]
      obtain ⟨σ', i1, i2, i3⟩ := ih (i + 1) m (sI σ 80 v p w0 (μ.1 227 0 0 i)) (by omega) (by omega) (StX.s.eq hE) (fun w hw => by
        rw [el w]
        by_cases z : w = w0
        · rw [z, sI_s, if_pos (by simp [retP, c.1, c.2, w1])]
          rfl
        · rw [sI_i z, h3 w hw, if_neg]
          intro q
          simp only [retP, Bool.and_eq_true, decide_eq_true_eq] at q
          exact z ((nI_eq (by omega) (by omega)).mp (q.1.2.symm.trans w1)))
      exact ⟨σ', i1, StX.s.tr i2, i3⟩
    · rw [if_neg c]
      exact ih (i + 1) m σ (by omega) (by omega) hE (fun w hw => by
        rw [el w, h3 w hw, if_neg]
        intro q
        simp only [retP, Bool.and_eq_true, decide_eq_true_eq] at q
        exact c ⟨q.1.1, q.2⟩)
theorem row_loop {N v p r y len : Nat} {x1 x2 : Int32} {μ : St} {go : Int32 → Int32 → Int32 → St → Option St} (hR : Rng μ) (hr : r < 60) (hy : y < 3) (hl : len ≤ 52) : ∀ (e i m : Nat) (σ : St), i + e = len → e < m → Eq1 σ μ → ∃ σ', fBooks_copyStamps_103 N v p go m x1 x2 (nI y) (nI r) (nI len) (nI i) σ = go x1 x2 (nI (y + 1)) σ' ∧ StX v p σ σ' ∧ (∀ w, w < 156 → σ'.1 80 v p w = if 52 * y + i ≤ w ∧ w < 52 * y + len then μ.1 224 0 0 (52 * r + (w - 52 * y)) else σ.1 80 v p w) := by
  intro e
  induction e with
  | zero =>
    intro i m σ h1 h2 hE
    obtain ⟨m, rfl⟩ : ∃ q, m = q + 1 := ⟨m - 1, by omega⟩
    obtain rfl : i = len := by omega
    refine ⟨σ, ?_, ⟨fun _ _ _ _ _ => rfl, rfl⟩, fun w hw => by rw [if_neg (by omega)]⟩
    show (if nI i ≤ nI i then go x1 x2 (nI y + 1) σ else _) = _
    rw [if_pos (Int32.le_refl _), nI_1]
  | succ e ih =>
    intro i m σ h1 h2 hE
    obtain ⟨m, rfl⟩ : ∃ q, m = q + 1 := ⟨m - 1, by omega⟩
    have hs := hR.at (g := 224) (lo := 0) (hi := 6) (52 * r + i) (by decide)
    have e1 : nI r * 52 + nI i = nI (52 * r + i) := by rw [show nI r * 52 = nI (r * 52) from (Int32.ofNat_mul r 52).symm, nI_add, Nat.mul_comm]
    have e2 : nI y * 52 + nI i = nI (52 * y + i) := by rw [show nI y * 52 = nI (y * 52) from (Int32.ofNat_mul y 52).symm, nI_add, Nat.mul_comm]
    obtain ⟨σ', i1, i2, i3⟩ := ih (i + 1) m (sI σ 80 v p (52 * y + i) (μ.1 224 0 0 (52 * r + i))) (by omega) (by omega) (StX.s.eq hE)
    refine ⟨σ', ?_, StX.s.tr i2, fun w hw => ?_⟩
    · show (if nI len ≤ nI i then _ else chk (inb (nI r * 52 + nI i) 3120) (chk (inb (nI y * 52 + nI i) 156) (nm (sI σ 80 v p (nI y * 52 + nI i).toNatClampNeg (σ.1 16 0 0 (nI r * 52 + nI i).toNatClampNeg).toInt8.toInt32) fun (σ1 : St) => fBooks_copyStamps_103 N v p go m x1 x2 (nI y) (nI r) (nI len) (nI i + 1) σ1))) = _
      rw [if_neg (nI_ge (by omega) (by omega)), e1, e2, chk_t (inb_n (by omega) (by decide)), chk_t (inb_n (by omega) (by decide)), nmx, nI_clamp (by omega), nI_clamp (by omega), nI_1, hE.at (g := 224) (52 * r + i) (by decide), (i8s (by omega) (by omega)).1, i1]
    · rw [i3 w hw]
      by_cases c1 : 52 * y + (i + 1) ≤ w ∧ w < 52 * y + len
      · rw [if_pos c1, if_pos (by omega)]
      · rw [if_neg c1]
        by_cases c2 : w = 52 * y + i
        · rw [c2, sI_s, if_pos (by omega), show 52 * r + (52 * y + i - 52 * y) = 52 * r + i by omega]
        · rw [sI_i c2, if_neg (by omega)]
theorem year_loop {N v p x k : Nat} {μ : St} (hN : 100 ≤ N) (hR : Rng μ) : ∀ (e y m : Nat) (σ : St), y + e = 3 → e < m → Eq1 σ μ → (∀ w, w < 156 → σ.1 80 v p w = if w < 52 * y then stOf μ x k w else rtn μ x k w) → ∃ σ', fBooks_copyStamps_65 N v p m (nI x) (nI k) (nI y) σ = some σ' ∧ StX v p σ σ' ∧ (∀ w, w < 156 → σ'.1 80 v p w = stOf μ x k w) := by
  intro e
  induction e with
  | zero =>
    intro y m σ h1 h2 hE h3
    obtain ⟨m, rfl⟩ : ∃ q, m = q + 1 := ⟨m - 1, by omega⟩
    obtain rfl : y = 3 := by omega
    exact ⟨σ, rfl, ⟨fun _ _ _ _ _ => rfl, rfl⟩, fun w hw => by rw [h3 w hw, if_pos (by omega)]⟩
  | succ e ih =>
    intro y m σ h1 h2 hE h3
    obtain ⟨m, rfl⟩ : ∃ q, m = q + 1 := ⟨m - 1, by omega⟩
    obtain ⟨nr, r1, r2, r3, r4, r5⟩ := hR.n (g := 216) (lo := 0) (hi := 60) 0 (by decide) (by decide)
    have er : fBooks_latestRow N (nI x) (nI y) (nI k) σ = some (oI (rowL μ x y k)) := by
      unfold fBooks_latestRow rowL
      rw [hE.at (g := 216) 0 (by decide), r1, nmx, latest_e hE hR nr N (by omega) (by omega), r3]
    have e0 : fBooks_copyStamps_65 N v p (m + 1) (nI x) (nI k) (nI y) σ = if oI (rowL μ x y k) = -1 then fBooks_copyStamps_98 N v p (fBooks_copyStamps_65 N v p m) (nI x) (nI k) (nI y) (oI (rowL μ x y k)) 0 σ else chk (inb (oI (rowL μ x y k)) 60) (fBooks_copyStamps_98 N v p (fBooks_copyStamps_65 N v p m) (nI x) (nI k) (nI y) (oI (rowL μ x y k)) (σ.1 19 0 0 (oI (rowL μ x y k)).toNatClampNeg) σ) := by
      show (if (3 : Int32) ≤ nI y then _ else bn1 (fBooks_latestRow N (nI x) (nI y) (nI k) σ) fun r1 => _) = _
      rw [if_neg (show ¬ (3 : Int32) ≤ nI y from nI_ge (a := y) (b := 3) (by omega) (by omega)), er, bn1_e]
    rw [e0]
    have skip : ∀ (z : Int32) (l : Int32), l ≤ 0 → (∀ w, 52 * y ≤ w → w < 52 * y + 52 → inRw μ x k w = -1) → ∃ σ', fBooks_copyStamps_98 N v p (fBooks_copyStamps_65 N v p m) (nI x) (nI k) (nI y) z l σ = some σ' ∧ StX v p σ σ' ∧ (∀ w, w < 156 → σ'.1 80 v p w = stOf μ x k w) := by
      intro z l hl hi
      obtain ⟨σ', i1, i2, i3⟩ := ih (y + 1) m σ (by omega) (by omega) hE (fun w hw => by
        rw [h3 w hw]
        by_cases c1 : w < 52 * y
        · rw [if_pos c1, if_pos (by omega)]
        · rw [if_neg c1]
          by_cases c2 : w < 52 * (y + 1)
          · rw [if_pos c2]
            unfold stOf
            rw [if_pos (hi w (by omega) (by omega))]
          · rw [if_neg c2])
      refine ⟨σ', ?_, i2, i3⟩
      unfold fBooks_copyStamps_98
      obtain ⟨M, hM⟩ : ∃ q, N = q + 1 := ⟨N - 1, by omega⟩
      have : fBooks_copyStamps_103 N v p (fBooks_copyStamps_65 N v p m) (M + 1) (nI x) (nI k) (nI y) z l 0 σ = fBooks_copyStamps_65 N v p m (nI x) (nI k) (nI y + 1) σ := by
        show (if l ≤ 0 then _ else _) = _
        rw [if_pos hl]
      rw [← hM] at this
      rw [this, nI_1, i1]
    have wy : ∀ w, 52 * y ≤ w → w < 52 * y + 52 → w / 52 = y := fun w a b => by omega
    cases hrow : rowL μ x y k with
    | none =>
      rw [if_pos (show oI none = -1 from rfl)]
      refine skip _ 0 (by decide) (fun w a b => ?_)
      unfold inRw
      rw [wy w a b, hrow]
    | some r =>
      obtain ⟨l1, l2⟩ := lastB_lt _ _ hrow
      rw [r1, r3] at l1
      rw [if_neg (show ¬ oI (some r) = -1 from m1_ne (by omega)), show oI (some r) = nI r from rfl, chk_t (inb_n (by omega) (by decide)), nI_clamp (by omega), hE.at (g := 222) r (by decide)]
      have hm := hR.at (g := 222) (lo := -1) (hi := 52) r (by decide)
      by_cases c : μ.1 222 0 0 r ≤ 0
      · refine skip _ _ c (fun w a b => ?_)
        unfold inRw
        rw [wy w a b, hrow]
        dsimp only
        rw [if_neg]
        intro q
        rw [Int32.lt_iff_toInt_lt, nI_toInt (by omega)] at q
        rw [Int32.le_iff_toInt_le] at c
        rw [Int32.toInt_zero] at c
        omega
      · have c' : 0 < (μ.1 222 0 0 r).toInt := by
          rw [Int32.le_iff_toInt_le, Int32.toInt_zero] at c
          omega
        have hlen := nI_self (x := μ.1 222 0 0 r) (by omega)
        obtain ⟨len, hlen2⟩ : ∃ len, len = (μ.1 222 0 0 r).toNatClampNeg := ⟨_, rfl⟩
        rw [← hlen2] at hlen
        rw [hlen] at hm ⊢
        have l52 : len ≤ 52 := by
          rw [nI_toInt (by rw [hlen2]; have e : (μ.1 222 0 0 r).toNatClampNeg = (μ.1 222 0 0 r).toInt.toNat := rfl; have := Int32.toInt_lt (μ.1 222 0 0 r); omega)] at hm
          omega
        obtain ⟨σ1, j1, j2, j3⟩ := row_loop (N := N) (v := v) (p := p) (r := r) (y := y) (len := len) (x1 := nI x) (x2 := nI k) (go := fBooks_copyStamps_65 N v p m) hR (by omega) (by omega) l52 len 0 N σ (by omega) (by omega) hE
        obtain ⟨σ', i1, i2, i3⟩ := ih (y + 1) m σ1 (by omega) (by omega) (j2.eq hE) (fun w hw => by
          rw [j3 w hw, Nat.add_zero]
          by_cases c1 : 52 * y ≤ w ∧ w < 52 * y + len
          · rw [if_pos c1, if_pos (by omega)]
            unfold stOf
            rw [inRw_s ((congrArg (fun z => rowL μ x z k) (wy w c1.1 (by omega))).trans hrow)]
            have hw2 : w % 52 = w - 52 * y := by omega
            rw [if_pos (show nI (w % 52) < μ.1 222 0 0 r by rw [hlen]; exact nI_lt (by omega) (by omega)), hw2, if_neg]
            have hs := hR.at (g := 224) (lo := 0) (hi := 6) (52 * r + (w - 52 * y)) (by decide)
            intro q
            rw [q] at hs
            exact absurd hs.1 (by decide)
          · rw [if_neg c1, h3 w hw]
            by_cases c2 : w < 52 * y
            · rw [if_pos c2, if_pos (by omega)]
            · rw [if_neg c2]
              by_cases c3 : w < 52 * (y + 1)
              · rw [if_pos c3]
                unfold stOf
                rw [inRw_s ((congrArg (fun z => rowL μ x z k) (wy w (by omega) (by omega))).trans hrow)]
                rw [if_neg (show ¬ nI (w % 52) < μ.1 222 0 0 r by rw [hlen]; exact nI_nlt (by omega) (by omega)), if_pos rfl]
              · rw [if_neg c3])
        refine ⟨σ', ?_, j2.tr i2, i3⟩
        unfold fBooks_copyStamps_98
        rw [show fBooks_copyStamps_103 N v p (fBooks_copyStamps_65 N v p m) N (nI x) (nI k) (nI y) (nI r) (nI len) 0 σ = _ from j1, i1]
theorem copySt_e {N v p x k : Nat} {σ μ : St} (hN : 200 ≤ N) (hE : Eq1 σ μ) (hR : Rng μ) : ∃ σ', fBooks_copyStamps N v p (nI x) (nI k) σ = some σ' ∧ StX v p σ σ' ∧ (∀ w, w < 156 → σ'.1 80 v p w = stOf μ x k w) := by
  obtain ⟨nr, r1, r2, r3, r4, r5⟩ := hR.n (g := 217) (lo := 0) (hi := 100) 0 (by decide) (by decide)
  obtain ⟨σ1, a1, a2, -, a4⟩ := fillT (N := N) (v := v) (p := p) 156 0 N σ (by omega) (by omega)
  obtain ⟨σ2, b1, b2, b3⟩ := ret_loop (N := N) (v := v) (p := p) (x := x) (k := k) (cnt := nr) hR r1 (by omega) nr 0 N σ1 (by omega) (by omega) (a2.eq hE) (fun w hw => by rw [a4 w (by omega) hw]; rfl)
  obtain ⟨σ3, c1, c2, c3⟩ := year_loop (N := N) (v := v) (p := p) (x := x) (k := k) (by omega) hR 3 0 N σ2 (by omega) (by omega) (b2.eq (a2.eq hE)) (fun w hw => by rw [if_neg (by omega), b3 w hw])
  refine ⟨σ3, ?_, (a2.tr b2).tr c2, c3⟩
  unfold fBooks_copyStamps fArrays_fill_Life_stamps
  rw [show fArrays_fill_Life_stamps_5 N v p N (-1) 0 156 σ = some σ1 from a1, bn1_e, show fBooks_copyStamps_8 N v p N (nI x) (nI k) 0 σ1 = _ from b1]
  exact c1
