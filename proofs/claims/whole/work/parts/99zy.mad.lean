/-! the reference settles a week -/
theorem sJ_sJ (σ : St) (f a b i : Nat) (x y : Int64) : sJ (sJ σ f a b i x) f a b i y = sJ σ f a b i y := by
  refine Prod.ext rfl (funext fun f' => funext fun a' => funext fun b' => funext fun i' => ?_)
  show (if f' = f ∧ a' = a ∧ b' = b ∧ i' = i then y else (if f' = f ∧ a' = a ∧ b' = b ∧ i' = i then x else σ.2 f' a' b' i')) = if f' = f ∧ a' = a ∧ b' = b ∧ i' = i then y else σ.2 f' a' b' i'
  by_cases c : f' = f ∧ a' = a ∧ b' = b ∧ i' = i
  · rw [if_pos c, if_pos c]
  · rw [if_neg c, if_neg c, if_neg c]
def jN (n : Nat) : Int64 := (nI n).toInt64
theorem jN_t {n : Nat} (h : n < 2 ^ 31) : (jN n).toInt = (n : Int) := w64 h
theorem jN_add {a b : Nat} (h : a + b < 2 ^ 31) : jN a + jN b = jN (a + b) := Int64.toInt_inj.mp (by
  rw [Int64.toInt_add, jN_t (by omega), jN_t (by omega), jN_t h]
  exact Int.bmod_eq_of_le (by omega) (by omega))
theorem jN_sub {a b : Nat} (h : a < 2 ^ 31) (h2 : b < 2 ^ 31) : (jN a - jN b).toInt = (a : Int) - b := by
  rw [Int64.toInt_sub, jN_t h, jN_t h2]
  exact Int.bmod_eq_of_le (by omega) (by omega)
/-- a stamped day of a week -/
def wd (μ : St) (p i : Nat) : Nat := if (μ.1 304 0 0 (624 * p + i) = 7 ∨ μ.1 304 0 0 (624 * p + i) = 6) ∧ ((μ.1 307 0 0 i >>> (μ.1 211 0 0 p &&& 31)) &&& 1) = 1 then 1 else 0
def wP (μ : St) (i : Nat) : Nat → Nat
  | 0 => 0
  | p + 1 => wP μ i p + wd μ p i
def wW (μ : St) (P i : Nat) : Nat → Nat
  | 0 => 0
  | j + 1 => wW μ P i j + wP μ (i + j) P
theorem wd_le (μ : St) (p i : Nat) : wd μ p i ≤ 1 := by
  unfold wd
  split <;> omega
theorem wP_le (μ : St) (i : Nat) : ∀ p, wP μ i p ≤ p
  | 0 => Nat.le_refl 0
  | p + 1 => by
    have h1 := wP_le μ i p
    have h2 := wd_le μ p i
    show wP μ i p + wd μ p i ≤ p + 1
    omega
theorem wW_le (μ : St) (P i : Nat) : ∀ j, wW μ P i j ≤ P * j
  | 0 => Nat.le_refl 0
  | j + 1 => by
    have h1 := wW_le μ P i j
    have h2 := wP_le μ (i + j) P
    show wW μ P i j + wP μ (i + j) P ≤ P * (j + 1)
    rw [Nat.mul_succ]
    omega
theorem settle54 {N s i P x : Nat} {go : Int64 → Int32 → St → Option St} {μ : St} (hP : μ.1 208 0 0 0 = nI P) (hP2 : P ≤ 20) (hi : i < 624) (hs : s < 100000) (hx : x ≤ 20000000) : ∀ (e p m : Nat), p + e = P → e < m → fM_settle_54 N go m (jN s) (nI (312 + i)) (nI p) (sJ μ 313 0 0 0 (jN (x + s * wP μ i p))) = go (jN s) (nI (312 + i + 1)) (sJ μ 313 0 0 0 (jN (x + s * wP μ i P))) := by
  intro e
  induction e with
  | zero =>
    intro p m h1 h2
    obtain ⟨m, rfl⟩ : ∃ q, m = q + 1 := ⟨m - 1, by omega⟩
    have : p = P := by omega
    subst this
    show (if (sJ μ 313 0 0 0 (jN (x + s * wP μ i p))).1 208 0 0 0 ≤ nI p then go (jN s) (nI (312 + i) + 1) (sJ μ 313 0 0 0 (jN (x + s * wP μ i p))) else _) = _
    rw [sJ_1, hP, if_pos (Int32.le_refl _), nI_1]
  | succ e ih =>
    intro p m h1 h2
    obtain ⟨m, rfl⟩ : ∃ q, m = q + 1 := ⟨m - 1, by omega⟩
    have ei : (624 : Int32) * nI p + nI (312 + i) - 312 = nI (624 * p + i) := by
      rw [show (624 : Int32) * nI p = nI (624 * p) from (Int32.ofNat_mul 624 p).symm, nI_add, show 624 * p + (312 + i) = 312 + (624 * p + i) by omega]
      exact nI_subl (a := 312) (k := 624 * p + i)
    have ej : nI (312 + i) - 312 = nI i := nI_subl (a := 312) (k := i)
    have wl := wP_le μ i p
    have b1 : s * wP μ i p ≤ s * 20 := Nat.mul_le_mul_left s (by omega)
    have s96 : fM_settle_96 N go (fM_settle_54 N go m) (jN s) (nI (312 + i)) (nI p) (sJ μ 313 0 0 0 (jN (x + s * wP μ i p))) = fM_settle_54 N go m (jN s) (nI (312 + i)) (nI (p + 1)) (sJ μ 313 0 0 0 (jN (x + s * (wP μ i p + if ((μ.1 307 0 0 i >>> (μ.1 211 0 0 p &&& 31)) &&& 1) = 1 then 1 else 0)))) := by
      unfold fM_settle_96
      rw [ej, chk_t (inb_n (by omega) (by decide)), chk_t (inb_n (by omega) (by decide)), sJ_1, sJ_1, nI_clamp (by omega), nI_clamp (by omega), nI_1]
      by_cases c : ((μ.1 307 0 0 i >>> (μ.1 211 0 0 p &&& 31)) &&& 1) = 1
      · rw [if_pos c, if_pos c, nmx, sJ_s, sJ_sJ, jN_add (by omega), show x + s * wP μ i p + s = x + s * (wP μ i p + 1) by rw [Nat.mul_succ]; omega]
      · rw [if_neg c, if_neg c, Nat.add_zero (wP μ i p)]
    have ih2 := ih (p + 1) m (by omega) (by omega)
    show (if (sJ μ 313 0 0 0 (jN (x + s * wP μ i p))).1 208 0 0 0 ≤ nI p then _ else chk (inb ((624 : Int32) * nI p + nI (312 + i) - 312) 12480) (nm ((sJ μ 313 0 0 0 (jN (x + s * wP μ i p))).1 304 0 0 ((624 : Int32) * nI p + nI (312 + i) - 312).toNatClampNeg) fun (y1 : Int32) => if y1 = 7 then fM_settle_96 N go (fM_settle_54 N go m) (jN s) (nI (312 + i)) (nI p) (sJ μ 313 0 0 0 (jN (x + s * wP μ i p))) else if y1 = 6 then fM_settle_96 N go (fM_settle_54 N go m) (jN s) (nI (312 + i)) (nI p) (sJ μ 313 0 0 0 (jN (x + s * wP μ i p))) else fM_settle_54 N go m (jN s) (nI (312 + i)) (nI p + 1) (sJ μ 313 0 0 0 (jN (x + s * wP μ i p))))) = _
    rw [sJ_1, hP, if_neg (nI_ge (by omega) (by omega)), ei, chk_t (inb_n (by omega) (by decide)), nI_clamp (by omega), nmx, sJ_1, s96, ← ih2]
    have ew : wP μ i (p + 1) = wP μ i p + wd μ p i := rfl
    rw [ew]
    unfold wd
    by_cases c7 : μ.1 304 0 0 (624 * p + i) = 7
    · rw [if_pos c7]
      by_cases c : ((μ.1 307 0 0 i >>> (μ.1 211 0 0 p &&& 31)) &&& 1) = 1
      · rw [if_pos c, if_pos (show (μ.1 304 0 0 (624 * p + i) = 7 ∨ μ.1 304 0 0 (624 * p + i) = 6) ∧ _ from ⟨Or.inl c7, c⟩)]
      · rw [if_neg c, if_neg (fun z => c z.2)]
    · rw [if_neg c7]
      by_cases c6 : μ.1 304 0 0 (624 * p + i) = 6
      · rw [if_pos c6]
        by_cases c : ((μ.1 307 0 0 i >>> (μ.1 211 0 0 p &&& 31)) &&& 1) = 1
        · rw [if_pos c, if_pos (show (μ.1 304 0 0 (624 * p + i) = 7 ∨ μ.1 304 0 0 (624 * p + i) = 6) ∧ _ from ⟨Or.inr c6, c⟩)]
        · rw [if_neg c, if_neg (fun z => c z.2)]
      · rw [if_neg c6, if_neg (fun z => z.1.elim c7 c6), Nat.add_zero (wP μ i p), nI_1]
theorem settle43 {N s i P t : Nat} {μ : St} (hN : 100 ≤ N) (hP : μ.1 208 0 0 0 = nI P) (hP2 : P ≤ 20) (hi : 312 + i + 5 = t) (ht : t < 936) (hd : μ.1 205 0 0 0 = nI t) (hs : s < 100000) : ∀ (e j m : Nat), j + e = 6 → e < m → fM_settle_43 N m (jN s) (nI (312 + i + j)) (sJ μ 313 0 0 0 (jN (s * wW μ P i j))) = fM_settle_149 N N 0 (sJ (sJ μ 313 0 0 0 (jN (s * wW μ P i 6))) 314 0 0 0 0) := by
  intro e
  induction e with
  | zero =>
    intro j m h1 h2
    obtain ⟨m, rfl⟩ : ∃ q, m = q + 1 := ⟨m - 1, by omega⟩
    have : j = 6 := by omega
    subst this
    show (if (sJ μ 313 0 0 0 (jN (s * wW μ P i 6))).1 205 0 0 0 < nI (312 + i + 6) then nm (sJ (sJ μ 313 0 0 0 (jN (s * wW μ P i 6))) 314 0 0 0 0) fun (σ1 : St) => fM_settle_149 N N 0 σ1 else _) = _
    rw [sJ_1, hd, if_pos (nI_lt (by omega) (by omega)), nmx]
  | succ e ih =>
    intro j m h1 h2
    obtain ⟨m, rfl⟩ : ∃ q, m = q + 1 := ⟨m - 1, by omega⟩
    have wl := wW_le μ P i j
    have b0 : P * j ≤ 20 * 6 := Nat.mul_le_mul hP2 (by omega)
    have b1 : s * wW μ P i j ≤ s * 120 := Nat.mul_le_mul_left s (by omega)
    show (if (sJ μ 313 0 0 0 (jN (s * wW μ P i j))).1 205 0 0 0 < nI (312 + i + j) then _ else fM_settle_54 N (fM_settle_43 N m) N (jN s) (nI (312 + i + j)) 0 (sJ μ 313 0 0 0 (jN (s * wW μ P i j)))) = _
    have h54 := settle54 (N := N) (s := s) (i := i + j) (P := P) (x := s * wW μ P i j) (go := fM_settle_43 N m) (μ := μ) hP hP2 (by omega) hs (by omega) P 0 N (by omega) (by omega)
    rw [show wP μ (i + j) 0 = 0 from rfl, Nat.mul_zero, Nat.add_zero, ← Nat.add_assoc 312 i j, ← Nat.mul_add] at h54
    rw [sJ_1, hd, if_neg (nI_nlt (by omega) (by omega))]
    exact h54.trans (ih (j + 1) m (by omega) (by omega))
/-- what is paid now -/
def yS (o w : Nat → Nat) : Nat → Nat
  | 0 => 0
  | p + 1 => yS o w p + (w p - o p)
theorem yS_le {o w : Nat → Nat} {B : Nat} : ∀ p, (∀ q, q < p → w q ≤ B) → yS o w p ≤ B * p
  | 0, _ => Nat.le_refl 0
  | p + 1, h => by
    have h1 := yS_le (o := o) p (fun q hq => h q (by omega))
    have h2 := h p (by omega)
    show yS o w p + (w p - o p) ≤ B * (p + 1)
    rw [Nat.mul_succ]
    omega
def finM (μ : St) : St := sI (sJ (sJ μ 312 0 0 0 (μ.2 312 0 0 0 + (μ.2 313 0 0 0 - μ.2 314 0 0 0))) 311 0 0 (irem (μ.1 315 0 0 0) 4).toNatClampNeg (μ.2 313 0 0 0 - μ.2 314 0 0 0)) 315 0 0 0 (μ.1 315 0 0 0 + 1)
theorem pyS_cc {μ μ' : St} {p : Nat} (h : ∀ i, μ'.2 308 0 0 i = μ.2 308 0 0 i) : ∀ n, pyS μ' p n = pyS μ p n
  | 0 => rfl
  | n + 1 => by
    show pyS μ' p n + _ = pyS μ p n + _
    rw [pyS_cc h n, h]
theorem settle149 {N t P w4 : Nat} {w o : Nat → Nat} (hN : 1000 ≤ N) (hP2 : P ≤ 20) (ht : 312 ≤ t) (ht2 : t < 936) (hw : ∀ q, q < P → w q ≤ 6240000) (ho : ∀ q, q < P → o q ≤ 6240000) : ∀ (e p m : Nat) (μ : St), p + e = P → e < m → μ.1 208 0 0 0 = nI P → μ.1 205 0 0 0 = nI t → μ.1 315 0 0 0 = nI w4 → w4 < 1000 → (∀ q, q < P → pyS μ q (t + 1 - 312) = jN (w q)) → (∀ q, p ≤ q → q < P → μ.2 309 0 0 q = jN (o q)) → μ.2 314 0 0 0 = jN (yS o w p) →
    ∃ μ', fM_settle_149 N m (nI p) μ = some (finM μ') ∧ μ'.1 = μ.1 ∧ (∀ f a b i, f ≠ 309 → f ≠ 310 → f ≠ 314 → μ'.2 f a b i = μ.2 f a b i) ∧ (∀ i, (i < p ∨ P ≤ i) → μ'.2 309 0 0 i = μ.2 309 0 0 i ∧ μ'.2 310 0 0 i = μ.2 310 0 0 i) ∧ (∀ q, p ≤ q → q < P → μ'.2 309 0 0 q = jN (max (o q) (w q)) ∧ μ'.2 310 0 0 q = jN (o q - w q)) ∧ μ'.2 314 0 0 0 = jN (yS o w P) := by
  intro e
  induction e with
  | zero =>
    intro p m μ h1 h2 g1 g2 g3 g4 g5 g6 g7
    obtain ⟨m, rfl⟩ : ∃ q, m = q + 1 := ⟨m - 1, by omega⟩
    have : p = P := by omega
    subst this
    refine ⟨μ, ?_, rfl, fun _ _ _ _ _ _ _ => rfl, fun _ _ => ⟨rfl, rfl⟩, fun q q1 q2 => by omega, g7⟩
    have e4 : irem (nI w4) 4 = nI (w4 % 4) := irem_n (a := w4) (b := 4) (by omega) (by omega) (by omega)
    show (if μ.1 208 0 0 0 ≤ nI p then nm (sJ μ 312 0 0 0 (μ.2 312 0 0 0 + (μ.2 313 0 0 0 - μ.2 314 0 0 0))) (fun (σ1 : St) => chk (inb (irem (σ1.1 315 0 0 0) 4) 4) (nm (sJ σ1 311 0 0 (irem (σ1.1 315 0 0 0) 4).toNatClampNeg ((σ1.2 313 0 0 0) - (σ1.2 314 0 0 0))) fun (σ2 : St) => nm (sI σ2 315 0 0 0 ((σ2.1 315 0 0 0) + 1)) fun (σ3 : St) => some σ3)) else _) = _
    unfold finM
    rw [g1, if_pos (Int32.le_refl _), nmx, sJ_1, g3, e4, chk_t (inb_n (by omega) (by decide)), nmx, nmx, sJ_o (by decide), sJ_o (by decide), sJ_1, sJ_1, g3]
  | succ e ih =>
    intro p m μ h1 h2 g1 g2 g3 g4 g5 g6 g7
    obtain ⟨m, rfl⟩ : ∃ q, m = q + 1 := ⟨m - 1, by omega⟩
    have hp := hw p (by omega)
    have hp2 := ho p (by omega)
    have yl := yS_le (o := o) (w := w) (B := 6240000) p (fun q hq => hw q (by omega))
    have yl2 : 6240000 * p ≤ 6240000 * 20 := Nat.mul_le_mul_left _ (by omega)
    have pu : fM_payUpTo N (nI p) (nI t) μ = some (jN (w p)) := (payUp_M (N := N) (p := p) (k := t) (μ := μ) (by omega) ht2 (t + 1 - 312) 0 N (by omega) (by omega)).trans (by rw [g5 p (by omega)])
    have sb := jN_sub (a := w p) (b := o p) (by omega) (by omega)
    have ng : (-(jN (w p) - jN (o p))).toInt = (o p : Int) - w p := by
      rw [Int64.toInt_neg, sb]
      exact (Int.bmod_eq_of_le (by omega) (by omega)).trans (by omega)
    have mx : fMath_max_J N 0 (-(jN (w p) - jN (o p))) μ = some (jN (o p - w p)) := by
      unfold fMath_max_J
      by_cases c : (0 : Int64) < -(jN (w p) - jN (o p))
      · rw [if_pos (show lg_cmp 0 (-(jN (w p) - jN (o p))) < 0 by rw [cmp_l]; exact c)]
        have c' := Int64.lt_iff_toInt_lt.mp c
        rw [ng, Int64.toInt_zero] at c'
        congr 1
        apply Int64.toInt_inj.mp
        rw [ng, jN_t (by omega)]
        omega
      · rw [if_neg (show ¬ lg_cmp 0 (-(jN (w p) - jN (o p))) < 0 by rw [cmp_l]; exact c)]
        have c' : ¬ (0 : Int64).toInt < (-(jN (w p) - jN (o p))).toInt := fun z => c (Int64.lt_iff_toInt_lt.mpr z)
        rw [ng, Int64.toInt_zero] at c'
        congr 1
        apply Int64.toInt_inj.mp
        rw [jN_t (by omega), Int64.toInt_zero]
        omega
    show ∃ μ', (if μ.1 208 0 0 0 ≤ nI p then _ else bn1 (fM_payUpTo N (nI p) (μ.1 205 0 0 0) μ) fun r4 => chk (inb (nI p) 20) <| nm ((r4 - (μ.2 309 0 0 (nI p).toNatClampNeg))) fun (y5 : Int64) => bn1 (fMath_max_J N 0 (-y5) μ) fun r6 => nm (sJ μ 310 0 0 (nI p).toNatClampNeg r6) fun (σ7 : St) => if 0 < (lg_cmp y5 0) then nm (sJ σ7 309 0 0 (nI p).toNatClampNeg ((σ7.2 309 0 0 (nI p).toNatClampNeg) + y5)) fun (σ8 : St) => nm (sJ σ8 314 0 0 0 ((σ8.2 314 0 0 0) + y5)) fun (σ9 : St) => (fM_settle_149 N m) (nI p + 1) σ9 else (fM_settle_149 N m) (nI p + 1) σ7) = some (finM μ') ∧ _
    rw [g1, if_neg (nI_ge (by omega) (by omega)), g2, pu, bn1_e, chk_t (inb_n (by omega) (by decide)), nI_clamp (by omega), nmx, g6 p (by omega) (by omega), mx, bn1_e, nmx, nI_1]
    by_cases c : 0 < lg_cmp (jN (w p) - jN (o p)) 0
    · have c' : o p < w p := by
        rw [cmp_p] at c
        have c2 := Int64.lt_iff_toInt_lt.mp c
        rw [sb, Int64.toInt_zero] at c2
        omega
      obtain ⟨ν, hν⟩ : ∃ ν, ν = sJ (sJ (sJ μ 310 0 0 p (jN (o p - w p))) 309 0 0 p (jN (w p))) 314 0 0 0 (jN (yS o w (p + 1))) := ⟨_, rfl⟩
      have e1 : jN (o p) + (jN (w p) - jN (o p)) = jN (w p) := Int64.toInt_inj.mp (by
        rw [Int64.toInt_add, jN_t (by omega), sb, jN_t (by omega)]
        exact (Int.bmod_eq_of_le (by omega) (by omega)).trans (by omega))
      have e2 : jN (yS o w p) + (jN (w p) - jN (o p)) = jN (yS o w (p + 1)) := Int64.toInt_inj.mp (by
        have z : yS o w (p + 1) = yS o w p + (w p - o p) := rfl
        rw [Int64.toInt_add, jN_t (by omega), sb, z, jN_t (by omega)]
        exact (Int.bmod_eq_of_le (by omega) (by omega)).trans (by omega))
      rw [if_pos c, nmx, sJ_o (by decide), g6 p (by omega) (by omega), e1, nmx, sJ_o (by decide), sJ_o (by decide), g7, e2, ← hν]
      have l1 : ν.1 = μ.1 := by rw [hν]; rfl
      have l2 : ∀ f a b i, f ≠ 309 → f ≠ 310 → f ≠ 314 → ν.2 f a b i = μ.2 f a b i := fun f a b i q1 q2 q3 => by rw [hν, sJ_o q3, sJ_o q1, sJ_o q2]
      have l3 : ∀ i, i ≠ p → ν.2 309 0 0 i = μ.2 309 0 0 i ∧ ν.2 310 0 0 i = μ.2 310 0 0 i := fun i q => ⟨by rw [hν, sJ_o (by decide), sJ_i q, sJ_o (by decide)], by rw [hν, sJ_o (by decide), sJ_o (by decide), sJ_i q]⟩
      obtain ⟨μ', r1, r2, r3, r4, r5, r6⟩ := ih (p + 1) m ν (by omega) (by omega) (by rw [l1]; exact g1) (by rw [l1]; exact g2) (by rw [l1]; exact g3) g4 (fun q hq => by rw [pyS_cc (fun i => l2 _ _ _ _ (by decide) (by decide) (by decide))]; exact g5 q hq) (fun q q1 q2 => by rw [(l3 q (by omega)).1]; exact g6 q (by omega) q2) (by rw [hν, sJ_s])
      refine ⟨μ', r1, r2.trans l1, fun f a b i q1 q2 q3 => (r3 f a b i q1 q2 q3).trans (l2 f a b i q1 q2 q3), fun i hi => ?_, fun q q1 q2 => ?_, r6⟩
      · obtain ⟨y1, y2⟩ := r4 i (by omega)
        obtain ⟨y3, y4⟩ := l3 i (by omega)
        exact ⟨y1.trans y3, y2.trans y4⟩
      · by_cases z : q = p
        · obtain ⟨y1, y2⟩ := r4 q (by omega)
          rw [z] at y1 y2
          rw [z, y1, y2, hν, sJ_o (by decide), sJ_s, sJ_o (by decide), sJ_o (by decide), sJ_s, show max (o p) (w p) = w p by omega]
          exact ⟨rfl, rfl⟩
        · exact r5 q (by omega) q2
    · have c' : w p ≤ o p := by
        rw [cmp_p] at c
        have c2 : ¬ (0 : Int64).toInt < (jN (w p) - jN (o p)).toInt := fun z => c (Int64.lt_iff_toInt_lt.mpr z)
        rw [sb, Int64.toInt_zero] at c2
        omega
      obtain ⟨ν, hν⟩ : ∃ ν, ν = sJ μ 310 0 0 p (jN (o p - w p)) := ⟨_, rfl⟩
      rw [if_neg c, ← hν]
      have l1 : ν.1 = μ.1 := by rw [hν]; rfl
      have l2 : ∀ f a b i, f ≠ 310 → ν.2 f a b i = μ.2 f a b i := fun f a b i q2 => by rw [hν, sJ_o q2]
      have l3 : ∀ i, i ≠ p → ν.2 310 0 0 i = μ.2 310 0 0 i := fun i q => by rw [hν, sJ_i q]
      have z0 : yS o w (p + 1) = yS o w p := by
        show yS o w p + (w p - o p) = yS o w p
        omega
      obtain ⟨μ', r1, r2, r3, r4, r5, r6⟩ := ih (p + 1) m ν (by omega) (by omega) (by rw [l1]; exact g1) (by rw [l1]; exact g2) (by rw [l1]; exact g3) g4 (fun q hq => by rw [pyS_cc (fun i => l2 _ _ _ _ (by decide))]; exact g5 q hq) (fun q q1 q2 => by rw [l2 _ _ _ _ (by decide)]; exact g6 q (by omega) q2) (by rw [l2 _ _ _ _ (by decide), z0]; exact g7)
      refine ⟨μ', r1, r2.trans l1, fun f a b i q1 q2 q3 => (r3 f a b i q1 q2 q3).trans (l2 f a b i q2), fun i hi => ?_, fun q q1 q2 => ?_, r6⟩
      · obtain ⟨y1, y2⟩ := r4 i (by omega)
        exact ⟨y1.trans (l2 _ _ _ _ (by decide)), y2.trans (l3 i (by omega))⟩
      · by_cases z : q = p
        · obtain ⟨y1, y2⟩ := r4 q (by omega)
          rw [z] at y1 y2
          rw [z, y1, y2, hν, sJ_o (by decide), sJ_s, g6 p (by omega) (by omega), show max (o p) (w p) = o p by omega]
          exact ⟨rfl, rfl⟩
        · exact r5 q (by omega) q2
