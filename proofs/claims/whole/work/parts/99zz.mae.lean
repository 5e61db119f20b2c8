/-! the class pays a week -/
theorem wk6 {t : Nat} (h : 6 ≤ t) (ht : t < 936) : nI t - 6 + 1 = nI (t - 5) := by
  have : ∀ t, t < 936 → 6 ≤ t → nI t - 6 + 1 = nI (t - 5) := by decide +kernel
  exact this t ht h
def wQ (μ : St) (p i : Nat) : Nat → Nat
  | 0 => 0
  | j + 1 => wQ μ p i j + wd μ p (i + j)
def sQ (μ : St) (i j : Nat) : Nat → Nat
  | 0 => 0
  | p + 1 => sQ μ i j p + wQ μ p i j
theorem wQ_le (μ : St) (p i : Nat) : ∀ j, wQ μ p i j ≤ j
  | 0 => Nat.le_refl 0
  | j + 1 => by
    have h1 := wQ_le μ p i j
    have h2 := wd_le μ p (i + j)
    show wQ μ p i j + wd μ p (i + j) ≤ j + 1
    omega
theorem sQ_le (μ : St) (i j : Nat) : ∀ p, sQ μ i j p ≤ j * p
  | 0 => Nat.le_refl 0
  | p + 1 => by
    have h1 := sQ_le μ i j p
    have h2 := wQ_le μ p i j
    show sQ μ i j p + wQ μ p i j ≤ j * (p + 1)
    rw [Nat.mul_succ]
    omega
theorem sQ_0 (μ : St) (i : Nat) : ∀ P, sQ μ i 0 P = 0
  | 0 => rfl
  | P + 1 => by
    show sQ μ i 0 P + 0 = 0
    rw [sQ_0 μ i P]
theorem sQ_s (μ : St) (i j : Nat) : ∀ P, sQ μ i (j + 1) P = sQ μ i j P + wP μ (i + j) P
  | 0 => rfl
  | P + 1 => by
    show sQ μ i (j + 1) P + (wQ μ P i j + wd μ P (i + j)) = (sQ μ i j P + wQ μ P i j) + (wP μ (i + j) P + wd μ P (i + j))
    rw [sQ_s μ i j P]
    omega
theorem sQ_e (μ : St) (P i : Nat) : ∀ j, sQ μ i j P = wW μ P i j
  | 0 => sQ_0 μ i P
  | j + 1 => by
    rw [sQ_s, sQ_e μ P i j]
    rfl
theorem stDays_e {N p t i n nc nb tr : Nat} {TC : Nat → List Cl} {σ ρ : St} {s : Lfe} (hN : 100 ≤ N) (hA : RfA p (t + 1) ρ s nc nb) (hs : sl 0 p σ = s) (hi : 312 + i + 5 = t) (ht : t < 936) (hp : p < 20) (h74 : σ.1 74 0 p 0 = nI p) (h47 : σ.1 47 0 0 p = nI tr) (h211 : ρ.1 211 0 0 p = nI tr) (hL : LawX 0 (TCn TC n) (frM ρ) (toM ρ) n σ) (hR : ∀ j, 312 + j ≤ t → ρ.1 307 0 0 j = inD ρ TC n (312 + j)) : fLife_stampedDays N 0 p (nI t) σ = some (nI (wQ ρ p i 6)) := by
  have lp : ∀ (e j m : Nat), j + e = 6 → e < m → fLife_stampedDays_15 N 0 p m (nI t) (nI (wQ ρ p i j)) (nI (312 + i + j)) σ = some (nI (wQ ρ p i 6)) := by
    intro e
    induction e with
    | zero =>
      intro j m h1 h2
      obtain ⟨m, rfl⟩ : ∃ q, m = q + 1 := ⟨m - 1, by omega⟩
      have : j = 6 := by omega
      subst this
      show (if nI t < nI (312 + i + 6) then some (nI (wQ ρ p i 6)) else _) = _
      rw [if_pos (nI_lt (by omega) (by omega))]
    | succ e ih =>
      intro j m h1 h2
      obtain ⟨m, rfl⟩ : ∃ q, m = q + 1 := ⟨m - 1, by omega⟩
      obtain ⟨a, b, c, d, k1, -, -, -, k5, -, -, -⟩ := day_both (N := N) (i := i + j) hA hs (by omega) ht hp
      rw [← Nat.add_assoc] at k1
      have ih2 := ih (j + 1) m (by omega) (by omega)
      have ins := ins_X (N := N) (t := tr) (d := 312 + i + j) hL (by omega)
      have hr := hR (i + j) (by omega)
      have hin : (shOf (TCn TC n) (frM ρ) (toM ρ) n (312 + i + j)).ins = ρ.1 307 0 0 (i + j) := by
        rw [hr, ← Nat.add_assoc]
        rfl
      rw [hin] at ins
      have e0 : fLife_stampedDays_80 N 0 p (fLife_stampedDays_15 N 0 p m) (nI t) (nI (312 + i + j)) (nI (wQ ρ p i j)) σ = fLife_stampedDays_15 N 0 p m (nI t) (nI (wQ ρ p i j)) (nI (312 + i + (j + 1))) σ := by
        unfold fLife_stampedDays_80 fLife_stampedDays_81
        rw [nmx, nI_1, show nI (wQ ρ p i j) + 0 = nI (wQ ρ p i j) from nI_add _ 0]
        rfl
      have e1 : fLife_stampedDays_81 N 0 p (fLife_stampedDays_15 N 0 p m) (nI t) (nI (312 + i + j)) (nI (wQ ρ p i j)) 1 σ = fLife_stampedDays_15 N 0 p m (nI t) (nI (wQ ρ p i j + 1)) (nI (312 + i + (j + 1))) σ := by
        unfold fLife_stampedDays_81
        rw [nmx, nI_1, nI_1]
        rfl
      have e40 : fLife_stampedDays_40 N 0 p (fLife_stampedDays_15 N 0 p m) (nI t) (nI (wQ ρ p i j)) (nI (312 + i + j)) σ = fLife_stampedDays_15 N 0 p m (nI t) (nI (wQ ρ p i j + if ((ρ.1 307 0 0 (i + j) >>> (ρ.1 211 0 0 p &&& 31)) &&& 1) = 1 then 1 else 0)) (nI (312 + i + (j + 1))) σ := by
        unfold fLife_stampedDays_40 fLife_stampedDays_45
        rw [if_neg (show ¬ (1 : Int32) = 0 by decide), h74, chk_t (inb_n (by omega) (by decide)), nI_clamp (by omega), h47, ins, bn1_e, h211]
        rcases and1 (ρ.1 307 0 0 (i + j) >>> (nI tr &&& 31)) with z | z
        · rw [z, if_pos rfl, if_pos rfl, if_neg (show ¬ (0 : Int32) = 1 by decide), e0, Nat.add_zero (wQ ρ p i j)]
        · rw [z, if_neg (show ¬ (1 : Int32) = 0 by decide), if_neg (show ¬ (1 : Int32) = 0 by decide), if_pos rfl, e1]
      have e45 : fLife_stampedDays_45 N 0 p (fLife_stampedDays_15 N 0 p m) (nI t) (nI (wQ ρ p i j)) (nI (312 + i + j)) 0 σ = fLife_stampedDays_15 N 0 p m (nI t) (nI (wQ ρ p i j)) (nI (312 + i + (j + 1))) σ := by
        unfold fLife_stampedDays_45
        rw [if_pos rfl, e0]
      show (if nI t < nI (312 + i + j) then _ else bn1 (fLife_kindOn N 0 p (nI (312 + i + j)) σ) fun r1 => if r1 = 7 then fLife_stampedDays_40 N 0 p (fLife_stampedDays_15 N 0 p m) (nI t) (nI (wQ ρ p i j)) (nI (312 + i + j)) σ else bn1 (fLife_kindOn N 0 p (nI (312 + i + j)) σ) fun r2 => if r2 = 6 then fLife_stampedDays_40 N 0 p (fLife_stampedDays_15 N 0 p m) (nI t) (nI (wQ ρ p i j)) (nI (312 + i + j)) σ else fLife_stampedDays_45 N 0 p (fLife_stampedDays_15 N 0 p m) (nI t) (nI (wQ ρ p i j)) (nI (312 + i + j)) 0 σ) = _
      rw [if_neg (nI_nlt (by omega) (by omega)), k1, bn1_e, bn1_e, e40, e45, ← ih2]
      have ew : wQ ρ p i (j + 1) = wQ ρ p i j + wd ρ p (i + j) := rfl
      rw [ew]
      unfold wd
      rw [k5]
      by_cases c7 : a = 7
      · rw [if_pos c7]
        by_cases c : ((ρ.1 307 0 0 (i + j) >>> (ρ.1 211 0 0 p &&& 31)) &&& 1) = 1
        · rw [if_pos c, if_pos (show (a = 7 ∨ a = 6) ∧ _ from ⟨Or.inl c7, c⟩)]
        · rw [if_neg c, if_neg (fun z => c z.2)]
      · rw [if_neg c7]
        by_cases c6 : a = 6
        · rw [if_pos c6]
          by_cases c : ((ρ.1 307 0 0 (i + j) >>> (ρ.1 211 0 0 p &&& 31)) &&& 1) = 1
          · rw [if_pos c, if_pos (show (a = 7 ∨ a = 6) ∧ _ from ⟨Or.inr c6, c⟩)]
          · rw [if_neg c, if_neg (fun z => c z.2)]
        · rw [if_neg c6, if_neg (fun z => z.1.elim c7 c6), Nat.add_zero (wQ ρ p i j)]
  unfold fLife_stampedDays fMath_max_I
  rw [wk6 (by omega) ht, show t - 5 = 312 + i by omega]
  have l0 := lp 6 0 N (by omega) (by omega)
  by_cases c : (312 : Int32) < nI (312 + i)
  · rw [if_pos c, bn1_e]
    exact l0
  · have : i = 0 := by
      have c2 : ¬ (312 : Int32).toInt < (nI (312 + i)).toInt := fun z => c (Int32.lt_iff_toInt_lt.mpr z)
      rw [nI_toInt (by omega), show (312 : Int32).toInt = 312 from rfl] at c2
      omega
    subst this
    rw [if_neg c, bn1_e]
    exact l0
theorem xSettle_e {N p w o : Nat} {σ : St} (hp : p < 20) (hw : w ≤ 6240000) (ho : o ≤ 6240000) (h : σ.1 54 0 0 p = nI o) : ∃ σ', fLand_settle N (nI p) (nI w) σ = some (nI (w - o), σ') ∧ (∀ f a b i, ¬ ((f = 54 ∨ f = 55) ∧ a = 0 ∧ b = 0 ∧ i = p) → σ'.1 f a b i = σ.1 f a b i) ∧ σ'.1 54 0 0 p = nI (max o w) ∧ σ'.1 55 0 0 p = nI (o - w) ∧ σ'.2 = σ.2 := by
  have sb : (nI w - nI o).toInt = (w : Int) - o := by
    rw [Int32.toInt_sub, nI_toInt (by omega), nI_toInt (by omega)]
    exact Int.bmod_eq_of_le (by omega) (by omega)
  have e24 : ∀ y s2 : Int32, fLand_settle_24 N (nI p) y (nI p) s2 σ = if 0 < y then some (y, sI (sI σ 55 0 0 p s2) 54 0 0 p (nI o + y)) else some (0, sI σ 55 0 0 p s2) := fun y s2 => by
    unfold fLand_settle_24
    rw [chk_t (inb_n hp (by decide)), nmx, chk_t (inb_n hp (by decide)), nmx, nI_clamp (by omega), sI_o (by decide), h]
  have e0 : fLand_settle N (nI p) (nI w) σ = if 0 ≤ nI w - nI o then fLand_settle_24 N (nI p) (nI w - nI o) (nI p) 0 σ else fLand_settle_24 N (nI p) (nI w - nI o) (nI p) (-(nI w - nI o)) σ := by
    unfold fLand_settle
    rw [chk_t (inb_n hp (by decide)), nI_clamp (by omega), h, nmx]
  rw [e0]
  by_cases c : (0 : Int32) ≤ nI w - nI o
  · have c' := Int32.le_iff_toInt_le.mp c
    rw [sb, Int32.toInt_zero] at c'
    have es : nI w - nI o = nI (w - o) := by
      apply Int32.toInt_inj.mp
      rw [sb, nI_toInt (by omega)]
      omega
    rw [if_pos c, e24, es]
    by_cases c3 : 0 < nI (w - o)
    · have c4 := Int32.lt_iff_toInt_lt.mp c3
      rw [nI_toInt (by omega), Int32.toInt_zero] at c4
      rw [if_pos c3, nI_add]
      refine ⟨_, rfl, fun f a b i q => ?_, ?_, ?_, rfl⟩
      · rw [sI_1, if_neg (fun z => q ⟨Or.inl z.1, z.2⟩), sI_1, if_neg (fun z => q ⟨Or.inr z.1, z.2⟩)]
      · rw [sI_s]
        exact congrArg nI (by omega)
      · rw [sI_o (by decide), sI_s, show o - w = 0 by omega]
        rfl
    · have c4 : ¬ (0 : Int32).toInt < (nI (w - o)).toInt := fun z => c3 (Int32.lt_iff_toInt_lt.mpr z)
      rw [nI_toInt (by omega), Int32.toInt_zero] at c4
      rw [if_neg c3, show w - o = 0 by omega]
      refine ⟨_, rfl, fun f a b i q => ?_, ?_, ?_, rfl⟩
      · rw [sI_1, if_neg (fun z => q ⟨Or.inr z.1, z.2⟩)]
      · rw [sI_o (by decide), h]
        exact congrArg nI (by omega)
      · rw [sI_s, show o - w = 0 by omega]
        rfl
  · have c' : ¬ (0 : Int32).toInt ≤ (nI w - nI o).toInt := fun z => c (Int32.le_iff_toInt_le.mpr z)
    rw [sb, Int32.toInt_zero] at c'
    have es : -(nI w - nI o) = nI (o - w) := by
      apply Int32.toInt_inj.mp
      rw [Int32.toInt_neg, sb, nI_toInt (by omega)]
      exact (Int.bmod_eq_of_le (by omega) (by omega)).trans (by omega)
    have c5 : ¬ (0 : Int32) < nI w - nI o := fun z => by
      have := Int32.lt_iff_toInt_lt.mp z
      rw [sb, Int32.toInt_zero] at this
      omega
    rw [if_neg c, e24, if_neg c5, es, show w - o = 0 by omega]
    refine ⟨_, rfl, fun f a b i q => ?_, ?_, ?_, rfl⟩
    · rw [sI_1, if_neg (fun z => q ⟨Or.inr z.1, z.2⟩)]
    · rw [sI_o (by decide), h]
      exact congrArg nI (by omega)
    · rw [sI_s]
/-- all but what was paid and today's lives -/
def FrP (σ σ' : St) : Prop := ∀ f a b i, f ≠ 54 → f ≠ 55 → ¬ (((62 ≤ f ∧ f ≤ 94) ∨ (144 ≤ f ∧ f ≤ 147)) ∧ a = 0) → σ'.1 f a b i = σ.1 f a b i
theorem FrP.eq {σ σ' μ : St} (h : FrP σ σ') (hE : Eq1 σ μ) : Eq1 σ' μ := by
  intro q hq i
  have h2 : eqF.all (fun q => decide (q.1 ≠ 54 ∧ q.1 ≠ 55 ∧ ¬ ((62 ≤ q.1 ∧ q.1 ≤ 94) ∨ (144 ≤ q.1 ∧ q.1 ≤ 147)))) = true := by decide
  obtain ⟨a1, a2, a3⟩ := of_decide_eq_true (List.all_eq_true.mp h2 q hq)
  rw [h _ _ _ _ a1 a2 (fun z => a3 z.1)]
  exact hE q hq i
theorem pay27 {N P t i n s : Nat} {TC : Nat → List Cl} {tp : Nat → Nat} {σ0 μ ρ : St} {w o : Nat → Nat} (hN : 4000 ≤ N) (h : InvB TC tp σ0 μ) (hP : nP μ = P) (ht : tdN μ = t) (hn : n = nT μ) (hi : 312 + i + 5 = t) (hs : s < 100000) (hx : RnX μ ρ) (hr : RunOK P n t TC ρ) (hw : ∀ q, q < P → w q ≤ 6240000 ∧ pyS ρ q (t + 1 - 312) = jN (w q)) (ho : ∀ q, q < P → o q ≤ 6240000) : ∀ (e p m : Nat) (σ : St), p + e = P → e < m → FrP σ0 σ → σ.1 147 0 0 0 = nI t → PrV 0 σ → RdV 0 n TC σ μ → (∀ q, P ≤ q → q < 20 → σ.1 82 0 q 0 = -1) → (∀ q, p ≤ q → q < P → σ.1 54 0 0 q = nI (o q)) →
    ∃ σ', fX_payWeek_27 N m 0 (nI s) (nI (s * sQ ρ i 6 p)) (nI (yS o w p)) (nI p) σ = (bn1 (fLand_closeWeek N (nI (s * sQ ρ i 6 P)) (nI (yS o w P)) σ') fun σ1 => some σ1) ∧ FrP σ0 σ' ∧ PrV 0 σ' ∧ RdV 0 n TC σ' μ ∧ (∀ q, P ≤ q → q < 20 → σ'.1 82 0 q 0 = -1) ∧ (∀ q, p ≤ q → q < P → σ'.1 54 0 0 q = nI (max (o q) (w q)) ∧ σ'.1 55 0 0 q = nI (o q - w q)) ∧ (∀ q, (q < p ∨ P ≤ q) → σ'.1 54 0 0 q = σ.1 54 0 0 q ∧ σ'.1 55 0 0 q = σ.1 55 0 0 q) := by
  have c := h.rg.cns
  have cd := c.d
  have cP := c.P
  have cT := c.T
  have eP : ρ.1 211 = μ.1 211 := funext fun a => funext fun b => funext fun i => hx.1 _ _ _ _ (by decide)
  intro e
  induction e with
  | zero =>
    intro p m σ h1 h2 g1 g2 g3 g4 g5 g6
    obtain ⟨m, rfl⟩ : ∃ q, m = q + 1 := ⟨m - 1, by omega⟩
    have : p = P := by omega
    subst this
    refine ⟨σ, ?_, g1, g3, g4, g5, fun q q1 q2 => by omega, fun _ _ => ⟨rfl, rfl⟩⟩
    have e52 : σ.1 52 0 0 0 = nI p := ((g1.eq h.eq).at (g := 208) 0 (by decide)).trans (by rw [cP.1, hP])
    show (if σ.1 52 0 0 0 ≤ nI p then _ else _) = _
    rw [e52, if_pos (Int32.le_refl _)]
  | succ e ih =>
    intro p m σ h1 h2 g1 g2 g3 g4 g5 g6
    obtain ⟨m, rfl⟩ : ∃ q, m = q + 1 := ⟨m - 1, by omega⟩
    have hE := g1.eq h.eq
    have e52 : σ.1 52 0 0 0 = nI P := (hE.at (g := 208) 0 (by decide)).trans (by rw [cP.1, hP])
    have tx : TxX (TCn TC n) (frM μ) (toM μ) n σ := (h.tx.x.tn (by omega)).mv (fun f a b i q1 q2 => g1 f a b i (by omega) (by omega) (by omega))
    obtain ⟨σ1, a1, a2, a3, a4, a5⟩ := life_v (N := N) (p := p) (v := 0) (on := t) (n := n) (TC := TC) (by omega) hE h.rg h.ev.e (by omega) (by omega) (by show t ≤ tdN μ; omega) (fun _ => ht.symm) g2 tx (by omega) g3 g4
    obtain ⟨s1, B⟩ := both_e (k := t) a3 hx (by rw [hP]; exact hr) (by omega) c.e.2 (by omega)
    obtain ⟨nc, nb, A⟩ := B.a
    have hE1 := a2.eq hE
    obtain ⟨tr, tr1, -, -, -, tr2⟩ := h.rg.n (g := 211) (lo := 0) (hi := 7) p (by decide) (by decide)
    have fr : frM ρ = frM μ := funext fun t => hx.1 _ _ _ _ (by decide)
    have to : toM ρ = toM μ := funext fun t => hx.1 _ _ _ _ (by decide)
    have sd := stDays_e (N := N) (i := i) (tr := tr) (n := n) (TC := TC) (σ := σ1) (ρ := ρ) (by omega) A B.s hi (by omega) (by omega) (a4.1 p (by omega)) ((hE1.at (g := 211) p (by decide)).trans tr1) ((hx.1 _ _ _ _ (by decide)).trans tr1) (by rw [fr, to]; exact a5.2.1) hr.i
    have e162 : σ1.1 162 0 0 0 = nI t := (hE1.at (g := 205) 0 (by decide)).trans (by rw [cd.1, ht])
    have q4 := A
    obtain ⟨cc, cm, -, -, -, q4, -⟩ := q4
    obtain ⟨hw1, hw2⟩ := hw p (by omega)
    have e81 : σ1.1 81 0 p 0 = nI (w p) := by
      have : σ1.1 81 0 p 0 = sl 0 p σ1 81 0 := rfl
      rw [this, B.s]
      refine q4.t0.trans ?_
      rw [hw2]
      exact i32_64 (by omega)
    have e54 : σ1.1 54 0 0 p = nI (o p) := (a2.1 _ _ _ _ (by omega) (by omega)).trans (g6 p (by omega) (by omega))
    obtain ⟨σ2, b1, b2, b3, b4, b5⟩ := xSettle_e (N := N) (p := p) (w := w p) (o := o p) (σ := σ1) (by omega) hw1 (ho p (by omega)) e54
    have F1 : FrP σ0 σ1 := fun f a b i q1 q2 q3 => (a2.1 f a b i (by omega) (by omega)).trans (g1 f a b i q1 q2 q3)
    have F2 : FrP σ0 σ2 := fun f a b i q1 q2 q3 => (b2 f a b i (by omega)).trans (F1 f a b i q1 q2 q3)
    have l2 : ∀ f a b i, f ≠ 54 → f ≠ 55 → σ2.1 f a b i = σ1.1 f a b i := fun f a b i q1 q2 => b2 f a b i (by omega)
    have P2 : PrV 0 σ2 := by
      obtain ⟨z1, z2, z3⟩ := a4
      refine ⟨fun p hp => (l2 _ _ _ _ (by decide) (by decide)).trans (z1 p hp), (l2 _ _ _ _ (by decide) (by decide)).trans z2, fun p hp => ?_⟩
      obtain ⟨c, c1, c2, c3⟩ := z3 p hp
      rw [l2 _ _ _ _ (by decide) (by decide), l2 _ _ _ _ (by decide) (by decide)]
      exact ⟨c, c1, c2, c3⟩
    have R2 : RdV 0 n TC σ2 μ := a5.mv (fun f b i q => l2 _ _ _ _ (by omega) (by omega)) (fun p _ => l2 _ _ _ _ (by decide) (by decide))
    have seen2 : ∀ q, P ≤ q → q < 20 → σ2.1 82 0 q 0 = -1 := fun q q1 q2 => ((l2 _ _ _ _ (by decide) (by decide)).trans (a2.1 _ _ _ _ (by omega) (by omega))).trans (g5 q q1 q2)
    obtain ⟨σ', r1, r2, r3, r4, r5, r6, r7⟩ := ih (p + 1) m σ2 (by omega) (by omega) F2 ((l2 _ _ _ _ (by decide) (by decide)).trans ((a2.1 _ _ _ _ (by omega) (by omega)).trans g2)) P2 R2 seen2 (fun q q1 q2 => (b2 _ _ _ _ (by omega)).trans ((a2.1 _ _ _ _ (by omega) (by omega)).trans (g6 q (by omega) q2)))
    refine ⟨σ', ?_, r2, r3, r4, r5, fun q q1 q2 => ?_, fun q hq => ?_⟩
    · show (if σ.1 52 0 0 0 ≤ nI p then _ else bnd (fView_lifeOf N 0 (nI p) σ) fun r2 σ3 => bn1 (fLife_stampedDays N r2.1 r2.2 (σ3.1 162 0 0 0) σ3) fun r4 => nm ((nI (s * sQ ρ i 6 p) + (nI s * r4))) fun (y5 : Int32) => bnd (fLand_settle N (nI p) (σ3.1 81 r2.1 r2.2 0) σ3) fun r6 σ7 => nm ((nI (yS o w p) + r6)) fun (y8 : Int32) => (fX_payWeek_27 N m) 0 (nI s) y5 y8 (nI p + 1) σ7) = _
      rw [e52, if_neg (nI_ge (by omega) (by omega)), a1, bnd_e]
      dsimp only
      rw [e162, sd, bn1_e, nmx, e81, b1, bnd_e, nmx, nI_1, show nI s * nI (wQ ρ p i 6) = nI (s * wQ ρ p i 6) from (Int32.ofNat_mul _ _).symm, nI_add, nI_add, ← Nat.mul_add]
      exact r1
    · by_cases z : q = p
      · obtain ⟨y1, y2⟩ := r7 q (by omega)
        rw [z] at y1 y2
        rw [z, y1, y2, b3, b4]
        exact ⟨rfl, rfl⟩
      · exact r6 q (by omega) q2
    · obtain ⟨y1, y2⟩ := r7 q (by omega)
      exact ⟨y1.trans ((b2 _ _ _ _ (by omega)).trans (a2.1 _ _ _ _ (by omega) (by omega))), y2.trans ((b2 _ _ _ _ (by omega)).trans (a2.1 _ _ _ _ (by omega) (by omega)))⟩
