/-! a week is paid, days pass: both answer alike -/
theorem par_b {TC : Nat → List Cl} {k : Nat} (hk : k < 8) (h : ∀ (t : Nat) c, lst (isP k) (TC t) = some c → c.two < 100000) : ∀ (R : List Nat) (x : Int32), (∃ s : Nat, s < 100000 ∧ x = nI s) → ∃ s : Nat, s < 100000 ∧ R.foldl (pT TC k) x = nI s
  | [], _, hx => hx
  | t :: R, x, hx => par_b hk h R (pT TC k x t) (by
    unfold pT
    cases e : lst (isP k) (TC t) with
    | none => exact hx
    | some c => exact ⟨c.two, h t c e, rfl⟩)
theorem dfl_b {k : Nat} (hk : k < 8) : ∃ s : Nat, s < 100000 ∧ dflts k = nI s := by
  rcases (show k = 0 ∨ k = 1 ∨ k = 2 ∨ k = 3 ∨ k = 4 ∨ k = 5 ∨ k = 6 ∨ k = 7 by omega) with rfl | rfl | rfl | rfl | rfl | rfl | rfl | rfl
  all_goals exact ⟨_, by decide, (nI_self (by decide)).trans rfl⟩
theorem par_k {TC : Nat → List Cl} {fr to : Nat → Int32} {n d k : Nat} {μ : St} (hT : TxM TC n μ) (hk : k < 8) : ∃ s : Nat, s < 100000 ∧ (shOf (TCn TC n) fr to n d).par k = nI s := by
  refine par_b hk (fun t c e => ?_) _ _ (dfl_b hk)
  obtain ⟨i, i1, i2⟩ := lst_mem e
  unfold TCn at i1
  by_cases z : t < n
  · rw [if_pos z] at i1
    have h1 := ((hT t z).2.2 i c i1).1
    unfold isP at i2
    simp only [Bool.and_eq_true, decide_eq_true_eq] at i2
    exact (h1.2.2.1 i2.1).2
  · rw [if_neg z] at i1
    simp at i1
theorem pyS_b {μ : St} {p : Nat} : ∀ n, n ≤ 700 → (∀ i, i < n → ∃ y : Nat, y ≤ 9999 ∧ μ.2 308 0 0 (624 * p + i) = (nI y).toInt64) → ∃ x : Nat, x ≤ 9999 * n ∧ pyS μ p n = jN x
  | 0, _, _ => ⟨0, by omega, rfl⟩
  | n + 1, hn, h => by
    obtain ⟨x, x1, x2⟩ := pyS_b n (by omega) (fun i hi => h i (by omega))
    obtain ⟨y, y1, y2⟩ := h n (by omega)
    refine ⟨x + y, by omega, ?_⟩
    show pyS μ p n + μ.2 308 0 0 (624 * p + n) = _
    rw [x2, y2]
    exact jN_add (by omega)
def finX (σ : St) (S Y w : Nat) : St := sI (sI (sI (sI (sI σ 57 0 0 0 (nI S)) 58 0 0 0 (nI Y)) 56 0 0 0 (σ.1 56 0 0 0 + (nI S - nI Y))) 59 0 0 (w % 4) (nI S - nI Y)) 60 0 0 0 (nI (w + 1))
theorem finM_2 (μ : St) : (finM μ).2 = (sJ (sJ μ 312 0 0 0 (μ.2 312 0 0 0 + (μ.2 313 0 0 0 - μ.2 314 0 0 0))) 311 0 0 (irem (μ.1 315 0 0 0) 4).toNatClampNeg (μ.2 313 0 0 0 - μ.2 314 0 0 0)).2 := rfl
theorem close_w {N S Y w : Nat} {σ : St} (h : σ.1 60 0 0 0 = nI w) (hw : w < 1000) : fLand_closeWeek N (nI S) (nI Y) σ = some (finX σ S Y w) := by
  have e4 : irem (nI w) 4 = nI (w % 4) := irem_n (a := w) (b := 4) (by omega) (by omega) (by omega)
  have s0 : ∀ f, f ≠ 57 → f ≠ 58 → (sI (sI σ 57 0 0 0 (nI S)) 58 0 0 0 (nI Y)).1 f 0 0 0 = σ.1 f 0 0 0 := fun f q1 q2 => by rw [sI_o q2, sI_o q1]
  have s57 : (sI (sI σ 57 0 0 0 (nI S)) 58 0 0 0 (nI Y)).1 57 0 0 0 = nI S := by rw [sI_o (by decide), sI_s]
  have s58 : (sI (sI σ 57 0 0 0 (nI S)) 58 0 0 0 (nI Y)).1 58 0 0 0 = nI Y := sI_s _ _ _ _ _ _
  unfold fLand_closeWeek finX
  obtain ⟨τ, hτ⟩ : ∃ τ, τ = sI (sI σ 57 0 0 0 (nI S)) 58 0 0 0 (nI Y) := ⟨_, rfl⟩
  rw [← hτ] at s0 s57 s58
  have t60 : (sI τ 56 0 0 0 (σ.1 56 0 0 0 + (nI S - nI Y))).1 60 0 0 0 = nI w := by rw [sI_o (by decide), s0 _ (by decide) (by decide), h]
  have t57 : (sI τ 56 0 0 0 (σ.1 56 0 0 0 + (nI S - nI Y))).1 57 0 0 0 = nI S := by rw [sI_o (by decide), s57]
  have t58 : (sI τ 56 0 0 0 (σ.1 56 0 0 0 + (nI S - nI Y))).1 58 0 0 0 = nI Y := by rw [sI_o (by decide), s58]
  rw [nmx, nmx, ← hτ, s0 56 (by decide) (by decide), s57, s58, nmx, t60, e4, chk_t (inb_n (by omega) (by decide)), t57, t58, nmx, sI_o (f := 59) (by decide), t60, nI_1, nmx, nI_clamp (by omega)]
theorem sum_y {g g' : Nat → Int} {o w : Nat → Nat} {P : Nat} (h1 : ∀ q, q < P → g q = o q ∧ g' q = ((max (o q) (w q) : Nat) : Int)) (h2 : ∀ q, P ≤ q → g' q = g q) : ∀ n, sumC g' n = sumC g n + ((yS o w (min n P) : Nat) : Int)
  | 0 => by
    rw [Nat.zero_min]
    rfl
  | n + 1 => by
    have ih := sum_y h1 h2 n
    show sumC g' n + g' n = sumC g n + g n + _
    by_cases z : n < P
    · obtain ⟨a1, a2⟩ := h1 n z
      rw [show min (n + 1) P = n + 1 by omega]
      rw [show min n P = n by omega] at ih
      have : yS o w (n + 1) = yS o w n + (w n - o n) := rfl
      omega
    · rw [show min (n + 1) P = P by omega]
      rw [show min n P = P by omega] at ih
      have := h2 n (by omega)
      omega
theorem week_both {N t : Nat} {TC : Nat → List Cl} {tp : Nat → Nat} {σ μ : St} (hN : 4000 ≤ N) (h : InvB TC tp σ μ) (ht : tdN μ = t) (h6 : t % 6 = 5) (hc : μ.1 204 0 0 0 = 0) : ∃ σ' μ', fX_payWeek N σ = some σ' ∧ fM_settle N μ = some μ' ∧ InvF TC tp σ' μ' ∧ tdN μ' = t ∧ μ'.1 204 0 0 0 = 0 ∧ FdI (sI σ' 162 0 0 0 (nI (t + 1))) (sI μ' 205 0 0 0 (nI (t + 1))) := by
  have c := h.rg.cns
  have cd := c.d
  have cP := c.P
  have cT := c.T
  rw [ht] at cd
  obtain ⟨i, hi⟩ : ∃ i, 312 + i + 5 = t := ⟨t - 317, by omega⟩
  obtain ⟨n, n1, n2, n3, n4, n5⟩ := h.tx.tk h.rg t
  have en := n5 ht.symm
  -- both sides ask
  obtain ⟨σ1, a1, a2, a3, a4, a5, a6⟩ := asOfToday_e hN h
  obtain ⟨μ1, b1, b2, b3, b4⟩ := know_I hN a5 (k := t) (n := n) (by omega) (by omega) n1 n4
  have e1T : nT μ1 = nT μ := by unfold nT; rw [b2.at (by decide)]
  have e1d : tdN μ1 = tdN μ := by unfold tdN; rw [b2.at (by decide)]
  have e1P : nP μ1 = nP μ := by unfold nP; rw [b2.at (by decide)]
  have d1 : μ1.1 205 0 0 0 = nI t := (b2.at (by decide)).trans cd.1
  obtain ⟨n', m1, m2, m3, m4, m5⟩ := b4.tx.tk b4.rg t
  have en' := m5 (by omega)
  have enn : n' = n := by omega
  rw [enn] at m4
  obtain ⟨μ2, g1, g2, g3, g4⟩ := tellLaw_I hN b4 (n := n) (k := t) (d := t) (by omega) m4
  obtain ⟨P, hP⟩ : ∃ P, nP μ = P := ⟨_, rfl⟩
  rw [hP] at b3
  have hP2 : P ≤ 20 := by omega
  have x12 : RnX μ1 μ2 := ⟨fun f a b i q => g2.1 f a b i (by simp [lawM]; omega), fun f a b i _ _ _ => by rw [g2.2]⟩
  have x02 : RnX μ μ2 := b2.tr x12
  have r2 : RunOK P n t TC μ2 := b3.mv (by omega) x12.sm (fun f i q => g2.law (by omega)) (fun f i _ => by rw [g2.2])
  have d2 : μ2.1 205 0 0 0 = nI t := (x02.at (by decide)).trans cd.1
  have p2 : μ2.1 208 0 0 0 = nI P := (x02.at (by decide)).trans (by rw [cP.1, hP])
  obtain ⟨s, s1, s2⟩ := par_k (TC := TC) (fr := frM μ1) (to := toM μ1) (n := n) (d := t) (k := 6) (μ := μ1) (fun t ht => b4.tx.m t (by omega)) (by decide)
  have fr1 : frM μ1 = frM μ := funext fun t => b2.1 _ _ _ _ (by decide)
  have to1 : toM μ1 = toM μ := funext fun t => b2.1 _ _ _ _ (by decide)
  have parM : fM_param N 6 μ2 = some (nI s) := (par_N (N := N) (k := 6) g3 (by decide)).trans (by rw [s2])
  have parX : fLaw_param N 0 6 (nI t) σ1 = some (nI s) := (par_X (N := N) (k := 6) (d := t) a4.2.1 (by decide) (by omega)).trans (by rw [← en, ← fr1, ← to1, s2])
  -- what is due
  obtain ⟨w, hw⟩ : ∃ w : Nat → Nat, ∀ q, q < P → w q ≤ 6240000 ∧ pyS μ2 q (t + 1 - 312) = jN (w q) := by
    refine ⟨fun q => (pyS μ2 q (t + 1 - 312)).toInt.toNat, fun q hq => ?_⟩
    obtain ⟨nc, nb, r3⟩ := r2.a (fun _ _ _ => 0)
    obtain ⟨cc, cm, -, -, -, q4, -⟩ := r3 q hq
    obtain ⟨x, x1, x2⟩ := pyS_b (μ := μ2) (p := q) (t + 1 - 312) (by omega) (fun i hi => by
      obtain ⟨k, y, tt, c, -, y1, -, -, -, y2, -⟩ := q4.dy i (by omega)
      exact ⟨y, y1, y2⟩)
    dsimp only
    rw [x2, jN_t (by omega)]
    exact ⟨by omega, rfl⟩
  obtain ⟨o, ho⟩ : ∃ o : Nat → Nat, ∀ q, q < 20 → o q ≤ 6240000 ∧ μ2.2 309 0 0 q = jN (o q) ∧ σ1.1 54 0 0 q = nI (o q) := by
    refine ⟨fun q => (μ2.2 309 0 0 q).toInt.toNat, fun q hq => ?_⟩
    obtain ⟨r3, -, r4, r5⟩ := g4.fd.r q hq
    have e : μ2.2 309 0 0 q = jN (μ2.2 309 0 0 q).toInt.toNat := Int64.toInt_inj.mp (by
      rw [jN_t (by omega)]
      omega)
    refine ⟨by dsimp only; omega, e, ?_⟩
    refine r3.trans ?_
    dsimp only
    have e2 := congrArg Int64.toInt32 e
    exact e2.trans (i32_64 (by omega))
  -- the reference
  obtain ⟨w0, f1, f2, f3, f4, -⟩ := g4.fd.w
  have e2d : tdN μ2 = t := by unfold tdN; rw [d2, nI_clamp (by omega)]
  rw [e2d] at f3 f4
  have hw0 : t = w0 * 6 + 317 := by omega
  obtain ⟨S, hS⟩ : ∃ S, S = s * wW μ2 P i 6 := ⟨_, rfl⟩
  have Sb : S ≤ 12000000 := by
    have z1 := wW_le μ2 P i 6
    have z2 : s * wW μ2 P i 6 ≤ 99999 * 120 := Nat.mul_le_mul (by omega) (by omega)
    omega
  have Yb := yS_le (o := o) (w := w) (B := 6240000) P (fun q hq => (hw q hq).1)
  have Yb2 : 6240000 * P ≤ 6240000 * 20 := Nat.mul_le_mul_left _ hP2
  obtain ⟨μ3, hμ3⟩ : ∃ μ3, μ3 = sJ (sJ μ2 313 0 0 0 (jN S)) 314 0 0 0 0 := ⟨_, rfl⟩
  have l3 : ∀ f a b i, f ≠ 313 → f ≠ 314 → μ3.2 f a b i = μ2.2 f a b i := fun f a b i q1 q2 => by rw [hμ3, sJ_o q2, sJ_o q1]
  have l31 : μ3.1 = μ2.1 := by rw [hμ3]; rfl
  obtain ⟨μ4, r1, r3, r4, r5, r6, r7⟩ := settle149 (N := N) (t := t) (P := P) (w4 := w0) (w := w) (o := o) (by omega) hP2 (by omega) (by omega) (fun q hq => (hw q hq).1) (fun q hq => (ho q (by omega)).1) P 0 N μ3 (by omega) (by omega) (by rw [l31]; exact p2) (by rw [l31]; exact d2) (by rw [l31]; exact f2) (by omega) (fun q hq => by rw [pyS_cc (fun i => l3 _ _ _ _ (by decide) (by decide))]; exact (hw q hq).2) (fun q _ hq => by rw [l3 _ _ _ _ (by decide) (by decide)]; exact (ho q (by omega)).2.1) (by rw [hμ3, sJ_s]; rfl)
  have eM : fM_settle N μ = some (finM μ4) := by
    have h43 := settle43 (N := N) (s := s) (i := i) (P := P) (t := t) (μ := μ2) (by omega) p2 hP2 hi (by omega) d2 s1 6 0 N (by omega) (by omega)
    unfold fM_settle
    rw [cd.1, b1, bn1_e, d1, g1, bn1_e, parM, bn1_e, nmx, nmx, sJ_1, d2, wk6 (by omega) (by omega), nmx, show t - 5 = 312 + i + 0 by omega]
    refine h43.trans ?_
    rw [← hS, ← hμ3]
    exact r1
  -- the class
  obtain ⟨σ3, x1, x2, x3, x4, x5, x6, x7⟩ := pay27 (N := N) (P := P) (t := t) (i := i) (n := n) (s := s) (TC := TC) (tp := tp) (σ0 := σ1) (μ := μ) (ρ := μ2) (w := w) (o := o) hN a5 hP ht en hi s1 x02 r2 hw (fun q hq => (ho q (by omega)).1) P 0 N σ1 (by omega) (by omega) (fun _ _ _ _ _ _ _ => rfl) (by rw [a2, ht]) a3 (by rw [en]; exact a4) (fun q q1 q2 => a5.ch.s 0 q (by decide) (by omega) q2) (fun q _ hq => (ho q (by omega)).2.2)
  rw [sQ_e μ2 P i 6, ← hS] at x1
  have y60 : σ3.1 60 0 0 0 = nI w0 := (x2 _ _ _ _ (by decide) (by decide) (by decide)).trans f1
  rw [close_w y60 (by omega), bn1_e] at x1
  have eX : fX_payWeek N σ = some (finX σ3 S (yS o w P) w0) := by
    have e162 : σ1.1 162 0 0 0 = nI t := ((a5.eq).at (g := 205) 0 (by decide)).trans cd.1
    unfold fX_payWeek
    rw [a1, bnd_e, e162, parX, bn1_e]
    exact x1
  obtain ⟨Y, hY⟩ : ∃ Y, Y = yS o w P := ⟨_, rfl⟩
  rw [← hY] at eX r7 Yb
  -- what both hold now
  have zX : ∀ f a b i, ¬ (56 ≤ f ∧ f ≤ 60) → (finX σ3 S Y w0).1 f a b i = σ3.1 f a b i := fun f a b i q => by
    unfold finX
    rw [sI_o (by omega), sI_o (by omega), sI_o (by omega), sI_o (by omega), sI_o (by omega)]
  have zM : ∀ f a b i, f ≠ 315 → (finM μ4).1 f a b i = μ2.1 f a b i := fun f a b i q => by
    unfold finM
    rw [sI_o q]
    show μ4.1 f a b i = _
    rw [r3, l31]
  have zJ : ∀ f a b i, ¬ (309 ≤ f ∧ f ≤ 314) → (finM μ4).2 f a b i = μ2.2 f a b i := fun f a b i q => by
    rw [finM_2]
    rw [sJ_o (by omega), sJ_o (by omega), r4 _ _ _ _ (by omega) (by omega) (by omega), l3 _ _ _ _ (by omega) (by omega)]
  have v0' : VwI 0 TC σ3 μ2 := VwI.sa ⟨x3, Or.inr ⟨n, n1, x4⟩⟩ x02.sa (by omega) (by unfold nT; rw [x02.at (by decide)]; exact Nat.le_refl _) (fun _ _ => rfl) (fun t _ => ⟨x02.1 _ _ _ _ (by decide), x02.1 _ _ _ _ (by decide)⟩)
  have wk : InvF TC tp (finX σ3 S Y w0) (finM μ4) := by
    refine g4.wk (fun f a b i q1 q2 => ?_) zM zJ (v0'.mv (fun f b i z => zX _ _ _ _ (by omega)) (fun p _ => zX _ _ _ _ (by decide))) (fun p q1 q2 => ?_)
    · rw [zX _ _ _ _ (by omega)]
      exact x2 _ _ _ _ (by omega) (by omega) q2
    · rw [zX _ _ _ _ (by decide)]
      have : nP μ2 = P := by unfold nP; rw [p2, nI_clamp (by omega)]
      exact x5 p (by omega) q2
  have m313 : μ4.2 313 0 0 0 = jN S := by rw [r4 _ _ _ _ (by decide) (by decide) (by decide), hμ3, sJ_o (by decide), sJ_s]
  have sbJ := jN_sub (a := S) (b := Y) (by omega) (by omega)
  have sbI : (nI S - nI Y).toInt = (S : Int) - Y := by
    rw [Int32.toInt_sub, nI_toInt (by omega), nI_toInt (by omega)]
    exact Int.bmod_eq_of_le (by omega) (by omega)
  have c315 : μ4.1 315 0 0 0 = nI w0 := by rw [r3, l31]; exact f2
  have e4 : (irem (μ4.1 315 0 0 0) 4).toNatClampNeg = w0 % 4 := by
    rw [c315, show irem (nI w0) 4 = nI (w0 % 4) from irem_n (a := w0) (b := 4) (by omega) (by omega) (by omega), nI_clamp (by omega)]
  refine ⟨_, _, eX, eM, wk, ?_, ?_, ?_⟩
  · unfold tdN
    rw [zM _ _ _ _ (by decide), d2, nI_clamp (by omega)]
  · rw [zM _ _ _ _ (by decide), g2.law (by decide), b2.at (by decide)]
    exact hc
  · obtain ⟨τ, hτ⟩ : ∃ τ, τ = sI (finX σ3 S Y w0) 162 0 0 0 (nI (t + 1)) := ⟨_, rfl⟩
    obtain ⟨ν, hν⟩ : ∃ ν, ν = sI (finM μ4) 205 0 0 0 (nI (t + 1)) := ⟨_, rfl⟩
    have tX : ∀ f i, f ≠ 162 → τ.1 f 0 0 i = (finX σ3 S Y w0).1 f 0 0 i := fun f i q => by rw [hτ, sI_o q]
    have nM : ∀ f i, f ≠ 205 → ν.1 f 0 0 i = (finM μ4).1 f 0 0 i := fun f i q => by rw [hν, sI_o q]
    have nJ : ∀ f i, ν.2 f 0 0 i = (finM μ4).2 f 0 0 i := fun f i => by rw [hν]; rfl
    have n309 : ∀ q, ν.2 309 0 0 q = μ4.2 309 0 0 q := fun q => by
      rw [nJ]
      rw [finM_2]
      rw [sJ_o (by decide), sJ_o (by decide)]
    have n310 : ∀ q, ν.2 310 0 0 q = μ4.2 310 0 0 q := fun q => by
      rw [nJ]
      rw [finM_2]
      rw [sJ_o (by decide), sJ_o (by decide)]
    have n313 : ν.2 313 0 0 0 = jN S := by
      rw [nJ]
      rw [finM_2]
      rw [sJ_o (by decide), sJ_o (by decide), m313]
    have n314 : ν.2 314 0 0 0 = jN Y := by
      rw [nJ]
      rw [finM_2]
      rw [sJ_o (by decide), sJ_o (by decide), r7]
    have n312 : ν.2 312 0 0 0 = μ2.2 312 0 0 0 + (jN S - jN Y) := by
      rw [nJ]
      rw [finM_2]
      rw [sJ_o (by decide), sJ_s, m313, r7, r4 _ _ _ _ (by decide) (by decide) (by decide), l3 _ _ _ _ (by decide) (by decide)]
    have n311 : ν.2 311 0 0 (w0 % 4) = jN S - jN Y := by
      rw [nJ]
      rw [finM_2]
      rw [e4, sJ_s, m313, r7]
    have n311i : ∀ k, k ≠ w0 % 4 → ν.2 311 0 0 k = μ2.2 311 0 0 k := fun k q => by
      rw [nJ]
      rw [finM_2]
      rw [e4, sJ_i q, sJ_o (by decide), r4 _ _ _ _ (by decide) (by decide) (by decide), l3 _ _ _ _ (by decide) (by decide)]
    have n315 : ν.1 315 0 0 0 = nI (w0 + 1) := by
      rw [nM _ _ (by decide)]
      unfold finM
      rw [sI_s, c315, nI_1]
    have t54 : ∀ q, τ.1 54 0 0 q = σ3.1 54 0 0 q := fun q => by rw [tX _ _ (by decide), zX _ _ _ _ (by decide)]
    have t55 : ∀ q, τ.1 55 0 0 q = σ3.1 55 0 0 q := fun q => by rw [tX _ _ (by decide), zX _ _ _ _ (by decide)]
    have t57 : τ.1 57 0 0 0 = nI S := by
      rw [tX _ _ (by decide)]
      unfold finX
      rw [sI_o (by decide), sI_o (by decide), sI_o (by decide), sI_o (by decide), sI_s]
    have t58 : τ.1 58 0 0 0 = nI Y := by
      rw [tX _ _ (by decide)]
      unfold finX
      rw [sI_o (by decide), sI_o (by decide), sI_o (by decide), sI_s]
    have t56 : τ.1 56 0 0 0 = σ1.1 56 0 0 0 + (nI S - nI Y) := by
      rw [tX _ _ (by decide)]
      unfold finX
      rw [sI_o (by decide), sI_o (by decide), sI_s, x2 _ _ _ _ (by decide) (by decide) (by decide)]
    have t59 : τ.1 59 0 0 (w0 % 4) = nI S - nI Y := by
      rw [tX _ _ (by decide)]
      unfold finX
      rw [sI_o (by decide), sI_s]
    have t59i : ∀ k, k ≠ w0 % 4 → τ.1 59 0 0 k = σ1.1 59 0 0 k := fun k q => by
      rw [tX _ _ (by decide)]
      unfold finX
      rw [sI_o (by decide), sI_i q, sI_o (by decide), sI_o (by decide), sI_o (by decide), x2 _ _ _ _ (by decide) (by decide) (by decide)]
    have t60 : τ.1 60 0 0 0 = nI (w0 + 1) := by
      rw [tX _ _ (by decide)]
      unfold finX
      rw [sI_s]
    have ntd : tdN ν = t + 1 := by
      unfold tdN
      rw [hν, sI_s, nI_clamp (by omega)]
    rw [← hτ, ← hν]
    obtain ⟨f5, G, f6, f7, f8⟩ := g4.fd.f
    have es : (μ2.1 315 0 0 0).toInt = (w0 : Int) := by
      have : μ2.1 315 0 0 0 = nI w0 := f2
      rw [this, nI_toInt (by omega)]
    have hsum := sum_y (g := fun p => (μ2.2 309 0 0 p).toInt) (g' := fun p => (ν.2 309 0 0 p).toInt) (o := o) (w := w) (P := P) (fun q hq => by
      obtain ⟨z1, z2, z3⟩ := ho q (by omega)
      have z4 := (hw q hq).1
      refine ⟨?_, ?_⟩
      · show (μ2.2 309 0 0 q).toInt = _
        rw [z2, jN_t (by omega)]
      · show (ν.2 309 0 0 q).toInt = _
        rw [n309, (r6 q (by omega) hq).1, jN_t (by omega)]) (fun q hq => by
      show (ν.2 309 0 0 q).toInt = (μ2.2 309 0 0 q).toInt
      rw [n309, (r5 q (Or.inr hq)).1, l3 _ _ _ _ (by decide) (by decide)]) 20
    rw [show min 20 P = P by omega, ← hY] at hsum
    have hs : ∀ n, n ≤ 20 → 0 ≤ sumC (fun p => (μ2.2 309 0 0 p).toInt) n ∧ sumC (fun p => (μ2.2 309 0 0 p).toInt) n ≤ 6240000 * (n : Int) := by
      intro n
      induction n with
      | zero => intro _; exact ⟨by simp [sumC], by simp [sumC]⟩
      | succ n ih =>
        intro hn
        have h1 := ih (by omega)
        obtain ⟨-, -, y1, y2⟩ := g4.fd.r n (by omega)
        show 0 ≤ sumC _ n + (μ2.2 309 0 0 n).toInt ∧ sumC _ n + (μ2.2 309 0 0 n).toInt ≤ _
        omega
    have hs20 := hs 20 (by omega)
    have wb : w0 ≤ 103 := by omega
    have nf : (ν.2 312 0 0 0).toInt = (μ2.2 312 0 0 0).toInt + (S - Y) := by
      rw [n312, Int64.toInt_add, sbJ]
      exact Int.bmod_eq_of_le (by omega) (by omega)
    have tf : (τ.1 56 0 0 0).toInt = (μ2.2 312 0 0 0).toInt + (S - Y) := by
      rw [t56, Int32.toInt_add, sbI, f5]
      exact Int.bmod_eq_of_le (by omega) (by omega)
    refine ⟨⟨w0 + 1, t60, n315, by omega, by omega, fun z => by omega⟩, fun p hp => ?_, ⟨?_, ?_⟩, ⟨tf.trans nf.symm, G + S, by omega, ?_, ?_⟩, fun k hk => ?_⟩
    · obtain ⟨z1, z2, z3⟩ := ho p hp
      show τ.1 54 0 0 p = (ν.2 309 0 0 p).toInt32 ∧ τ.1 55 0 0 p = (ν.2 310 0 0 p).toInt32 ∧ 0 ≤ (ν.2 309 0 0 p).toInt ∧ (ν.2 309 0 0 p).toInt ≤ 6240000
      rw [t54, t55, n309, n310]
      by_cases q : p < P
      · obtain ⟨y1, y2⟩ := x6 p (by omega) q
        obtain ⟨y3, y4⟩ := r6 p (by omega) q
        have y5 := (hw p q).1
        rw [y1, y2, y3, y4]
        refine ⟨(i32_64 (by omega)).symm, (i32_64 (by omega)).symm, ?_, ?_⟩
        · rw [jN_t (by omega)]
          omega
        · rw [jN_t (by omega)]
          omega
      · obtain ⟨y1, y2⟩ := x7 p (Or.inr (by omega))
        obtain ⟨y3, y4⟩ := r5 p (Or.inr (by omega))
        rw [y1, y2, y3, y4, l3 _ _ _ _ (by decide) (by decide), l3 _ _ _ _ (by decide) (by decide)]
        exact g4.fd.r p hp
    · show τ.1 57 0 0 0 = (ν.2 313 0 0 0).toInt32
      rw [t57, n313]
      exact (i32_64 (by omega)).symm
    · show τ.1 58 0 0 0 = (ν.2 314 0 0 0).toInt32
      rw [t58, n314]
      exact (i32_64 (by omega)).symm
    · show G + (S : Int) ≤ 12000000 * (ν.1 315 0 0 0).toInt
      rw [n315, nI_toInt (by omega)]
      omega
    · refine nf.trans ?_
      rw [hsum]
      omega
    · show (τ.1 59 0 0 k).toInt = (ν.2 311 0 0 k).toInt ∧ -200000000 ≤ (ν.2 311 0 0 k).toInt ∧ (ν.2 311 0 0 k).toInt ≤ 200000000
      by_cases q : k = w0 % 4
      · rw [q, t59, n311, sbI, sbJ]
        omega
      · rw [t59i k q, n311i k q]
        exact g4.fd.l k hk
theorem dPos {n i : Nat} (h : i < n) (hn : n < 2 ^ 31) : ¬ nI n ≤ nI i := nI_ge h hn
theorem days_loop' {N n : Nat} {TC : Nat → List Cl} {tp : Nat → Nat} (hN : 4000 ≤ N) (hn : n ≤ 120) : ∀ (e i m m' t : Nat) (σ μ : St), i + e = n → e < m → e < m' → InvB TC tp σ μ → μ.1 204 0 0 0 = 0 → tdN μ = t → t + e ≤ 935 → StQ (fX_days_32 N m (nI n) (nI i) σ) (fM_days_34 N m' (nI n) (nI i) μ) := by
  intro e
  induction e with
  | zero =>
    intro i m m' t σ μ h1 h2 h3 h hc ht h4
    obtain ⟨m, rfl⟩ : ∃ q, m = q + 1 := ⟨m - 1, by omega⟩
    obtain ⟨m', rfl⟩ : ∃ q, m' = q + 1 := ⟨m' - 1, by omega⟩
    have : i = n := by omega
    subst this
    show StQ (if nI i ≤ nI i then some (some (σ.1 162 0 0 0), σ) else _) (if nI i ≤ nI i then some (μ.1 205 0 0 0, μ) else _)
    rw [if_pos (Int32.le_refl _), if_pos (Int32.le_refl _)]
    exact StQ.ok ⟨TC, tp, h⟩ hc (h.eq.at (g := 205) 0 (by decide))
  | succ e ih =>
    intro i m m' t σ μ h1 h2 h3 h hc ht h4
    obtain ⟨m, rfl⟩ : ∃ q, m = q + 1 := ⟨m - 1, by omega⟩
    obtain ⟨m', rfl⟩ : ∃ q, m' = q + 1 := ⟨m' - 1, by omega⟩
    have cd := h.rg.cns.d
    rw [ht] at cd
    have e162 : σ.1 162 0 0 0 = nI t := (h.eq.at (g := 205) 0 (by decide)).trans cd.1
    have fin : ∀ σ' μ' : St, InvF TC tp σ' μ' → tdN μ' = t → μ'.1 204 0 0 0 = 0 → FdI (sI σ' 162 0 0 0 (nI (t + 1))) (sI μ' 205 0 0 0 (nI (t + 1))) → StQ (fX_days_52 N (fX_days_32 N m) (nI n) (nI i) σ') (fM_days_54 N (fM_days_34 N m') (nI n) (nI i) μ') := fun σ' μ' q1 q2 q3 q4 => by
      have cd' := q1.rg.cns.d
      rw [q2] at cd'
      have e1 : σ'.1 162 0 0 0 = nI t := (q1.eq.at (g := 205) 0 (by decide)).trans cd'.1
      unfold fX_days_52 fM_days_54
      rw [e1, nI_1, nmx, nI_1, cd'.1, nI_1, nmx]
      exact ih (i + 1) m m' (t + 1) _ _ (by omega) (by omega) (by omega) (q1.nx q2 (by omega) q4) (by rw [sI_o (by decide)]; exact q3) (by unfold tdN; rw [sI_s, nI_clamp (by omega)]) (by omega)
    show StQ (if nI n ≤ nI i then _ else if (irem (σ.1 162 0 0 0) 6) = 5 then bn1 (fX_payWeek N σ) fun σ1 => fX_days_52 N (fX_days_32 N m) (nI n) (nI i) σ1 else fX_days_52 N (fX_days_32 N m) (nI n) (nI i) σ) (if nI n ≤ nI i then _ else if (irem (μ.1 205 0 0 0) 6) = 5 then bn1 (fM_settle N μ) fun σ1 => fM_days_54 N (fM_days_34 N m') (nI n) (nI i) σ1 else fM_days_54 N (fM_days_34 N m') (nI n) (nI i) μ)
    rw [if_neg (nI_ge (by omega) (by omega)), if_neg (nI_ge (by omega) (by omega)), e162, cd.1, mod6 (by omega)]
    by_cases c : t % 6 = 5
    · rw [c, if_pos (show nI 5 = (5 : Int32) from rfl), if_pos (show nI 5 = (5 : Int32) from rfl)]
      obtain ⟨σ', μ', a1, a2, a3, a4, a5, a6⟩ := week_both hN h ht c hc
      rw [a1, bn1_e, a2, bn1_e]
      exact fin σ' μ' a3 a4 a5 a6
    · have c5 : ¬ nI (t % 6) = (5 : Int32) := fun q => by
        have := congrArg Int32.toInt q
        rw [nI_toInt (by omega), show (5 : Int32).toInt = 5 from rfl] at this
        omega
      rw [if_neg c5, if_neg c5]
      refine fin σ μ h.f ht hc ?_
      have lx : ∀ f i, f ≠ 162 → (sI σ 162 0 0 0 (nI (t + 1))).1 f 0 0 i = σ.1 f 0 0 i := fun f i q => sI_o q
      have lm : ∀ f i, f ≠ 205 → (sI μ 205 0 0 0 (nI (t + 1))).1 f 0 0 i = μ.1 f 0 0 i := fun f i q => sI_o q
      have etd : tdN (sI μ 205 0 0 0 (nI (t + 1))) = t + 1 := by unfold tdN; rw [sI_s, nI_clamp (by omega)]
      obtain ⟨w, w1, w2, w3, w4, w5⟩ := h.fd.w
      rw [ht] at w3 w4
      refine ⟨⟨w, (lx _ _ (by decide)).trans w1, (lm _ _ (by decide)).trans w2, by omega, by omega, w5⟩, fun p hp => ?_, ⟨?_, ?_⟩, ?_, fun k hk => ?_⟩
      · rw [lx _ _ (by decide), lx _ _ (by decide)]
        exact h.fd.r p hp
      · rw [lx _ _ (by decide)]
        exact h.fd.g.1
      · rw [lx _ _ (by decide)]
        exact h.fd.g.2
      · rw [lx _ _ (by decide), lm _ _ (by decide)]
        exact h.fd.f
      · rw [lx _ _ (by decide)]
        exact h.fd.l k hk
theorem step_days {N : Nat} {σ μ : St} (hN : 4000 ≤ N) (h : Inv σ μ) (a1 : Int32) : StQ (fX_days N a1 σ) (fM_days N a1 μ) := by
  obtain ⟨TC, tp, h⟩ := h
  have cd := h.rg.cns.d
  have hc := h.code (x := 0)
  have e162 : σ.1 162 0 0 0 = nI (tdN μ) := (h.eq.at (g := 205) 0 (by decide)).trans cd.1
  unfold fX_days fM_days fM_days_27 fM_fail fX_days_22
  rw [nmx, outside_e, bn1_e, nmx, bnd_e, sI_o (by decide), cd.1, e162]
  by_cases q1 : a1 < 0
  · rw [if_pos (Or.inl q1), if_neg (show ¬ (1 : Int32) = 0 by decide), if_pos q1]
    exact StQ.fail ⟨TC, tp, hc⟩
  by_cases q2 : (120 : Int32) < a1
  · rw [if_pos (Or.inr q2), if_neg (show ¬ (1 : Int32) = 0 by decide), if_neg q1, if_pos q2]
    exact StQ.fail ⟨TC, tp, hc⟩
  rw [if_neg (show ¬ (a1 < 0 ∨ 120 < a1) from fun q => q.elim q1 q2), if_pos rfl, if_neg q1, if_neg q2]
  obtain ⟨n, hn, rfl⟩ := nI_of q1
  have n120 : n ≤ 120 := by
    have := Int32.le_iff_toInt_le.mp (Int32.not_lt.mp q2)
    rw [nI_toInt hn, show (120 : Int32).toInt = 120 from rfl] at this
    omega
  have s1 : (935 - nI (tdN μ)).toInt = 935 - (tdN μ : Int) := by
    rw [Int32.toInt_sub, nI_toInt (by omega), show (935 : Int32).toInt = 935 from rfl]
    exact Int.bmod_eq_of_le (by omega) (by omega)
  by_cases c : tdN μ + n ≤ 935
  · rw [if_pos (show nI n ≤ 935 - nI (tdN μ) from Int32.le_iff_toInt_le.mpr (by rw [s1, nI_toInt hn]; omega)), nI_add, if_pos (show nI (tdN μ + n) ≤ 935 from Int32.le_iff_toInt_le.mpr (by rw [nI_toInt (by omega), show (935 : Int32).toInt = 935 from rfl]; omega))]
    exact days_loop' hN n120 n 0 N N (tdN μ) σ _ (by omega) (by omega) (by omega) hc (sI_s _ _ _ _ _ _) (by unfold tdN; rw [sI_o (by decide)]) c
  · rw [if_neg (show ¬ nI n ≤ 935 - nI (tdN μ) from fun q => by
      have := Int32.le_iff_toInt_le.mp q
      rw [s1, nI_toInt hn] at this
      omega), nI_add, if_neg (show ¬ nI (tdN μ + n) ≤ 935 from fun q => by
      have := Int32.le_iff_toInt_le.mp q
      rw [nI_toInt (by omega), show (935 : Int32).toInt = 935 from rfl] at this
      omega)]
    exact StQ.fail ⟨TC, tp, hc⟩
