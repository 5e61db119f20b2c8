/-! prices and places tell which rows of pairs are best -/
abbrev PTr (c : Nat → Nat → Int) (n : Nat) (u w : Nat → Int) (t co : Nat → Nat) (r : Nat) : Prop := (1 ≤ r) ∧ (∀ j, 1 ≤ j → j ≤ n → 1 ≤ t j ∧ t j ≤ n ∧ co (t j) = j) ∧ (∀ i, 1 ≤ i → i ≤ n → 1 ≤ co i ∧ co i ≤ n ∧ t (co i) = i) ∧ (∀ i j, r ≤ i → i ≤ n → 1 ≤ j → j ≤ n → r ≤ t j → u i + w j ≤ c i j) ∧ (∀ i, r ≤ i → i ≤ n → u i + w (co i) = c i (co i))
theorem PTr.r1 {c : Nat → Nat → Int} {n : Nat} {u w : Nat → Int} {t co : Nat → Nat} {r : Nat} (h : PTr c n u w t co r) : 1 ≤ r := h.1
theorem PTr.t1 {c : Nat → Nat → Int} {n : Nat} {u w : Nat → Int} {t co : Nat → Nat} {r : Nat} (h : PTr c n u w t co r) : ∀ j, 1 ≤ j → j ≤ n → 1 ≤ t j ∧ t j ≤ n ∧ co (t j) = j := h.2.1
theorem PTr.c1 {c : Nat → Nat → Int} {n : Nat} {u w : Nat → Int} {t co : Nat → Nat} {r : Nat} (h : PTr c n u w t co r) : ∀ i, 1 ≤ i → i ≤ n → 1 ≤ co i ∧ co i ≤ n ∧ t (co i) = i := h.2.2.1
theorem PTr.f {c : Nat → Nat → Int} {n : Nat} {u w : Nat → Int} {t co : Nat → Nat} {r : Nat} (h : PTr c n u w t co r) : ∀ i j, r ≤ i → i ≤ n → 1 ≤ j → j ≤ n → r ≤ t j → u i + w j ≤ c i j := h.2.2.2.1
theorem PTr.ti {c : Nat → Nat → Int} {n : Nat} {u w : Nat → Int} {t co : Nat → Nat} {r : Nat} (h : PTr c n u w t co r) : ∀ i, r ≤ i → i ≤ n → u i + w (co i) = c i (co i) := h.2.2.2.2
theorem ffi {p : Nat → Bool} {n v : Nat} (hv : v < n) (h1 : ∀ w, w < v → p w = false) (h2 : p v = true) : fa_first p n = v := by
  have l : ¬ v < fa_first p n := fun z => by
    rw [fa_first_no _ n v z] at h2
    exact absurd h2 (by decide)
  have g : ¬ fa_first p n < v := fun z => by
    have := fa_first_yes p n (by omega)
    rw [h1 _ z] at this
    exact absurd this (by decide)
  omega
def ixO (f : Nat → Nat) (n q : Nat) : Nat := fa_first (fun i => decide (f i = q)) n
theorem ixO_e {f : Nat → Nat} {n i : Nat} (hm : ∀ i j, i < j → j < n → f i < f j) (hi : i < n) : ixO f n (f i) = i := ffi hi (fun w hw => decide_eq_false fun e => by
  have := hm w i hw hi
  omega) (decide_eq_true rfl)
theorem ixO_y {f : Nat → Nat} {n q : Nat} (h : ixO f n q < n) : f (ixO f n q) = q := by
  have := fa_first_yes (fun i => decide (f i = q)) n h
  exact of_decide_eq_true this
def xC (u : Nat → Int) (a : Int) (wh : Nat → Nat) (R r q : Nat) : Int := if ixO wh R q < R ∧ r ≤ ixO wh R q + 1 then -u (ixO wh R q + 1) - a else 0
def yC (w : Nat → Int) (a : Int) (t wr : Nat → Nat) (C r v : Nat) : Int := if ixO wr C v < C ∧ r ≤ t (ixO wr C v + 1) ∧ w (ixO wr C v + 1) ≤ a then a - w (ixO wr C v + 1) else 0
def sC (co wh wr : Nat → Nat) (R C V q : Nat) : Nat := if ixO wh R q < R ∧ co (ixO wh R q + 1) ≤ C then wr (co (ixO wh R q + 1) - 1) else V
theorem cert {G : Nat → Nat → Nat} {P V R C r p : Nat} {wh wr t co : Nat → Nat} {u w : Nat → Int} {U : Nat → Bool} (S : SC G P V R C wh wr) (T : PTr (cst G R C wh wr) (R + C) u w t co r) (hr : r ≤ R) (hp : ∀ i, i < R → (wh i < p ↔ i + 1 < r)) (hpP : p ≤ P) (hU : ∀ c, c < C → (U (wr c) = true ↔ t (c + 1) < r)) : ∃ x y : Nat → Int, (∀ q, 0 ≤ x q) ∧ (∀ v, 0 ≤ y v) ∧ (∀ q v, p ≤ q → q < P → v < V → mayG G U q v → (G q v : Int) ≤ x q + y v) ∧ (bW G V (P - p) p U : Int) = sR x (P - p) p + sY y U V ∧ (∀ i c, r ≤ i + 1 → i < R → c < C → r ≤ t (c + 1) → -u (i + 1) - w (c + 1) ≤ x (wh i) + y (wr c)) ∧ (bW G V (P - p) p U : Int) = sR (wl G V (sC co wh wr R C V) 0) (P - p) p ∧ (∀ q, p ≤ q → q < P → sC co wh wr R C V q < V → mayG G U q (sC co wh wr R C V q)) ∧ (∀ q q', p ≤ q → q < P → p ≤ q' → q' < P → sC co wh wr R C V q < V → sC co wh wr R C V q = sC co wh wr R C V q' → q = q') ∧ ∀ i, i < R → r ≤ i + 1 → co (i + 1) ≤ C → sC co wh wr R C V (wh i) = wr (co (i + 1) - 1) := by
  have cD : ∀ i j, (R < i ∨ C < j) → cst G R C wh wr i j = 0 := fun i j z => if_pos z
  have r1 := T.r1
  obtain ⟨jd, jd1, jd2, jd3⟩ : ∃ j, C < j ∧ j ≤ R + C ∧ r ≤ t j := by
    refine Classical.byContradiction fun z => ?_
    have l := inj_cnt (m := r - 1) (f := fun i => t (C + 1 + i) - 1) R (fun _ => true) (fun _ => true) (fun i hi _ => by
      have := (T.t1 (C + 1 + i) (by omega) (by omega)).1
      have : ¬ r ≤ t (C + 1 + i) := fun q => z ⟨C + 1 + i, by omega, by omega, q⟩
      exact ⟨by omega, rfl⟩) (fun i j hi hj _ _ e => by
      obtain ⟨a1, a2, a3⟩ := T.t1 (C + 1 + i) (by omega) (by omega)
      obtain ⟨b1, b2, b3⟩ := T.t1 (C + 1 + j) (by omega) (by omega)
      have e2 : t (C + 1 + i) = t (C + 1 + j) := by omega
      rw [e2, b3] at a3
      omega)
    rw [cnt_t, cnt_t] at l
    omega
  obtain ⟨a, ha⟩ : ∃ a, a = w jd := ⟨_, rfl⟩
  have A1 : ∀ i, r ≤ i → i ≤ R + C → u i + a ≤ 0 := fun i i1 i2 => by
    have := T.f i jd i1 i2 (by omega) jd2 jd3
    rw [cD i jd (Or.inr jd1)] at this
    omega
  have tt : ∀ j, 1 ≤ j → j ≤ R + C → r ≤ t j → u (t j) + w j = cst G R C wh wr (t j) j := fun j j1 j2 z => by
    obtain ⟨a1, a2, a3⟩ := T.t1 j j1 j2
    have := T.ti (t j) z a2
    rw [a3] at this
    exact this
  have A2 : ∀ j, C < j → j ≤ R + C → r ≤ t j → w j = a := fun j j1 j2 z => by
    have e1 := tt j (by omega) j2 z
    have e2 := tt jd (by omega) jd2 jd3
    rw [cD _ _ (Or.inr j1)] at e1
    rw [cD _ _ (Or.inr jd1)] at e2
    have f1 := A1 (t j) z (T.t1 j (by omega) j2).2.1
    have f2 := T.f (t jd) j jd3 (T.t1 jd (by omega) jd2).2.1 (by omega) j2 z
    rw [cD _ _ (Or.inr j1)] at f2
    omega
  have A3 : ∀ i, r ≤ i → i ≤ R + C → C < co i → u i = -a := fun i i1 i2 z => by
    obtain ⟨a1, a2, a3⟩ := T.c1 i (by omega) i2
    have e := T.ti i i1 i2
    rw [cD _ _ (Or.inr z), A2 (co i) z a2 (by rw [a3]; exact i1)] at e
    omega
  have A4 : ∀ i, r ≤ i → i ≤ R → co i ≤ C → ∀ j, 1 ≤ j → j ≤ C → r ≤ t j → w j ≤ a := fun i i1 i2 z j j1 j2 j3 => by
    obtain ⟨d, d1, d2, d3⟩ : ∃ d, C < d ∧ d ≤ R + C ∧ R < t d := by
      refine Classical.byContradiction fun y => ?_
      have le : ∀ d, C < d → d ≤ R + C → t d ≤ R := fun d a b => Classical.byContradiction fun q => y ⟨d, a, b, by omega⟩
      have ci := T.c1 i (by omega) (by omega)
      have l := inj_cnt (m := R) (f := fun k => t (C + 1 + k) - 1) R (fun _ => true) (fun k => decide (k + 1 ≠ i)) (fun k hk _ => by
        obtain ⟨b1, b2, b3⟩ := T.t1 (C + 1 + k) (by omega) (by omega)
        have := le (C + 1 + k) (by omega) (by omega)
        refine ⟨by omega, decide_eq_true ?_⟩
        intro e
        rw [show t (C + 1 + k) = i by omega] at b3
        omega) (fun k j hk hj _ _ e => by
        obtain ⟨a1, a2, a3⟩ := T.t1 (C + 1 + k) (by omega) (by omega)
        obtain ⟨b1, b2, b3⟩ := T.t1 (C + 1 + j) (by omega) (by omega)
        have e2 : t (C + 1 + k) = t (C + 1 + j) := by omega
        rw [e2, b3] at a3
        omega)
      have l2 := cnt_lt (p := fun k => decide (k + 1 ≠ i)) (q := fun _ => true) (a := i - 1) (n := R) (fun _ _ _ => rfl) (by omega) rfl (decide_eq_false (by omega))
      rw [cnt_t] at l l2
      omega
    have e1 := tt d (by omega) d2 (by omega)
    rw [cD _ _ (Or.inr d1), A2 d d1 d2 (by omega)] at e1
    have f2 := T.f (t d) j (by omega) (T.t1 d (by omega) d2).2.1 j1 (by omega) j3
    rw [cD _ _ (Or.inl d3)] at f2
    omega
  have A5 : ∀ j, 1 ≤ j → j ≤ C → r ≤ t j → R < t j → a ≤ w j := fun j j1 j2 z y => by
    have e1 := tt j j1 (by omega) z
    rw [cD _ _ (Or.inl y)] at e1
    have f1 := A1 (t j) z (T.t1 j j1 (by omega)).2.1
    omega
  have A6 : ∀ i, i < R → r ≤ i + 1 → co (i + 1) ≤ C → G (wh i) (wr (co (i + 1) - 1)) ≠ 0 ∧ u (i + 1) + w (co (i + 1)) = -(G (wh i) (wr (co (i + 1) - 1)) : Int) := fun i i1 i2 z => by
    obtain ⟨a1, a2, a3⟩ := T.c1 (i + 1) (by omega) (by omega)
    have e := T.ti (i + 1) i2 (by omega)
    have l1 := A1 (i + 1) i2 (by omega)
    have l2 := A4 (i + 1) i2 (by omega) z (co (i + 1)) a1 z (by rw [a3]; exact i2)
    have ec : cst G R C wh wr (i + 1) (co (i + 1)) = if G (wh i) (wr (co (i + 1) - 1)) = 0 then 1 else -(G (wh i) (wr (co (i + 1) - 1)) : Int) := if_neg (by omega)
    rw [ec] at e
    by_cases y : G (wh i) (wr (co (i + 1) - 1)) = 0
    · rw [if_pos y] at e
      omega
    · rw [if_neg y] at e
      exact ⟨y, e⟩
  have ir : ∀ i, i < R → ixO wh R (wh i) = i := fun i hi => ixO_e S.ma hi
  have ic : ∀ c, c < C → ixO wr C (wr c) = c := fun c hc => ixO_e S.mb hc
  -- prices of persons, of places
  have xw : ∀ i, i < R → r ≤ i + 1 → xC u a wh R r (wh i) = -u (i + 1) - a := fun i hi z => by
    unfold xC
    rw [ir i hi, if_pos ⟨hi, z⟩]
  have yw : ∀ c, c < C → r ≤ t (c + 1) → w (c + 1) ≤ a → yC w a t wr C r (wr c) = a - w (c + 1) := fun c hc z y => by
    unfold yC
    rw [ic c hc, if_pos ⟨hc, z, y⟩]
  have y0 : ∀ v, 0 ≤ yC w a t wr C r v := fun v => by
    unfold yC
    split
    · omega
    · omega
  have yg : ∀ c, c < C → r ≤ t (c + 1) → a - w (c + 1) ≤ yC w a t wr C r (wr c) := fun c hc z => by
    by_cases y : w (c + 1) ≤ a
    · rw [yw c hc z y]; exact Int.le_refl _
    · have := y0 (wr c)
      omega
  have x0 : ∀ q, 0 ≤ xC u a wh R r q := fun q => by
    unfold xC
    split
    · next h =>
      have := A1 (ixO wh R q + 1) h.2 (by omega)
      omega
    · omega
  have sw : ∀ i, i < R → co (i + 1) ≤ C → sC co wh wr R C V (wh i) = wr (co (i + 1) - 1) := fun i hi z => by
    unfold sC
    rw [ir i hi, if_pos ⟨hi, z⟩]
  have sx : ∀ q, sC co wh wr R C V q < V → ∃ i, i < R ∧ wh i = q ∧ co (i + 1) ≤ C ∧ sC co wh wr R C V q = wr (co (i + 1) - 1) := fun q z => by
    by_cases y : ixO wh R q < R ∧ co (ixO wh R q + 1) ≤ C
    · exact ⟨ixO wh R q, y.1, ixO_y y.1, y.2, if_pos y⟩
    · have : sC co wh wr R C V q = V := if_neg y
      omega
  have ge : ∀ i, i < R → p ≤ wh i → r ≤ i + 1 := fun i hi z => by
    have := hp i hi
    omega
  have may : ∀ q, p ≤ q → q < P → sC co wh wr R C V q < V → mayG G U q (sC co wh wr R C V q) := fun q q1 q2 z => by
    obtain ⟨i, i1, i2, i3, i4⟩ := sx q z
    have g := ge i i1 (by omega)
    obtain ⟨a1, a2, a3⟩ := T.c1 (i + 1) (by omega) (by omega)
    rw [i4]
    refine ⟨?_, by rw [← i2]; exact (A6 i i1 g i3).1⟩
    have := hU (co (i + 1) - 1) (by omega)
    rw [show co (i + 1) - 1 + 1 = co (i + 1) by omega, a3] at this
    cases k : U (wr (co (i + 1) - 1)) with
    | false => rfl
    | true => have := this.mp k; omega
  have inj : ∀ q q', p ≤ q → q < P → p ≤ q' → q' < P → sC co wh wr R C V q < V → sC co wh wr R C V q = sC co wh wr R C V q' → q = q' := fun q q' q1 q2 q3 q4 z e => by
    obtain ⟨i, i1, i2, i3, i4⟩ := sx q z
    obtain ⟨j, j1, j2, j3, j4⟩ := sx q' (by omega)
    rw [i4, j4] at e
    obtain ⟨a1, a2, a3⟩ := T.c1 (i + 1) (by omega) (by omega)
    obtain ⟨b1, b2, b3⟩ := T.c1 (j + 1) (by omega) (by omega)
    have e2 : co (i + 1) - 1 = co (j + 1) - 1 := by
      rw [← ic (co (i + 1) - 1) (by omega), e, ic (co (j + 1) - 1) (by omega)]
    rw [show co (i + 1) = co (j + 1) by omega, b3] at a3
    rw [← i2, ← j2, show i = j by omega]
  have ub := bW_ub (g := G) (V := V) (x := xC u a wh R r) (y := yC w a t wr C r) (P - p) p U
  have feas : ∀ q v, p ≤ q → q < P → v < V → mayG G U q v → (G q v : Int) ≤ xC u a wh R r q + yC w a t wr C r v := fun q v q1 q2 v1 m => by
    obtain ⟨i, i1, i2⟩ := S.ca q v q2 v1 m.2
    obtain ⟨c, c1, c2⟩ := S.cb q v q2 v1 m.2
    have g := ge i i1 (by omega)
    have tc : r ≤ t (c + 1) := by
      have := hU c c1
      rw [c2, m.1] at this
      refine Classical.byContradiction fun z => ?_
      exact absurd (this.mpr (by omega)) (by decide)
    have f := T.f (i + 1) (c + 1) g (by omega) (by omega) (by omega) tc
    have ec : cst G R C wh wr (i + 1) (c + 1) = if G (wh i) (wr c) = 0 then 1 else -(G (wh i) (wr c) : Int) := if_neg (by omega)
    rw [ec, i2, c2, if_neg m.2] at f
    rw [← i2, ← c2, xw i i1 g, i2, c2]
    have := yg c c1 tc
    rw [c2] at this
    omega
  have pe := pay_eq (g := G) (V := V) (s := sC co wh wr R C V) (x := xC u a wh R r) (y := yC w a t wr C r) (l := 0) (P - p) p U (fun q q1 q2 z => by
    have m := may q q1 (by omega) z
    refine ⟨m.1, ?_⟩
    obtain ⟨i, i1, i2, i3, i4⟩ := sx q z
    have g := ge i i1 (by omega)
    obtain ⟨a1, a2, a3⟩ := T.c1 (i + 1) (by omega) (by omega)
    obtain ⟨b1, b2⟩ := A6 i i1 g i3
    have l2 := A4 (i + 1) g (by omega) i3 (co (i + 1)) a1 i3 (by rw [a3]; exact g)
    have y1 := yw (co (i + 1) - 1) (by omega) (by rw [show co (i + 1) - 1 + 1 = co (i + 1) by omega, a3]; exact g) (by rw [show co (i + 1) - 1 + 1 = co (i + 1) by omega]; exact l2)
    rw [show co (i + 1) - 1 + 1 = co (i + 1) by omega] at y1
    rw [i4, ← i2, xw i i1 g, y1]
    omega) (fun q q' q1 q2 q3 q4 => inj q q' q1 (by omega) q3 (by omega)) (fun q q1 q2 z => by
    unfold xC
    split
    · next h =>
      have n : ¬ co (ixO wh R q + 1) ≤ C := fun y => by
        have e : sC co wh wr R C V q = wr (co (ixO wh R q + 1) - 1) := if_pos ⟨h.1, y⟩
        obtain ⟨a1, a2, a3⟩ := T.c1 (ixO wh R q + 1) (by omega) (by omega)
        have := S.b (co (ixO wh R q + 1) - 1) (by omega)
        omega
      have := A3 (ixO wh R q + 1) h.2 (by omega) (by omega)
      omega
    · rfl) (fun v v1 v2 z => by
    unfold yC
    split
    · next h =>
      have wv := ixO_y h.1
      by_cases k : R < t (ixO wr C v + 1)
      · have := A5 (ixO wr C v + 1) (by omega) (by omega) h.2.1 k
        omega
      · exfalso
        obtain ⟨a1, a2, a3⟩ := T.t1 (ixO wr C v + 1) (by omega) (by omega)
        have i1 : t (ixO wr C v + 1) - 1 < R := by omega
        have e : t (ixO wr C v + 1) - 1 + 1 = t (ixO wr C v + 1) := by omega
        have pw : p ≤ wh (t (ixO wr C v + 1) - 1) := by
          have := hp _ i1
          omega
        have qw := S.a _ i1
        refine z (wh (t (ixO wr C v + 1) - 1)) pw (by omega) ?_
        rw [sw _ i1 (by rw [e, a3]; omega), e, a3]
        exact wv
    · rfl)
  have U1 := ub (fun q v q1 q2 v1 m => feas q v q1 (by omega) v1 m) (fun q _ _ => x0 q) (fun v _ _ => y0 v)
  have L1 := bW_lb (g := G) (V := V) (s := sC co wh wr R C V) (P - p) p U (fun q q1 q2 z => may q q1 (by omega) z) (fun q q' q1 q2 q3 q4 => inj q q' q1 (by omega) q3 (by omega))
  refine ⟨xC u a wh R r, yC w a t wr C r, x0, y0, feas, by omega, fun i c z i1 c1 y => ?_, by omega, may, inj, fun i hi _ z => sw i hi z⟩
  rw [xw i i1 z]
  have := yg c c1 y
  omega
theorem ok_no {G : Nat → Nat → Nat} {P V R C r p k c0 : Nat} {wh wr t co : Nat → Nat} {u w : Nat → Int} {U : Nat → Bool} (S : SC G P V R C wh wr) (T : PTr (cst G R C wh wr) (R + C) u w t co r) (hr : r ≤ R) (hp : wh (r - 1) = p) (hk : P - p = k + 1) (hU : ∀ c, c < C → (U (wr c) = true ↔ t (c + 1) < r)) (hc : c0 < C) (hs : r ≤ t (c0 + 1)) (hn : (G p (wr c0) : Int) < -u r - w (c0 + 1)) : okR G V k p U (wr c0) = false := by
  have r1 := T.r1
  have pP := S.a (r - 1) (by omega)
  obtain ⟨x, y, x0, y0, f, e, d, -, -, -, -⟩ := cert S T hr (p := p) (fun i hi => by
    by_cases z : i < r - 1
    · have := S.ma i (r - 1) z (by omega)
      omega
    · by_cases q : i = r - 1
      · rw [q]; omega
      · have := S.ma (r - 1) i (by omega) hi
        omega) (by omega) hU
  refine decide_eq_false fun ⟨m, q⟩ => ?_
  have v1 := S.b c0 hc
  have ub := bW_ub (g := G) (V := V) (x := x) (y := y) k (p + 1) (insU U (wr c0)) (fun q v q1 q2 q3 q4 => f q v (by omega) (by omega) q3 ⟨insU_le q4.1, q4.2⟩) (fun q _ _ => x0 q) (fun v _ _ => y0 v)
  rw [hk] at e
  have e1 : sR x (k + 1) p = x p + sR x k (p + 1) := rfl
  have e2 := sY_ins (y := y) m.1 V v1
  have d1 := d (r - 1) c0 (by omega) (by omega) hc hs
  rw [hp, show r - 1 + 1 = r by omega] at d1
  omega
theorem ok_yes {G : Nat → Nat → Nat} {P V R C r p k : Nat} {wh wr t co : Nat → Nat} {u w : Nat → Int} {U : Nat → Bool} (S : SC G P V R C wh wr) (T : PTr (cst G R C wh wr) (R + C) u w t co r) (hr : r ≤ R) (hp : wh (r - 1) = p) (hk : P - p = k + 1) (hU : ∀ c, c < C → (U (wr c) = true ↔ t (c + 1) < r)) (hc : co r ≤ C) : okR G V k p U (wr (co r - 1)) = true := by
  have r1 := T.r1
  have pP := S.a (r - 1) (by omega)
  obtain ⟨x, y, -, -, -, -, -, e, m, i, s⟩ := cert S T hr (p := p) (fun i hi => by
    by_cases z : i < r - 1
    · have := S.ma i (r - 1) z (by omega)
      omega
    · by_cases q : i = r - 1
      · rw [q]; omega
      · have := S.ma (r - 1) i (by omega) hi
        omega) (by omega) hU
  have s1 := s (r - 1) (by omega) (by omega) (by rw [show r - 1 + 1 = r by omega]; exact hc)
  rw [show r - 1 + 1 = r by omega, hp] at s1
  have cr := T.c1 r r1 (by omega)
  have vb := S.b (co r - 1) (by omega)
  have mp := m p (Nat.le_refl p) (by omega) (by rw [s1]; exact vb)
  have mp0 := mp
  rw [s1] at mp
  refine decide_eq_true ⟨mp, ?_⟩
  have tk := bW_take (k := k) vb mp
  have lb := bW_lb (g := G) (V := V) (s := sC co wh wr R C V) k (p + 1) (insU U (wr (co r - 1))) (fun q q1 q2 z => by
    have mq := m q (by omega) (by omega) z
    refine ⟨?_, mq.2⟩
    rw [insU_o]
    · exact mq.1
    · intro z2
      have := i q p (by omega) (by omega) (by omega) (by omega) z (by rw [z2, s1])
      omega) (fun q q' q1 q2 q3 q4 => i q q' (by omega) (by omega) (by omega) (by omega))
  rw [hk] at e
  have e1 : sR (wl G V (sC co wh wr R C V) 0) (k + 1) p = wl G V (sC co wh wr R C V) 0 p + sR (wl G V (sC co wh wr R C V) 0) k (p + 1) := rfl
  have e2 : wl G V (sC co wh wr R C V) 0 p = (G p (wr (co r - 1)) : Int) := by
    unfold wl
    rw [s1, if_pos vb]
  omega
