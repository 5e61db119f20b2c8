/-! the class' life: values, expressions, bars, pay -/
theorem VX.j {v k : Nat} {σ : St} {vs : Nat → Int64} {x : Int64} (h : VX v σ vs) (hx : x = vs k) : VX v (sJ σ 72 v 0 k x) vs := fun j hj => by
  by_cases c : j = k
  · rw [c, sJ_s, hx]
  · rw [sJ_i c, h j hj]
def VXp (v m : Nat) (σ : St) (vs : Nat → Int64) : Prop := ∀ k, k < m → σ.2 72 v 0 k = vs k
theorem VXp.j {v k : Nat} {σ : St} {vs : Nat → Int64} {x : Int64} (h : VXp v k σ vs) (hx : x = vs k) : VXp v (k + 1) (sJ σ 72 v 0 k x) vs := fun j hj => by
  by_cases c : j = k
  · rw [c, sJ_s, hx]
  · rw [sJ_i c, h j (by omega)]
theorem set_par {N v p n d : Nat} {E : Env} {s : Lfe} (hd : d < 936) : ∀ (e k m : Nat) (σ : St), k + e = 8 → e < m → EX v p n E σ → VXp v k σ (vS E d s) → ∃ σ', fLife_setOut_10 N v p m (nI d) (nI k) σ = fLife_setOut_10 N v p (m - e) (nI d) 8 σ' ∧ LfX v p σ σ' ∧ σ'.1 = σ.1 ∧ VXp v 8 σ' (vS E d s) := by
  intro e
  induction e with
  | zero =>
    intro k m σ h1 h2 hE h3
    obtain rfl : k = 8 := by omega
    exact ⟨σ, rfl, LfX.rf, rfl, h3⟩
  | succ e ih =>
    intro k m σ h1 h2 hE h3
    obtain ⟨m, rfl⟩ : ∃ q, m = q + 1 := ⟨m - 1, by omega⟩
    obtain ⟨σ', i1, i2, i3, i4⟩ := ih (k + 1) m (sJ σ 72 v 0 k ((E.sh d).par k).toInt64) (by omega) (by omega) (hE.lf LfX.j) (h3.j (by unfold vS; rw [if_pos (by omega)]))
    refine ⟨σ', ?_, LfX.j.tr i2, i3, i4⟩
    rw [show m + 1 - (e + 1) = m - e by omega, ← i1]
    show (if (8 : Int32) ≤ nI k then _ else bn1 (fLaw_param N v (nI k) (nI d) σ) fun r5 => chk (inb (nI k) 20) (nm (sJ σ 72 v 0 (nI k).toNatClampNeg r5.toInt64) fun (σ6 : St) => fLife_setOut_10 N v p m (nI d) (nI k + 1) σ6)) = _
    rw [if_neg (show ¬ (8 : Int32) ≤ nI k from nI_ge (a := k) (b := 8) (by omega) (by omega)), param_e hE (by omega) hd, bn1_e, chk_t (inb_n (by omega) (by decide)), nmx, nI_clamp (by omega), nI_1]
theorem VXp.full {v : Nat} {σ : St} {vs : Nat → Int64} (h : VXp v 20 σ vs) : VX v σ vs := h
theorem so214 {N v p d : Nat} {E : Env} {s : Lfe} {x : Int64} {σ : St} (hs : sl v p σ = s) (h : VXp v 14 σ (vS E d s)) (hx : x = vS E d s 14) : ∃ σ', fLife_setOut_214 N v p 14 x σ = some σ' ∧ LfX v p σ σ' ∧ σ'.1 = σ.1 ∧ VX v σ' (vS E d s) := by
  have f : ∀ g i, slr g → σ.1 g v p i = s g i := fun g i q => by rw [← hs]; exact (if_pos q).symm
  unfold fLife_setOut_214
  rw [chk_t (by decide), nmx, nmx, nmx, nmx, nmx, nmx]
  refine ⟨_, rfl, (((((LfX.j.tr LfX.j).tr LfX.j).tr LfX.j).tr LfX.j).tr LfX.j), rfl, ?_⟩
  refine VXp.full (VXp.j (k := 19) (VXp.j (k := 18) (VXp.j (k := 17) (VXp.j (k := 16) (VXp.j (k := 15) (VXp.j (k := 14) h hx) ?_) ?_) rfl) rfl) rfl)
  · show (σ.1 94 v p 0).toInt64 = _
    rw [f _ _ (by decide)]
    rfl
  · show (σ.1 92 v p 0).toInt64 = _
    rw [f _ _ (by decide)]
    rfl
theorem so184 {N v p n d : Nat} {E : Env} {s : Lfe} {x : Int64} {σ : St} (hN : 200 ≤ N) (hE : EX v p n E σ) (h1 : 312 ≤ d) (hd : d < 936) (hs : sl v p σ = s) (hr : rw_ s + 11 ≤ 605) (h : VXp v 13 σ (vS E d s)) (hx : x = vS E d s 13) : ∃ σ', fLife_setOut_184 N v p (nI d) (nI (rw_ s)) 13 x σ = some σ' ∧ LfX v p σ σ' ∧ σ'.1 = σ.1 ∧ VX v σ' (vS E d s) := by
  have f : ∀ g i, slr g → σ.1 g v p i = s g i := fun g i q => by rw [← hs]; exact (if_pos q).symm
  have h14 : VXp v 14 (sJ σ 72 v 0 13 x) (vS E d s) := VXp.j (k := 13) h hx
  have e14 : vS E d s 14 = if s 85 0 = 0 then (unA E d).toInt64 else (s 79 (rw_ s + 10)).toInt64 := rfl
  unfold fLife_setOut_184
  rw [chk_t (by decide), nmx]
  show ∃ σ', (if σ.1 85 v p 0 = 0 then _ else _) = some σ' ∧ _
  rw [f _ _ (by decide)]
  by_cases c : s 85 0 = 0
  · rw [if_pos c] at e14 ⊢
    rw [(stA_e hN (hE.lf LfX.j) h1 hd).2, bn1_e]
    obtain ⟨σ', i1, i2, i3, i4⟩ := so214 (N := N) (σ := sJ σ 72 v 0 13 x) (E := E) (d := d) (x := (unA E d).toInt64) (show sl v p (sJ σ 72 v 0 13 x) = s from hs) h14 e14.symm
    exact ⟨σ', i1, LfX.j.tr i2, i3, i4⟩
  · rw [if_neg c] at e14 ⊢
    rw [show nI (rw_ s) + 10 = nI (rw_ s + 10) from nI_add _ 10, chk_t (inb_n (by omega) (by decide)), nI_clamp (by omega)]
    obtain ⟨σ', i1, i2, i3, i4⟩ := so214 (N := N) (σ := sJ σ 72 v 0 13 x) (E := E) (d := d) (x := (σ.1 79 v p (rw_ s + 10)).toInt64) (show sl v p (sJ σ 72 v 0 13 x) = s from hs) h14 (by rw [f _ _ (by decide)]; exact e14.symm)
    exact ⟨σ', i1, LfX.j.tr i2, i3, i4⟩
theorem so154 {N v p n d : Nat} {E : Env} {s : Lfe} {x : Int64} {σ : St} (hN : 200 ≤ N) (hE : EX v p n E σ) (h1 : 312 ≤ d) (hd : d < 936) (hs : sl v p σ = s) (hr : rw_ s + 11 ≤ 605) (h : VXp v 12 σ (vS E d s)) (hx : x = vS E d s 12) : ∃ σ', fLife_setOut_154 N v p (nI d) (nI (rw_ s)) 12 x σ = some σ' ∧ LfX v p σ σ' ∧ σ'.1 = σ.1 ∧ VX v σ' (vS E d s) := by
  have f : ∀ g i, slr g → σ.1 g v p i = s g i := fun g i q => by rw [← hs]; exact (if_pos q).symm
  have h13 : VXp v 13 (sJ σ 72 v 0 12 x) (vS E d s) := VXp.j (k := 12) h hx
  have e13 : vS E d s 13 = if s 85 0 = 0 then (stA E d).toInt64 else (s 79 (rw_ s + 9)).toInt64 := rfl
  unfold fLife_setOut_154
  rw [chk_t (by decide), nmx]
  show ∃ σ', (if σ.1 85 v p 0 = 0 then _ else _) = some σ' ∧ _
  rw [f _ _ (by decide)]
  by_cases c : s 85 0 = 0
  · rw [if_pos c] at e13 ⊢
    rw [(stA_e hN (hE.lf LfX.j) h1 hd).1, bn1_e]
    obtain ⟨σ', i1, i2, i3, i4⟩ := so184 (N := N) (σ := sJ σ 72 v 0 12 x) (x := (stA E d).toInt64) hN (hE.lf LfX.j) h1 hd (show sl v p (sJ σ 72 v 0 12 x) = s from hs) hr h13 e13.symm
    exact ⟨σ', i1, LfX.j.tr i2, i3, i4⟩
  · rw [if_neg c] at e13 ⊢
    rw [show nI (rw_ s) + 9 = nI (rw_ s + 9) from nI_add _ 9, chk_t (inb_n (by omega) (by decide)), nI_clamp (by omega)]
    obtain ⟨σ', i1, i2, i3, i4⟩ := so184 (N := N) (σ := sJ σ 72 v 0 12 x) (x := (σ.1 79 v p (rw_ s + 9)).toInt64) hN (hE.lf LfX.j) h1 hd (show sl v p (sJ σ 72 v 0 12 x) = s from hs) hr h13 (by rw [f _ _ (by decide)]; exact e13.symm)
    exact ⟨σ', i1, LfX.j.tr i2, i3, i4⟩
theorem so112 {N v p n d : Nat} {E : Env} {s : Lfe} {x : Int64} {σ : St} (hN : 200 ≤ N) (hE : EX v p n E σ) (h1 : 312 ≤ d) (hd : d < 936) (hs : sl v p σ = s) (hr : rw_ s + 11 ≤ 605) (h : VXp v 11 σ (vS E d s)) (hx : x = vS E d s 11) : ∃ σ', fLife_setOut_112 N v p (nI d) (nI (rw_ s)) 11 x σ = some σ' ∧ LfX v p σ σ' ∧ σ'.1 = σ.1 ∧ VX v σ' (vS E d s) := by
  have f : ∀ g i, slr g → σ.1 g v p i = s g i := fun g i q => by rw [← hs]; exact (if_pos q).symm
  have h12 : VXp v 12 (sJ σ 72 v 0 11 x) (vS E d s) := VXp.j (k := 11) h hx
  have e12 : vS E d s 12 = if s 85 0 = 0 then 0 else (s 79 (rw_ s + 3) + s 79 (rw_ s + 4) + s 79 (rw_ s + 5)).toInt64 := rfl
  unfold fLife_setOut_112
  rw [chk_t (by decide), nmx]
  show ∃ σ', (if σ.1 85 v p 0 = 0 then _ else _) = some σ' ∧ _
  rw [f _ _ (by decide)]
  by_cases c : s 85 0 = 0
  · rw [if_pos c] at e12 ⊢
    obtain ⟨σ', i1, i2, i3, i4⟩ := so154 (N := N) (σ := sJ σ 72 v 0 11 x) (x := 0) hN (hE.lf LfX.j) h1 hd (show sl v p (sJ σ 72 v 0 11 x) = s from hs) hr h12 e12.symm
    exact ⟨σ', i1, LfX.j.tr i2, i3, i4⟩
  · rw [if_neg c] at e12 ⊢
    rw [show nI (rw_ s) + 3 = nI (rw_ s + 3) from nI_add _ 3, show nI (rw_ s) + 4 = nI (rw_ s + 4) from nI_add _ 4, show nI (rw_ s) + 5 = nI (rw_ s + 5) from nI_add _ 5, chk_t (inb_n (by omega) (by decide)), chk_t (inb_n (by omega) (by decide)), chk_t (inb_n (by omega) (by decide)), nI_clamp (by omega), nI_clamp (by omega), nI_clamp (by omega)]
    obtain ⟨σ', i1, i2, i3, i4⟩ := so154 (N := N) (σ := sJ σ 72 v 0 11 x) (x := (σ.1 79 v p (rw_ s + 3) + σ.1 79 v p (rw_ s + 4) + σ.1 79 v p (rw_ s + 5)).toInt64) hN (hE.lf LfX.j) h1 hd (show sl v p (sJ σ 72 v 0 11 x) = s from hs) hr h12 (by rw [f _ _ (by decide), f _ _ (by decide), f _ _ (by decide)]; exact e12.symm)
    exact ⟨σ', i1, LfX.j.tr i2, i3, i4⟩
theorem setOut_e {N v p n d : Nat} {E : Env} {σ : St} (hN : 200 ≤ N) (hE : EX v p n E σ) (hW : WL (sl v p σ)) (h1 : 312 ≤ d) (hd : d < 936) : ∃ σ', fLife_setOut N v p (nI d) σ = some σ' ∧ LfX v p σ σ' ∧ σ'.1 = σ.1 ∧ VX v σ' (vS E d (sl v p σ)) := by
  obtain ⟨σ1, a1, a2, a3, a4⟩ := set_par (N := N) (v := v) (p := p) (n := n) (E := E) (s := sl v p σ) hd 8 0 N σ (by omega) (by omega) hE (fun k hk => by omega)
  have hs1 : sl v p σ1 = sl v p σ := by unfold sl; rw [a3]
  obtain ⟨r1, r2⟩ := row_e (N := N) (σ := σ1) (by rw [hs1]; exact hW)
  rw [hs1] at r1 r2
  have hE1 := hE.lf a2
  obtain ⟨-, -, -, hp, e6, e7, e8, -, -⟩ := hE1
  obtain ⟨M, hM⟩ : ∃ q, N - 8 = q + 1 := ⟨N - 9, by omega⟩
  have f : ∀ g i, slr g → σ1.1 g v p i = sl v p σ g i := fun g i q => by rw [← hs1]; exact (if_pos q).symm
  have hE4 : EX v p n E (sJ (sJ (sJ σ1 72 v 0 8 E.age.toInt64) 72 v 0 9 E.trade.toInt64) 72 v 0 10 (σ1.1 93 v p 0).toInt64) := (((hE.lf a2).lf LfX.j).lf LfX.j).lf LfX.j
  have h11 : VXp v 11 (sJ (sJ (sJ σ1 72 v 0 8 E.age.toInt64) 72 v 0 9 E.trade.toInt64) 72 v 0 10 (σ1.1 93 v p 0).toInt64) (vS E d (sl v p σ)) := VXp.j (k := 10) (VXp.j (k := 9) (VXp.j (k := 8) a4 rfl) rfl) (by rw [f _ _ (by decide)]; rfl)
  have e0 : fLife_setOut N v p (nI d) σ = (fun σ4 : St => if σ4.1 87 v p 0 = 0 then (if σ4.1 91 v p 0 = -1 then fLife_setOut_112 N v p (nI d) (nI (rw_ (sl v p σ))) 11 0 σ4 else fLife_setOut_112 N v p (nI d) (nI (rw_ (sl v p σ))) 11 ((nI d - σ4.1 91 v p 0).toInt64) σ4) else fLife_setOut_112 N v p (nI d) (nI (rw_ (sl v p σ))) 11 0 σ4) (sJ (sJ (sJ σ1 72 v 0 8 E.age.toInt64) 72 v 0 9 E.trade.toInt64) 72 v 0 10 (σ1.1 93 v p 0).toInt64) := by
    unfold fLife_setOut
    rw [show fLife_setOut_10 N v p N (nI d) 0 σ = fLife_setOut_10 N v p (N - 8) (nI d) 8 σ1 from a1, hM]
    show (bn1 (fLife_rowOfLatest N v p σ1) fun r1 => chk (inb (σ1.1 74 v p 0) 20) (nm (sJ σ1 72 v 0 8 (σ1.1 48 0 0 (σ1.1 74 v p 0).toNatClampNeg).toInt64) fun (σ2 : St) => chk (inb (σ2.1 74 v p 0) 20) (nm (sJ σ2 72 v 0 9 (σ2.1 47 0 0 (σ2.1 74 v p 0).toNatClampNeg).toInt64) fun (σ3 : St) => nm (sJ σ3 72 v 0 10 (σ3.1 93 v p 0).toInt64) fun (σ4 : St) => _))) = _
    rw [r1, bn1_e, e6, chk_t (inb_n hp (by decide)), nmx, nI_clamp (by omega), e7, sJ_1, e6, chk_t (inb_n hp (by decide)), nmx, nI_clamp (by omega), sJ_1, e8, nmx]
    rfl
  rw [e0]
  dsimp only
  have e11 : vS E d (sl v p σ) 11 = if sl v p σ 87 0 = 0 then (if sl v p σ 91 0 = -1 then 0 else (nI d - sl v p σ 91 0).toInt64) else 0 := rfl
  have fin : ∀ x, x = vS E d (sl v p σ) 11 → ∃ σ', fLife_setOut_112 N v p (nI d) (nI (rw_ (sl v p σ))) 11 x (sJ (sJ (sJ σ1 72 v 0 8 E.age.toInt64) 72 v 0 9 E.trade.toInt64) 72 v 0 10 (σ1.1 93 v p 0).toInt64) = some σ' ∧ LfX v p σ σ' ∧ σ'.1 = σ.1 ∧ VX v σ' (vS E d (sl v p σ)) := by
    intro x hx
    obtain ⟨σ', i1, i2, i3, i4⟩ := so112 (N := N) (x := x) hN hE4 h1 hd (show sl v p (sJ (sJ (sJ σ1 72 v 0 8 E.age.toInt64) 72 v 0 9 E.trade.toInt64) 72 v 0 10 (σ1.1 93 v p 0).toInt64) = sl v p σ from hs1) r2 h11 hx
    exact ⟨σ', i1, (((a2.tr LfX.j).tr LfX.j).tr LfX.j).tr i2, by rw [i3]; exact a3, i4⟩
  show ∃ σ', (if σ1.1 87 v p 0 = 0 then (if σ1.1 91 v p 0 = -1 then _ else fLife_setOut_112 N v p (nI d) (nI (rw_ (sl v p σ))) 11 ((nI d - σ1.1 91 v p 0).toInt64) _) else _) = some σ' ∧ _
  rw [f _ _ (by decide), f _ _ (by decide)]
  by_cases c1 : sl v p σ 87 0 = 0
  · rw [if_pos c1] at e11 ⊢
    by_cases c2 : sl v p σ 91 0 = -1
    · rw [if_pos c2] at e11 ⊢
      exact fin _ e11.symm
    · rw [if_neg c2] at e11 ⊢
      exact fin _ e11.symm
  · rw [if_neg c1] at e11 ⊢
    exact fin _ e11.symm
/-- an expression of a clause -/
theorem wk_e {N v t i : Nat} {TC : Nat → List Cl} {n : Nat} {fr to : Nat → Int32} {c : Cl} {vs : Nat → Int64} {σ : St} (hN : 700 ≤ N) (hT : TxX TC fr to n σ) (ht : t < n) (hc : (TC t)[i]? = some c) (hw : 2 ≤ c.wh) (hv : VX v σ vs) : ∃ σ', Sk 73 σ σ' ∧ fAct_work N t v v (nI c.pX) σ = some (cv vs c, σ') := by
  obtain ⟨-, ⟨L, l1, l2, l3⟩, -⟩ := hT t ht
  obtain ⟨g1, g2⟩ := l3 i c hc
  obtain ⟨k1, k2, k3⟩ := g1.2.2.2.2 hw
  obtain ⟨a1, a2⟩ := g2 hw
  refine workX (e := c.e) (u := c.u) (L := L) (l := c.cX) hN hv k1 (fun d hd => (k3 d hd).1) ?_ a1 a2 l1 l2 k2 (fun d hd => (k3 d hd).2)
  unfold Cl.cX
  cases c.u <;> rfl
theorem cmp_l (x y : Int64) : (lg_cmp x y < 0) = (x < y) := by
  have := cmp_g x y
  rw [← Int32.not_le, this]
  exact propext Classical.not_not
theorem cmp_p (x y : Int64) : (0 < lg_cmp x y) = (y < x) := by
  unfold lg_cmp
  by_cases c1 : x > y
  · rw [if_pos c1]
    exact propext ⟨fun _ => c1, fun _ => by decide⟩
  · rw [if_neg c1]
    by_cases c2 : x = y
    · rw [if_pos c2]
      exact propext ⟨fun h => absurd h (by decide), fun h => absurd h c1⟩
    · rw [if_neg c2]
      exact propext ⟨fun h => absurd h (by decide), fun h => absurd h c1⟩
theorem minJ {N : Nat} {x : Int64} {σ : St} : fMath_min_J N 9999 x σ = some (if x < 9999 then x else 9999) := by
  unfold fMath_min_J
  by_cases c : x < 9999
  · rw [if_pos (show 0 < lg_cmp 9999 x by rw [cmp_p]; exact c), if_pos c]
  · rw [if_neg (show ¬ 0 < lg_cmp 9999 x by rw [cmp_p]; exact c), if_neg c]
theorem maxJ {N : Nat} {x : Int64} {σ : St} : fMath_max_J N 0 x σ = some (if 0 < x then x else 0) := by
  unfold fMath_max_J
  by_cases c : 0 < x
  · rw [if_pos (show lg_cmp 0 x < 0 by rw [cmp_l]; exact c), if_pos c]
  · rw [if_neg (show ¬ lg_cmp 0 x < 0 by rw [cmp_l]; exact c), if_neg c]
theorem lim_e {N : Nat} {x : Int64} {σ : St} : fLaw_limited N x σ = some (lim x) := by
  unfold fLaw_limited lim
  rw [minJ, bn1_e, maxJ, bn1_e]
/-- the bar's days -/
theorem like_in {N v t n : Nat} {x2 x3 : Int32} {TC : Nat → List Cl} {fr to : Nat → Int32} {vs : Nat → Int64} {go : Int32 → Int32 → St → Option (Int32 × St)} (hN : 700 ≤ N) (ht : t < n) : ∀ (e i m : Nat) (σ : St), i + e = ((TC t).filter (isW 6)).length → e < m → TxX TC fr to n σ → VX v σ vs →
    (∃ σ' k, likeL vs (((TC t).filter (isW 6)).drop i) = some k ∧ fLaw_barDays_37 N v go m x2 x3 t (nI i) σ = some (lim (nI k).toInt64, σ') ∧ Sk 73 σ σ') ∨ (∃ σ', likeL vs (((TC t).filter (isW 6)).drop i) = none ∧ fLaw_barDays_37 N v go m x2 x3 t (nI i) σ = go x2 (x3 + 1) σ' ∧ Sk 73 σ σ') := by
  intro e
  induction e with
  | zero =>
    intro i m σ h1 h2 hT hv
    obtain ⟨m, rfl⟩ : ∃ q, m = q + 1 := ⟨m - 1, by omega⟩
    obtain ⟨⟨-, -, -, -, -, -, -, a8, -⟩, -, ln, -⟩ := hT t ht
    have hfl := fil_le (p := isW 6) (l := TC t)
    refine Or.inr ⟨σ, ?_, ?_, Sk.rfl'⟩
    · rw [List.drop_of_length_le (by omega)]
      rfl
    · show (if σ.1 12 t 0 0 ≤ nI i then _ else _) = _
      rw [a8, if_pos (nI_le (by omega) (by omega))]
  | succ e ih =>
    intro i m σ h1 h2 hT hv
    obtain ⟨m, rfl⟩ : ∃ q, m = q + 1 := ⟨m - 1, by omega⟩
    obtain ⟨⟨-, -, -, -, -, -, -, a8, a9⟩, -, ln, -⟩ := hT t ht
    have hfl := fil_le (p := isW 6) (l := TC t)
    have hi : i < ((TC t).filter (isW 6)).length := by omega
    obtain ⟨c, hc⟩ : ∃ c, ((TC t).filter (isW 6))[i]? = some c := ⟨_, List.getElem?_eq_getElem hi⟩
    have hm : c ∈ (TC t).filter (isW 6) := List.mem_of_getElem? hc
    obtain ⟨hm1, hm2⟩ := List.mem_filter.mp hm
    obtain ⟨j, hj⟩ := List.getElem?_of_mem hm1
    have hw : c.wh = 6 := by simpa [isW] using hm2
    obtain ⟨σ1, s1, s2⟩ := wk_e (N := N) hN hT ht hj (by omega) hv
    have hd : ((TC t).filter (isW 6)).drop i = c :: ((TC t).filter (isW 6)).drop (i + 1) := by
      rw [List.drop_eq_getElem_cons hi]
      congr 1
      exact Option.some.inj ((List.getElem?_eq_getElem hi).symm.trans hc)
    have e0 : fLaw_barDays_37 N v go (m + 1) x2 x3 t (nI i) σ = if cv vs c = 0 then fLaw_barDays_37 N v go m x2 x3 t (nI (i + 1)) σ1 else some (lim (nI c.two).toInt64, σ1) := by
      show (if σ.1 12 t 0 0 ≤ nI i then _ else chk (inb (nI i) 24) (bnd (fAct_work N t v v (σ.1 10 t 0 (nI i).toNatClampNeg) σ) fun r1 σ2 => if lg_cmp r1 0 = 0 then fLaw_barDays_37 N v go m x2 x3 t (nI i + 1) σ2 else bn1 (fLaw_limited N ((σ2.1 11 t 0 (nI i).toNatClampNeg).toInt64) σ2) fun r3 => some (r3, σ2))) = _
      rw [a8, if_neg (nI_ge (by omega) (by omega)), chk_t (inb_n (by omega) (by decide)), nI_clamp (by omega), (a9 i c hc).1, s2, bnd_e, nI_1, lim_e, bn1_e, s1.1, (a9 i c hc).2]
      by_cases z : cv vs c = 0
      · rw [if_pos (czp z), if_pos z]
      · rw [if_neg (czn z), if_neg z]
    rw [e0, hd]
    show (∃ σ' k, (if cv vs c = 0 then likeL vs (((TC t).filter (isW 6)).drop (i + 1)) else some c.two) = some k ∧ _) ∨ (∃ σ', (if cv vs c = 0 then likeL vs (((TC t).filter (isW 6)).drop (i + 1)) else some c.two) = none ∧ _)
    by_cases z : cv vs c = 0
    · rw [if_pos z, if_pos z]
      rcases ih (i + 1) m σ1 (by omega) (by omega) (hT.mv (fun f a b i _ _ => by rw [s1.1])) (fun k hk => (s1.2 _ _ _ _ (by decide)).trans (hv k hk)) with ⟨σ', k, q1, q2, q3⟩ | ⟨σ', q1, q2, q3⟩
      · exact Or.inl ⟨σ', k, q1, q2, s1.tr q3⟩
      · exact Or.inr ⟨σ', q1, q2, s1.tr q3⟩
    · rw [if_neg z, if_neg z]
      exact Or.inl ⟨σ1, c.two, rfl, rfl, s1⟩
theorem likeL_app (vs : Nat → Int64) : ∀ a b, likeL vs (a ++ b) = match likeL vs a with | some k => some k | none => likeL vs b
  | [], b => rfl
  | c :: a, b => by
    rw [List.cons_append]
    show (if cv vs c = 0 then likeL vs (a ++ b) else some c.two) = match (if cv vs c = 0 then likeL vs a else some c.two) with | some k => some k | none => likeL vs b
    by_cases z : cv vs c = 0
    · rw [if_pos z, if_pos z, likeL_app vs a b]
    · rw [if_neg z, if_neg z]
theorem like_out {N v s n : Nat} {TC : Nat → List Cl} {fr to : Nat → Int32} {vs : Nat → Int64} (hN : 700 ≤ N) (hs : s < 35) {R : List Nat} (hR : R.length ≤ 17) : ∀ (l : List Nat) (i m : Nat) (σ : St), i + l.length = R.length → R.reverse.drop i = l → l.length < m → (∀ t ∈ l, t < n) → n ≤ 17 → TxX TC fr to n σ → VX v σ vs → (∀ j t, R.reverse[j]? = some t → σ.1 65 v s j = nI t) → σ.1 66 v 0 s = nI R.length →
    (∃ σ' k, likeL vs (l.flatMap fun t => (TC t).filter (isW 6)) = some k ∧ fLaw_barDays_9 N v m (nI s) (nI i) σ = some (lim (nI k).toInt64, σ') ∧ Sk 73 σ σ') ∨ (∃ σ' m', likeL vs (l.flatMap fun t => (TC t).filter (isW 6)) = none ∧ fLaw_barDays_9 N v m (nI s) (nI i) σ = fLaw_barDays_9 N v (m' + 1) (nI s) (nI R.length) σ' ∧ Sk 73 σ σ') := by
  intro l
  induction l with
  | nil =>
    intro i m σ h1 hdr h2 h3 hn hT hv h4 h5
    obtain ⟨m, rfl⟩ : ∃ q, m = q + 1 := ⟨m - 1, by omega⟩
    rw [List.length_nil, Nat.add_zero] at h1
    exact Or.inr ⟨σ, m, rfl, by rw [h1], Sk.rfl'⟩
  | cons t l ih =>
    intro i m σ h1 hdr h2 h3 hn hT hv h4 h5
    obtain ⟨m, rfl⟩ : ∃ q, m = q + 1 := ⟨m - 1, by omega⟩
    rw [List.length_cons] at h1 h2
    have ht := h3 t List.mem_cons_self
    have hi : R.reverse[i]? = some t := by
      have := List.getElem?_drop (xs := R.reverse) (i := i) (j := 0)
      rw [hdr, Nat.add_zero] at this
      exact this.symm
    have hd2 : R.reverse.drop (i + 1) = l := by
      have : R.reverse.drop (i + 1) = (R.reverse.drop i).drop 1 := by rw [List.drop_drop]
      rw [this, hdr]
      rfl
    have e0 : fLaw_barDays_9 N v (m + 1) (nI s) (nI i) σ = fLaw_barDays_37 N v (fLaw_barDays_9 N v m) N (nI s) (nI i) t (nI 0) σ := by
      show (chk (inb (nI s) 35) (if σ.1 66 v 0 (nI s).toNatClampNeg ≤ nI i then _ else chk (inb (nI i) 17) (chk (inb (σ.1 65 v (nI s).toNatClampNeg (nI i).toNatClampNeg) 17) (fLaw_barDays_37 N v (fLaw_barDays_9 N v m) N (nI s) (nI i) ((σ.1 65 v (nI s).toNatClampNeg (nI i).toNatClampNeg).toNatClampNeg) 0 σ)))) = _
      rw [chk_t (inb_n hs (by decide)), nI_clamp (by omega), h5, if_neg (nI_ge (by omega) (by omega)), chk_t (inb_n (by omega) (by decide)), nI_clamp (by omega), h4 i t hi, chk_t (inb_n (by omega) (by decide)), nI_clamp (by omega)]
      rfl
    have hfl := fil_le (p := isW 6) (l := TC t)
    have ln := (hT t ht).2.2.1
    rw [e0, List.flatMap_cons, likeL_app]
    rcases like_in (N := N) (v := v) (x2 := nI s) (x3 := nI i) (go := fLaw_barDays_9 N v m) (vs := vs) hN ht ((TC t).filter (isW 6)).length 0 N σ (by omega) (by omega) hT hv with ⟨σ1, k, q1, q2, q3⟩ | ⟨σ1, q1, q2, q3⟩
    · rw [List.drop_zero] at q1
      exact Or.inl ⟨σ1, k, by rw [q1], q2, q3⟩
    · rw [List.drop_zero] at q1
      rw [q1, q2, nI_1]
      rcases ih (i + 1) m σ1 (by omega) hd2 (by omega) (fun x hx => h3 x (List.mem_cons_of_mem _ hx)) hn (hT.mv (fun f a b i _ _ => by rw [q3.1])) (fun k hk => (q3.2 _ _ _ _ (by decide)).trans (hv k hk)) (fun j t hj => by rw [q3.1]; exact h4 j t hj) (by rw [q3.1]; exact h5) with ⟨σ', k, p1, p2, p3⟩ | ⟨σ', m', p1, p2, p3⟩
      · exact Or.inl ⟨σ', k, p1, p2, q3.tr p3⟩
      · exact Or.inr ⟨σ', m', p1, p2, q3.tr p3⟩
theorem Rep.get {g : Nat → Int32} : ∀ (r : List Nat), Rep g r → ∀ (j t : Nat), r.reverse[j]? = some t → g j = nI t
  | [], _, j, t, h => by simp at h
  | x :: r, ⟨h1, h2⟩, j, t, h => by
    rw [List.reverse_cons] at h
    by_cases c : j < r.reverse.length
    · rw [List.getElem?_append_left c] at h
      exact Rep.get r h2 j t h
    · rw [List.getElem?_append_right (by omega)] at h
      have : j = r.reverse.length := by
        apply Classical.byContradiction
        intro z
        have : 1 ≤ j - r.reverse.length := by omega
        rw [List.getElem?_eq_none (by rw [List.length_singleton]; exact this)] at h
        exact absurd h (by simp)
      rw [this, Nat.sub_self] at h
      cases h
      rw [this, List.length_reverse]
      exact h1
theorem foldl_lT {TC : Nat → List Cl} {w : Nat} : ∀ (r : List Nat) (x : Option (Nat × Cl)) (y : Nat × Cl), r.foldl (lT TC w) x = some y → (y.1 ∈ r ∧ lst (isW w) (TC y.1) = some y.2) ∨ x = some y
  | [], x, y, h => Or.inr h
  | t :: r, x, y, h => by
    rw [List.foldl_cons] at h
    rcases foldl_lT r _ y h with ⟨q1, q2⟩ | q
    · exact Or.inl ⟨List.mem_cons_of_mem _ q1, q2⟩
    · unfold lT at q
      cases hc : lst (isW w) (TC t) with
      | none =>
        rw [hc] at q
        exact Or.inr q
      | some c =>
        rw [hc] at q
        cases q
        exact Or.inl ⟨List.mem_cons_self, hc⟩
theorem last_in {TC : Nat → List Cl} {fr to : Nat → Int32} {n d w : Nat} {y : Nat × Cl} (h : (shOf TC fr to n d).last w = some y) : y.1 < n ∧ ∃ i : Nat, (TC y.1)[i]? = some y.2 ∧ y.2.wh = w := by
  rcases foldl_lT _ _ y h with ⟨q1, q2⟩ | q
  · obtain ⟨i, i1, i2⟩ := lst_mem q2
    exact ⟨forR_lt _ _ _ _ _ q1, i, i1, by simpa [isW] using i2⟩
  · exact absurd q (by simp)
theorem barDays_e {N v p n d : Nat} {E : Env} {σ : St} {vs : Nat → Int64} (hN : 700 ≤ N) (hE : EX v p n E σ) (hd : d < 936) (hv : VX v σ vs) : ∃ σ', fLaw_barDays N v (nI d) σ = some (barD E d vs, σ') ∧ Sk 73 σ σ' := by
  obtain ⟨h1, ⟨fr, to, hT, hS⟩, hn, -⟩ := hE
  obtain ⟨s, s1, s2, s3⟩ := h1 d hd
  have hl : (E.sh d).R.length ≤ n := by rw [hS d hd]; exact forR_len _ _ _ _
  have e0 : fLaw_barDays N v (nI d) σ = fLaw_barDays_9 N v N (nI s) (nI 0) σ := by
    unfold fLaw_barDays
    rw [chk_t (inb_n hd (by decide)), nI_clamp (by omega), s2, nmx]
    rfl
  have hmem : ∀ t ∈ (E.sh d).R.reverse, t < n := fun t ht => by
    rw [List.mem_reverse, hS d hd] at ht
    exact forR_lt _ _ _ _ _ ht
  rw [e0]
  unfold barD likes
  rcases like_out (N := N) (v := v) (s := s) (n := n) (vs := vs) (R := (E.sh d).R) hN s1 (by omega) (E.sh d).R.reverse 0 N σ (by rw [List.length_reverse]; omega) List.drop_zero (by rw [List.length_reverse]; omega) hmem hn hT hv (fun j t hj => Rep.get _ s3.1 j t hj) s3.2.1 with ⟨σ1, k, q1, q2, q3⟩ | ⟨σ1, m', q1, q2, q3⟩
  · refine ⟨σ1, ?_, q3⟩
    rw [q2, show likeL vs ((E.sh d).R.reverse.flatMap fun t => (E.TC t).filter (isW 6)) = some k from q1]
  · rw [q2, show likeL vs ((E.sh d).R.reverse.flatMap fun t => (E.TC t).filter (isW 6)) = none from q1]
    have e1 : fLaw_barDays_9 N v (m' + 1) (nI s) (nI (E.sh d).R.length) σ1 = if σ1.1 70 v 0 s = -1 then some (0, σ1) else chk (inb (σ1.1 70 v 0 s) 17) (bnd (fAct_work N (σ1.1 70 v 0 s).toNatClampNeg v v (σ1.1 7 (σ1.1 70 v 0 s).toNatClampNeg 0 0) σ1) fun r2 σ3 => bn1 (fLaw_limited N r2 σ3) fun r4 => some (r4, σ3)) := by
      show (chk (inb (nI s) 35) (if σ1.1 66 v 0 (nI s).toNatClampNeg ≤ nI (E.sh d).R.length then nm (σ1.1 70 v 0 (nI s).toNatClampNeg) fun y1 => if y1 = -1 then some (0, σ1) else chk (inb y1 17) (bnd (fAct_work N y1.toNatClampNeg v v (σ1.1 7 y1.toNatClampNeg 0 0) σ1) fun r2 σ3 => bn1 (fLaw_limited N r2 σ3) fun r4 => some (r4, σ3)) else _)) = _
      rw [chk_t (inb_n s1 (by decide)), nI_clamp (by omega), q3.1, s3.2.1, if_pos (Int32.le_refl _), nmx]
    rw [e1, q3.1, s3.2.2.2.2.2.2.1]
    cases hla : (E.sh d).last 4 with
    | none =>
      rw [if_pos (show tI none = -1 from rfl)]
      exact ⟨σ1, rfl, q3⟩
    | some y =>
      rw [hS d hd] at hla
      obtain ⟨y1, i, y2, y3⟩ := last_in hla
      have hT1 : TxX E.TC fr to n σ1 := hT.mv (fun f a b i _ _ => by rw [q3.1])
      obtain ⟨⟨-, -, -, -, a5, -⟩, -⟩ := hT y.1 y1
      have hb : σ.1 7 y.1 0 0 = nI y.2.pX := by
        rcases foldl_lT _ _ y hla with ⟨z1, z2⟩ | z
        · rw [a5, z2]
          rfl
        · exact absurd z (by simp)
      obtain ⟨σ2, w1, w2⟩ := wk_e (N := N) hN hT1 y1 y2 (by omega) (fun k hk => (q3.2 _ _ _ _ (by decide)).trans (hv k hk) : VX v σ1 vs)
      refine ⟨σ2, ?_, q3.tr w1⟩
      rw [if_neg (show ¬ tI (some y) = -1 from m1_ne (by omega)), show tI (some y) = nI y.1 from rfl, chk_t (inb_n (by omega) (by decide)), nI_clamp (by omega), hb, w2, bnd_e, lim_e, bn1_e]
