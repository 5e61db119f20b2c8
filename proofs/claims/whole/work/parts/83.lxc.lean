/-! the class' life: pay, events -/
theorem payAct_e {N v p n d : Nat} {E : Env} {σ : St} {k : Int32} (hE : EX v p n E σ) (hd : d < 936) : fLaw_payingAct N v k (nI d) σ = some (tI ((E.sh d).last (payW k))) := by
  obtain ⟨s, s1, s2, s3⟩ := hE.1 d hd
  unfold fLaw_payingAct payW
  rw [chk_t (inb_n hd (by decide)), nI_clamp (by omega), s2, nmx]
  by_cases c : k = 5
  · rw [if_pos c, if_pos c, chk_t (inb_n s1 (by decide)), nI_clamp (by omega), s3.2.2.2.2.2.1]
  · rw [if_neg c, if_neg c, chk_t (inb_n s1 (by decide)), nI_clamp (by omega), s3.2.2.2.2.1]
theorem pay_e {N v p n d : Nat} {E : Env} {σ : St} {vs : Nat → Int64} {k : Int32} (hN : 700 ≤ N) (hE : EX v p n E σ) (hd : d < 936) (hv : VX v σ vs) : ∃ σ', fLaw_payFor N v k (nI d) σ = some (payD E d vs k, σ') ∧ Sk 73 σ σ' := by
  have hp := payAct_e (N := N) (k := k) hE hd
  have hpar := param_e (N := N) (k := 2) hE (by decide) hd
  obtain ⟨h1, ⟨fr, to, hT, hS⟩, hn, -⟩ := hE
  unfold fLaw_payFor payD
  rw [hp, bn1_e]
  cases hla : (E.sh d).last (payW k) with
  | none =>
    by_cases c : k = 5
    · rw [if_pos c, if_pos (show tI none = -1 from rfl), if_pos c]
      exact ⟨σ, rfl, Sk.rfl'⟩
    · rw [if_neg c, if_pos (show tI none = -1 from rfl), if_neg c, show fLaw_param N v 2 (nI d) σ = some ((E.sh d).par 2) from hpar, bn1_e]
      unfold fLaw_payFor_92
      rw [lim_e, bn1_e]
      exact ⟨σ, rfl, Sk.rfl'⟩
  | some y =>
    rw [hS d hd] at hla
    obtain ⟨y1, i, y2, y3⟩ := last_in hla
    obtain ⟨⟨-, -, a3, a4, -⟩, -⟩ := hT y.1 y1
    have hz : lst (isW (payW k)) (E.TC y.1) = some y.2 := by
      rcases foldl_lT _ _ y hla with ⟨z1, z2⟩ | z
      · exact z2
      · exact absurd z (by simp)
    have hpw : 2 ≤ payW k := by unfold payW; split <;> decide
    obtain ⟨σ2, w1, w2⟩ := wk_e (N := N) hN hT y1 y2 (by omega) hv
    refine ⟨σ2, ?_, w1⟩
    dsimp only
    by_cases c : k = 5
    · have e3 : payW k = 3 := by unfold payW; rw [if_pos c]
      rw [e3] at hz
      rw [if_pos c, if_neg (show ¬ tI (some y) = -1 from m1_ne (by omega)), show tI (some y) = nI y.1 from rfl, chk_t (inb_n (by omega) (by decide)), nI_clamp (by omega), a4, hz, show posI (some y.2) = nI y.2.pX from rfl, w2, bnd_e, lim_e, bn1_e]
    · have e3 : payW k = 2 := by unfold payW; rw [if_neg c]
      rw [e3] at hz
      unfold fLaw_payFor_92
      rw [if_neg c, if_neg (show ¬ tI (some y) = -1 from m1_ne (by omega)), show tI (some y) = nI y.1 from rfl, chk_t (inb_n (by omega) (by decide)), nI_clamp (by omega), a3, hz, show posI (some y.2) = nI y.2.pX from rfl, w2, bnd_e, lim_e, bn1_e]
/-- what the market says of an event's offer -/
def OfX (N p : Nat) (e : Ev) (σ : St) : Prop := ∃ o m w, o < m ∧ m ≤ 60 ∧ w < 24 ∧ e.n = nI o ∧ σ.1 107 0 0 0 = nI m ∧ e.ok = (if σ.1 103 0 0 o = nI p then (if σ.1 105 0 0 o = -1 then 1 else 0) else 0) ∧ σ.1 104 0 0 o = nI w ∧ (∀ σ' : St, (∀ f a b i, f < 78 → σ'.1 f a b i = σ.1 f a b i) → fLand_miles N (σ.1 49 0 0 p) (σ.1 96 0 0 w) σ' = some e.o.1) ∧ σ.1 98 0 0 w = e.o.2.1 ∧ e.o.2.2 = if σ.1 97 0 0 w = σ.1 47 0 0 p then 1 else 0
theorem OfX.mv {N p : Nat} {e : Ev} {σ σ' : St} (h : OfX N p e σ) (hm : ∀ f a b i, f < 78 ∨ 95 ≤ f ∧ f ≤ 109 → σ'.1 f a b i = σ.1 f a b i) : OfX N p e σ' := by
  obtain ⟨o, m, w, h1, h2, h3, h4, h5, h6, h7, h8, h9, h10⟩ := h
  refine ⟨o, m, w, h1, h2, h3, h4, ?_, ?_, ?_, fun σ2 q => ?_, ?_, ?_⟩
  · rw [hm _ _ _ _ (by decide), h5]
  · rw [hm _ _ _ _ (by decide), hm _ _ _ _ (by decide), h6]
  · rw [hm _ _ _ _ (by decide), h7]
  · rw [hm _ _ _ _ (by decide), hm _ _ _ _ (by decide)]
    exact h8 σ2 (fun f a b i z => (q f a b i z).trans (hm f a b i (Or.inl z)))
  · rw [hm _ _ _ _ (by decide), h9]
  · rw [hm _ _ _ _ (by decide), hm _ _ _ _ (by decide), h10]
theorem setVac_e {N v p w : Nat} {a : Int32} {o : Ofr} {σ : St} {vs : Nat → Int64} (hp : p < 20) (hw : w < 24) (hmi : fLand_miles N (σ.1 49 0 0 p) (σ.1 96 0 0 w) σ = some o.1) (h2 : σ.1 98 0 0 w = o.2.1) (h3 : o.2.2 = if σ.1 97 0 0 w = σ.1 47 0 0 p then 1 else 0) (hv : VX v σ vs) : ∃ σ', fMarket_setOutVacancy N v (nI p) (nI w) σ = some σ' ∧ LfX v p σ σ' ∧ σ'.1 = σ.1 ∧ VX v σ' (vR vs o) := by
  have key : ∀ x : Int64, x = o.2.2.toInt64 → VX v (sJ (sJ (sJ σ 72 v 0 17 o.1.toInt64) 72 v 0 18 o.2.1.toInt64) 72 v 0 19 x) (vR vs o) := fun x hx k hk => by
    unfold vR
    by_cases c9 : k = 19
    · rw [c9, sJ_s, if_neg (by decide), if_neg (by decide), if_pos rfl, hx]
    · rw [sJ_i c9]
      by_cases c8 : k = 18
      · rw [c8, sJ_s, if_neg (by decide), if_pos rfl]
      · rw [sJ_i c8]
        by_cases c7 : k = 17
        · rw [c7, sJ_s, if_pos rfl]
        · rw [sJ_i c7, if_neg c7, if_neg c8, if_neg c9, hv k hk]
  unfold fMarket_setOutVacancy fMarket_setOutVacancy_64
  rw [chk_t (inb_n hp (by decide)), chk_t (inb_n hw (by decide)), nI_clamp (by omega), nI_clamp (by omega), hmi, bn1_e, nmx, nmx]
  simp only [sJ_1, h2]
  show ∃ σ', (if σ.1 97 0 0 w = σ.1 47 0 0 p then _ else _) = some σ' ∧ _
  by_cases c : σ.1 97 0 0 w = σ.1 47 0 0 p
  · rw [if_pos c] at h3 ⊢
    rw [chk_t (by decide), nmx]
    exact ⟨_, rfl, (LfX.j.tr LfX.j).tr LfX.j, rfl, key 1 (by rw [h3]; rfl)⟩
  · rw [if_neg c] at h3 ⊢
    rw [chk_t (by decide), nmx]
    exact ⟨_, rfl, (LfX.j.tr LfX.j).tr LfX.j, rfl, key 0 (by rw [h3]; rfl)⟩
theorem uL_same {s : Lfe} {f i : Nat} {x : Int32} (h : s f i = x) : uL s f i x = s := by
  funext f' i'
  unfold uL
  by_cases c : f' = f ∧ i' = i
  · rw [if_pos c, c.1, c.2, h]
  · rw [if_neg c]
theorem sM_0 {E : Env} {d : Nat} {e : Ev} {s : Lfe} (h : e.k = 0) : sMeet E d e s = (if s 87 0 = 0 then (0, s) else (1, if e.cl = 0 then sBar E d (vS E d (uL (uL (uL (uL s 87 0 0) 89 0 0) 91 0 (nI d)) 92 0 e.n)) (uL (uL (uL (uL s 87 0 0) 89 0 0) 91 0 (nI d)) 92 0 e.n) else uL (uL (uL (uL s 87 0 0) 89 0 0) 91 0 (nI d)) 92 0 e.n)) := by
  unfold sMeet
  rw [if_pos h]
theorem sM_1 {E : Env} {d : Nat} {e : Ev} {s : Lfe} (h : e.k = 1) : sMeet E d e s = (if s 87 0 = 0 then (if s 88 0 = 0 then (1, sClose d (uL (uL s 87 0 1) 93 0 e.n)) else (0, s)) else (0, s)) := by
  unfold sMeet
  rw [if_neg (show ¬ e.k = 0 by rw [h]; decide), if_pos h]
theorem sM_2 {E : Env} {d : Nat} {e : Ev} {s : Lfe} (h : e.k = 2) : sMeet E d e s = (if (s 87 0 = 0 ∨ s 89 0 ≠ 0) ∧ s 88 0 = 0 ∧ s 85 0 = 0 ∧ insD E d = true then (1, sSign E d s) else (0, s)) := by
  unfold sMeet
  rw [if_neg (show ¬ e.k = 0 by rw [h]; decide), if_neg (show ¬ e.k = 1 by rw [h]; decide), if_pos h]
theorem sM_3 {E : Env} {d : Nat} {e : Ev} {s : Lfe} (h : e.k = 3) : sMeet E d e s = (if s 88 0 = 0 then (1, uL (sClose d s) 88 0 1) else (0, s)) := by
  unfold sMeet
  rw [if_neg (show ¬ e.k = 0 by rw [h]; decide), if_neg (show ¬ e.k = 1 by rw [h]; decide), if_neg (show ¬ e.k = 2 by rw [h]; decide), if_pos h]
theorem sM_4 {E : Env} {d : Nat} {e : Ev} {s : Lfe} (h : e.k = 4) : sMeet E d e s = (if s 88 0 = 0 then (0, s) else (1, uL s 88 0 0)) := by
  unfold sMeet
  rw [if_neg (show ¬ e.k = 0 by rw [h]; decide), if_neg (show ¬ e.k = 1 by rw [h]; decide), if_neg (show ¬ e.k = 2 by rw [h]; decide), if_neg (show ¬ e.k = 3 by rw [h]; decide), if_pos h]
theorem sM_5 {E : Env} {d : Nat} {e : Ev} {s : Lfe} (h : e.k = 5) : sMeet E d e s = (1, uL s 94 0 e.n) := by
  unfold sMeet
  rw [if_neg (show ¬ e.k = 0 by rw [h]; decide), if_neg (show ¬ e.k = 1 by rw [h]; decide), if_neg (show ¬ e.k = 2 by rw [h]; decide), if_neg (show ¬ e.k = 3 by rw [h]; decide), if_neg (show ¬ e.k = 4 by rw [h]; decide), if_pos h]
theorem sM_6 {E : Env} {d : Nat} {e : Ev} {s : Lfe} (h : e.k = 6) : sMeet E d e s = (if s 87 0 = 0 then (0, s) else if e.n = 6 then (if s 89 0 = 0 then (0, s) else (1, sClose d (uL s 89 0 0))) else (1, uL s 89 0 e.n)) := by
  unfold sMeet
  rw [if_neg (show ¬ e.k = 0 by rw [h]; decide), if_neg (show ¬ e.k = 1 by rw [h]; decide), if_neg (show ¬ e.k = 2 by rw [h]; decide), if_neg (show ¬ e.k = 3 by rw [h]; decide), if_neg (show ¬ e.k = 4 by rw [h]; decide), if_neg (show ¬ e.k = 5 by rw [h]; decide), if_pos h]
theorem sM_7 {E : Env} {d : Nat} {e : Ev} {s : Lfe} (h : e.k = 7) : sMeet E d e s = (if s 85 0 = 0 then (0, s) else if e.ok = 0 then (0, s) else (1, if e.cl = 0 then sBar E d (vR (v4 (vS E d s)) e.o) s else s)) := by
  unfold sMeet
  rw [if_neg (show ¬ e.k = 0 by rw [h]; decide), if_neg (show ¬ e.k = 1 by rw [h]; decide), if_neg (show ¬ e.k = 2 by rw [h]; decide), if_neg (show ¬ e.k = 3 by rw [h]; decide), if_neg (show ¬ e.k = 4 by rw [h]; decide), if_neg (show ¬ e.k = 5 by rw [h]; decide), if_neg (show ¬ e.k = 6 by rw [h]; decide), if_pos h]
/-- a bar told -/
theorem sBar_e {N v p n d : Nat} {E : Env} {σ : St} {vs : Nat → Int64} (hN : 700 ≤ N) (hE : EX v p n E σ) (hd : d < 936) (hv : VX v σ vs) : ∃ σ', (bnd (fLaw_barDays N v (nI d) σ) fun r6 σ7 => bn1 (fMath_max_I N (σ.1 90 v p 0) ((nI d + r6) - 1) σ7) fun r8 => nm (sI σ7 90 v p 0 r8) fun (σ9 : St) => some ((1 : Int32), σ9)) = some (1, σ') ∧ LfX v p σ σ' ∧ sl v p σ' = sBar E d vs (sl v p σ) := by
  obtain ⟨σ1, a1, a2⟩ := barDays_e (N := N) hN hE hd hv
  rw [a1, bnd_e, mxI_e, bn1_e, nmx]
  refine ⟨_, rfl, a2.lf.tr (LfX.s (by decide)), ?_⟩
  rw [sl_I (by decide)]
  unfold sBar
  have : sl v p σ1 = sl v p σ := by unfold sl; rw [a2.1]
  rw [this]
  rfl
theorem leaves_e {N v p n d : Nat} {E : Env} {e : Ev} {σ : St} (hN : 700 ≤ N) (hE : EX v p n E σ) (hW : WL (sl v p σ)) (h1 : 312 ≤ d) (hd : d < 936) (hk : e.k = 0) : ∃ σ', fLife_leaves N v p e.n (nI d) e.cl σ = some ((sMeet E d e (sl v p σ)).1, σ') ∧ LfX v p σ σ' ∧ sl v p σ' = (sMeet E d e (sl v p σ)).2 := by
  unfold fLife_leaves
  rw [sM_0 hk]
  by_cases c : σ.1 87 v p 0 = 0
  · rw [if_pos c, if_pos (show sl v p σ 87 0 = 0 from c)]
    exact ⟨σ, rfl, LfX.rf, rfl⟩
  · rw [if_neg c, if_neg (show ¬ sl v p σ 87 0 = 0 from c), nmx, nmx, nmx, nmx]
    obtain ⟨σ4, h4⟩ : ∃ σ4, σ4 = sI (sI (sI (sI σ 87 v p 0 0) 89 v p 0 0) 91 v p 0 (nI d)) 92 v p 0 e.n := ⟨_, rfl⟩
    have f4 : LfX v p σ σ4 := by rw [h4]; exact (((LfX.s (by decide)).tr (LfX.s (by decide))).tr (LfX.s (by decide))).tr (LfX.s (by decide))
    have s4 : sl v p σ4 = uL (uL (uL (uL (sl v p σ) 87 0 0) 89 0 0) 91 0 (nI d)) 92 0 e.n := by rw [h4, sl_I (by decide), sl_I (by decide), sl_I (by decide), sl_I (by decide)]
    rw [← h4, ← s4]
    dsimp only
    by_cases cc : e.cl = 0
    · rw [if_pos cc, if_pos cc]
      have hW4 : WL (sl v p σ4) := by
        rw [s4]
        obtain ⟨⟨c, c1, c2, c3⟩, w2, w3, w4⟩ := hW
        exact ⟨⟨c, c1, c2, c3⟩, w2, Or.inl (by rw [uL_o (by decide), uL_o (by decide), uL_o (by decide), uL_s]), w4⟩
      obtain ⟨σ5, a1, a2, a3, a4⟩ := setOut_e (N := N) (by omega) (hE.lf f4) hW4 h1 hd
      obtain ⟨σ6, b1, b2, b3⟩ := sBar_e (N := N) hN ((hE.lf f4).lf a2) hd a4
      rw [a1, bn1_e, b1]
      refine ⟨σ6, rfl, (f4.tr a2).tr b2, ?_⟩
      rw [b3]
      have : sl v p σ5 = sl v p σ4 := by unfold sl; rw [a3]
      rw [this]
    · rw [if_neg cc, if_neg cc]
      exact ⟨σ4, rfl, f4, rfl⟩
theorem refuses_e {N v p n d : Nat} {E : Env} {e : Ev} {σ : St} (hN : 700 ≤ N) (hE : EX v p n E σ) (hW : WL (sl v p σ)) (h1 : 312 ≤ d) (hd : d < 936) (hk : e.k = 7) (ho : OfX N p e σ) : ∃ σ', fLife_refuses N v p e.n (nI d) e.cl σ = some ((sMeet E d e (sl v p σ)).1, σ') ∧ LfX v p σ σ' ∧ sl v p σ' = (sMeet E d e (sl v p σ)).2 := by
  obtain ⟨-, -, -, hp, e6, -⟩ := id hE
  obtain ⟨o, m, w, o1, o2, o3, o4, o5, o6, o7, o8, o9, o10⟩ := ho
  unfold fLife_refuses
  rw [sM_7 hk]
  by_cases c : σ.1 85 v p 0 = 0
  · rw [if_pos c, if_pos (show sl v p σ 85 0 = 0 from c)]
    exact ⟨σ, rfl, LfX.rf, rfl⟩
  · rw [if_neg c, if_neg (show ¬ sl v p σ 85 0 = 0 from c)]
    have ws : fMarket_wasSuitable N e.n (σ.1 74 v p 0) σ = some e.ok := by
      unfold fMarket_wasSuitable
      rw [o4, e6, if_neg (nI_pos (by omega)), o5, if_neg (nI_ge o1 (by omega)), chk_t (inb_n (by omega) (by decide)), nI_clamp (by omega), o6]
      by_cases z : σ.1 103 0 0 o = nI p
      · rw [if_pos z, if_pos z]
        by_cases z2 : σ.1 105 0 0 o = -1
        · rw [if_pos z2, if_pos z2]
        · rw [if_neg z2, if_neg z2]
      · rw [if_neg z, if_neg z]
    rw [ws, bn1_e]
    by_cases z : e.ok = 0
    · rw [if_pos z, if_pos z]
      exact ⟨σ, rfl, LfX.rf, rfl⟩
    · rw [if_neg z, if_neg z]
      by_cases cc : e.cl = 0
      · rw [if_pos cc, if_pos cc]
        obtain ⟨σ2, a1, a2, a3, a4⟩ := setOut_e (N := N) (by omega) hE hW h1 hd
        have v4 : VX v (sJ σ2 72 v 0 16 4) (v4 (vS E d (sl v p σ))) := fun k hk => by
          unfold v4
          by_cases z : k = 16
          · rw [z, sJ_s, if_pos rfl]
          · rw [sJ_i z, if_neg z, a4 k hk]
        have s2 : ∀ f a b i, σ2.1 f a b i = σ.1 f a b i := fun f a b i => by rw [a3]
        obtain ⟨σ4, b1, b2, b3, b4⟩ := setVac_e (N := N) (p := p) (w := w) (a := 0) (o := e.o) (σ := sJ σ2 72 v 0 16 4) hp o3 (by rw [sJ_1, sJ_1, s2, s2]; exact o8 _ (fun f a b i _ => s2 f a b i)) (by rw [sJ_1, s2]; exact o9) (by rw [sJ_1, sJ_1, s2, s2]; exact o10) v4
        obtain ⟨σ5, c1, c2, c3⟩ := sBar_e (N := N) hN (((hE.lf a2).lf LfX.j).lf b2) hd b4
        rw [a1, bn1_e, nmx, o4, chk_t (inb_n (by omega) (by decide)), nI_clamp (by omega), sJ_1, sJ_1, s2, s2, e6, o7, b1, bn1_e, c1]
        refine ⟨σ5, rfl, ((a2.tr LfX.j).tr b2).tr c2, ?_⟩
        rw [c3]
        have : sl v p σ4 = sl v p σ := by unfold sl; rw [b3]; simp only [sJ_1, s2]
        rw [this]
      · rw [if_neg cc, if_neg cc]
        exact ⟨σ, rfl, LfX.rf, rfl⟩
/-! signing -/
theorem zero_loop {N v p c : Nat} {x2 x3 x4 : Int32} (hc : 11 * c + 11 ≤ 605) : ∀ (e i m : Nat) (σ : St), i + e = 11 → e < m → ∃ σ', fLife_startClaim_24 N v p m (nI (11 * c)) x2 x3 x4 (nI i) σ = fLife_startClaim_24 N v p (m - e) (nI (11 * c)) x2 x3 x4 11 σ' ∧ LfX v p σ σ' ∧ σ'.2 = σ.2 ∧ sl v p σ' = fun f j => if f = 79 ∧ 11 * c + i ≤ j ∧ j < 11 * c + 11 then 0 else sl v p σ f j := by
  intro e
  induction e with
  | zero =>
    intro i m σ h1 h2
    obtain rfl : i = 11 := by omega
    refine ⟨σ, rfl, LfX.rf, rfl, ?_⟩
    funext f j
    rw [if_neg (by omega)]
  | succ e ih =>
    intro i m σ h1 h2
    obtain ⟨m, rfl⟩ : ∃ q, m = q + 1 := ⟨m - 1, by omega⟩
    obtain ⟨σ', i1, i2, i3, i4⟩ := ih (i + 1) m (sI σ 79 v p (11 * c + i) 0) (by omega) (by omega)
    refine ⟨σ', ?_, (LfX.s (by decide)).tr i2, i3, ?_⟩
    · rw [show m + 1 - (e + 1) = m - e by omega, ← i1]
      show (if (11 : Int32) ≤ nI i then _ else chk (inb (nI (11 * c) + nI i) 605) (nm (sI σ 79 v p (nI (11 * c) + nI i).toNatClampNeg 0) fun (σ8 : St) => fLife_startClaim_24 N v p m (nI (11 * c)) x2 x3 x4 (nI i + 1) σ8)) = _
      rw [if_neg (show ¬ (11 : Int32) ≤ nI i from nI_ge (a := i) (b := 11) (by omega) (by omega)), nI_add, chk_t (inb_n (by omega) (by decide)), nmx, nI_clamp (by omega), nI_1]
    · rw [i4, sl_I (by decide)]
      funext f j
      unfold uL
      by_cases z : f = 79 ∧ 11 * c + (i + 1) ≤ j ∧ j < 11 * c + 11
      · rw [if_pos z, if_pos (by omega)]
      · rw [if_neg z]
        by_cases z2 : f = 79 ∧ j = 11 * c + i
        · rw [if_pos z2, if_pos (by omega)]
        · rw [if_neg z2, if_neg (by omega)]
theorem mx1_e {N : Nat} {a : Int32} {σ : St} : fMath_max_I N 1 a σ = some (mx1 a) := by
  unfold fMath_max_I mx1
  by_cases c : (1 : Int32) < a
  · rw [if_pos c, if_pos c]
  · rw [if_neg c, if_neg c]
theorem mx1_ne {a : Int32} : ¬ mx1 a = 0 := by
  unfold mx1
  by_cases c : (1 : Int32) < a
  · rw [if_pos c]
    intro q
    rw [q] at c
    exact absurd c (by decide)
  · rw [if_neg c]
    decide
theorem mn32_e {N : Nat} {a b : Int32} {σ : St} : fMath_min_I N a b σ = some (mn32 a b) := by
  unfold fMath_min_I mn32
  by_cases c : b < a
  · rw [if_pos c, if_pos c]
  · rw [if_neg c, if_neg c]
theorem new_e {N v p n d c : Nat} {E : Env} {σ : St} (hN : 700 ≤ N) (hE : EX v p n E σ) (hc : sl v p σ 84 0 = nI c) (hc2 : c < 55) (h1 : 312 ≤ d) (hd : d < 936) : ∃ σ', fLife_signs_97 N v p (nI d) σ = some (1, σ') ∧ LfX v p σ σ' ∧ sl v p σ' = sNew E d (sl v p σ) := by
  have hc' : σ.1 84 v p 0 = nI c := hc
  obtain ⟨σ1, hσ1⟩ : ∃ σ1, σ1 = sI σ 84 v p 0 (nI (c + 1)) := ⟨_, rfl⟩
  have f1 : LfX v p σ σ1 := by rw [hσ1]; exact LfX.s (by decide)
  have hE1 := hE.lf f1
  have row : ∀ τ : St, τ.1 84 v p 0 = nI (c + 1) → fLife_rowOfLatest N v p τ = some (nI (11 * c)) := fun τ q => by
    unfold fLife_rowOfLatest
    rw [q, nI_sub1, mx_n, bn1_e]
    have : mx0 (nI c) = nI c := by
      unfold mx0
      rcases Nat.eq_zero_or_pos c with z | z
      · rw [z]; rfl
      · rw [if_pos (show (0 : Int32) < nI c from nI_lt (a := 0) z (by omega))]
    rw [this, show nI c * 11 = nI (c * 11) from (Int32.ofNat_mul c 11).symm, Nat.mul_comm]
  obtain ⟨σ2, z1, z2, z3, z4⟩ := zero_loop (N := N) (v := v) (p := p) (c := c) (x2 := nI d) (x3 := stA E d) (x4 := mx1 ((E.sh d).par 4)) (by omega) 11 0 N σ1 (by omega) (by omega)
  obtain ⟨M, hM⟩ : ∃ q, N - 11 = q + 1 := ⟨N - 12, by omega⟩
  have hE2 := hE1.lf z2
  obtain ⟨σ3, h3⟩ : ∃ σ3, σ3 = sI (sI (sI (sI σ2 79 v p (11 * c) (nI d)) 79 v p (11 * c + 1) (mn32 (stA E d / mx1 ((E.sh d).par 4)) ((E.sh d).par 3))) 79 v p (11 * c + 9) (stA E d)) 79 v p (11 * c + 10) (unA E d) := ⟨_, rfl⟩
  have f3 : LfX v p σ2 σ3 := by rw [h3]; exact (((LfX.s (by decide)).tr (LfX.s (by decide))).tr (LfX.s (by decide))).tr (LfX.s (by decide))
  have es : fLife_startClaim N v p (nI (11 * c)) (nI d) σ1 = some σ3 := by
    unfold fLife_startClaim
    rw [(stA_e (by omega) hE1 h1 hd).1, bn1_e, show fLaw_param N v 4 (nI d) σ1 = some ((E.sh d).par 4) from param_e (k := 4) hE1 (by decide) hd, bn1_e, mx1_e, bn1_e, show fLife_startClaim_24 N v p N (nI (11 * c)) (nI d) (stA E d) (mx1 ((E.sh d).par 4)) 0 σ1 = _ from z1, hM]
    show (chk (inb (nI (11 * c) + 0) 605) (nm (sI σ2 79 v p (nI (11 * c) + 0).toNatClampNeg (nI d)) fun (σ1 : St) => chk (¬ mx1 ((E.sh d).par 4) = 0) (bn1 (fLaw_param N v 3 (nI d) σ1) fun r2 => bn1 (fMath_min_I N (stA E d / mx1 ((E.sh d).par 4)) r2 σ1) fun r3 => chk (inb (nI (11 * c) + 1) 605) (nm (sI σ1 79 v p (nI (11 * c) + 1).toNatClampNeg r3) fun (σ4 : St) => chk (inb (nI (11 * c) + 9) 605) (nm (sI σ4 79 v p (nI (11 * c) + 9).toNatClampNeg (stA E d)) fun (σ5 : St) => bn1 (fLife_unknownAhead N v p (nI d) σ5) fun r6 => chk (inb (nI (11 * c) + 10) 605) (nm (sI σ5 79 v p (nI (11 * c) + 10).toNatClampNeg r6) fun (σ7 : St) => some σ7)))))) = _
    rw [show nI (11 * c) + 0 = nI (11 * c) from Int32.add_zero _, show nI (11 * c) + 9 = nI (11 * c + 9) from nI_add _ 9, show nI (11 * c) + 10 = nI (11 * c + 10) from nI_add _ 10, nI_1, chk_t (inb_n (by omega) (by decide)), nmx, nI_clamp (by omega), chk_t mx1_ne, show fLaw_param N v 3 (nI d) (sI σ2 79 v p (11 * c) (nI d)) = some ((E.sh d).par 3) from param_e (k := 3) (hE2.lf (LfX.s (by decide))) (by decide) hd, bn1_e, mn32_e, bn1_e, chk_t (inb_n (by omega) (by decide)), nmx, show (nI (11 * c + 1)).toNatClampNeg = 11 * c + 1 from nI_clamp (by omega), chk_t (inb_n (by omega) (by decide)), nmx, show (nI (11 * c + 9)).toNatClampNeg = 11 * c + 9 from nI_clamp (by omega), (stA_e (by omega) (((hE2.lf (LfX.s (by decide))).lf (LfX.s (by decide))).lf (LfX.s (by decide))) h1 hd).2, bn1_e, chk_t (inb_n (by omega) (by decide)), nmx, nI_clamp (by omega), h3]
  have cc3 : (sI σ3 85 v p 0 1).1 84 v p 0 = nI (c + 1) := by
    rw [sI_o (by decide), h3, sI_o (by decide), sI_o (by decide), sI_o (by decide), sI_o (by decide)]
    have : sl v p σ2 84 0 = sl v p σ1 84 0 := by rw [z4]; exact if_neg (fun q => absurd q.1 (by decide))
    rw [show σ2.1 84 v p 0 = sl v p σ2 84 0 from rfl, this, hσ1, sl_I (by decide), uL_s]
  refine ⟨sI (sI σ3 85 v p 0 1) 79 v p (11 * c + 8) 1, ?_, (((f1.tr z2).tr f3).tr (LfX.s (by decide))).tr (LfX.s (by decide)), ?_⟩
  · unfold fLife_signs_97 fLife_signs_125
    rw [hc', if_neg (show ¬ (55 : Int32) ≤ nI c from nI_ge (a := c) (b := 55) hc2 (by omega)), nmx, nI_1, ← hσ1, row σ1 (by rw [hσ1, sI_s]), bn1_e, es, bn1_e, nmx, row _ cc3, bn1_e, show nI (11 * c) + 8 = nI (11 * c + 8) from nI_add _ 8, chk_t (inb_n (by omega) (by decide)), nmx, nI_clamp (by omega)]
  · rw [sl_I (by decide), sl_I (by decide), h3, sl_I (by decide), sl_I (by decide), sl_I (by decide), sl_I (by decide), z4, hσ1, sl_I (by decide)]
    funext f i
    unfold sNew
    rw [hc, nI_clamp (by omega)]
    unfold uL
    dsimp only
    by_cases b1 : f = 79
    · subst b1
      simp only [Nat.reduceEqDiff, false_and, true_and, reduceIte, Nat.add_zero]
      by_cases z1 : i = 11 * c + 8
      · rw [if_pos z1, if_pos (by omega), if_neg (by omega), if_neg (by omega), if_pos z1]
      rw [if_neg z1]
      by_cases z2 : i = 11 * c + 10
      · rw [if_pos z2, if_pos (by omega), if_neg (by omega), if_neg (by omega), if_neg z1, if_neg (by omega), if_pos z2]
      rw [if_neg z2]
      by_cases z3 : i = 11 * c + 9
      · rw [if_pos z3, if_pos (by omega), if_neg (by omega), if_neg (by omega), if_neg z1, if_pos z3]
      rw [if_neg z3]
      by_cases z4 : i = 11 * c + 1
      · rw [if_pos z4, if_pos (by omega), if_neg (by omega), if_pos z4]
      rw [if_neg z4]
      by_cases z5 : i = 11 * c
      · rw [if_pos z5, if_pos (by omega), if_pos z5]
      rw [if_neg z5]
      by_cases z6 : 11 * c ≤ i ∧ i < 11 * c + 11
      · rw [if_pos z6, if_pos z6, if_neg z5, if_neg z4, if_neg z1, if_neg z3, if_neg z2]
      · rw [if_neg z6, if_neg z6]
    · have q : ∀ P : Prop, ¬ (f = 79 ∧ P) := fun P z => b1 z.1
      simp only [if_neg (q _)]
