/-! tests, nots, ands, ors, expressions -/
def mOpt (N : Nat) (rM : Int32 → St → Option St) (y : Int32) (o : Int32) (μ : St) : Option St := bn1 (fM_step N μ) fun μ1 => bn1 (fM_readSum N rM y μ1) fun μ2 => fM_emit N o μ2
def mTest (N : Nat) (rM : Int32 → St → Option St) (y : Int32) (μ : St) : Option St := bn1 (fM_readSum N rM y μ) fun μ1 => bn1 (fM_isSign N 60 μ1) fun r3 => if r3 = 0 then bn1 (fM_isSign N 61 μ1) fun r4 => if r4 = 0 then some μ1 else mOpt N rM y 6 μ1 else mOpt N rM y 5 μ1
theorem bn1_some {α : Type} (x : Option α) : (bn1 x fun q => some q) = x := by cases x <;> rfl
theorem bn1_as {α β γ : Type} (x : Option α) (k : α → Option β) (j : β → Option γ) : bn1 (bn1 x k) j = bn1 x fun q => bn1 (k q) j := by cases x <;> rfl
theorem mTest_e {N : Nat} {rM : Int32 → St → Option St} {y k : Int32} {m : Nat} {μ : St} (h : fM_is N 30 μ = some 0) : fM_readNot_2 N rM (m + 1) y k μ = bn1 (mTest N rM y μ) fun μ' => fM_readNot_87 N rM k μ' := by
  show (bn1 (fM_is N 30 μ) fun r1 => if r1 = 0 then bn1 (fM_readSum N rM y μ) fun σ2 => bn1 (fM_isSign N 60 σ2) fun r3 => if r3 = 0 then bn1 (fM_isSign N 61 σ2) fun r4 => if r4 = 0 then fM_readNot_87 N rM k σ2 else fM_readNot_57 N rM y k σ2 else fM_readNot_57 N rM y k σ2 else _) = _
  rw [h, bn1_e, if_pos rfl]
  unfold mTest
  cases h1 : fM_readSum N rM y μ with
  | none => rfl
  | some μ1 =>
    rw [bn1_e, bn1_e]
    unfold fM_readNot_57
    cases h2 : fM_isSign N 60 μ1 with
    | none => rfl
    | some r =>
      rw [bn1_e, bn1_e, bn1_e]
      by_cases c : r = 0
      · rw [if_pos c, if_pos c, if_pos c]
        cases h3 : fM_isSign N 61 μ1 with
        | none => rfl
        | some q =>
          rw [bn1_e, bn1_e]
          by_cases c2 : q = 0
          · rw [if_pos c2, if_pos c2]
            rfl
          · rw [if_neg c2, if_neg c2]
            unfold fM_readNot_72 mOpt
            simp only [bn1_as]
      · rw [if_neg c, if_neg c, if_neg c]
        unfold fM_readNot_72 mOpt
        simp only [bn1_as]
theorem test_b {N t : Nat} {rX rM : Int32 → St → Option St} {x y : Int32} (hb : BOk (fReader_readSum N rX x) (fM_readSum N rM y) t) : BOk (fReader_readTest N rX x) (mTest N rM y) t := by
  intro σ μ h
  obtain ⟨h1, h2⟩ := hb σ μ h
  unfold fReader_readTest mTest
  rw [h1, h2, bn1_e, bn1_e, nmx, h.isX, h.isM, bn1_e, bn1_e, if_pos rfl, if_pos rfl, h.isX, h.isM, bn1_e, bn1_e, if_pos rfl, if_pos rfl]
  exact ⟨rfl, rfl⟩
theorem test_n {N n t : Nat} {tp : Nat → Nat} {rX : Int32 → St → Option St} {x : Int32} (hs : NsOk N n t tp (fReader_readSum N rX x)) : NsOk N n t tp (fReader_readTest N rX x) := by
  intro σ μ tk b a L C g hL hn
  obtain ⟨σ', μ', h1, h2, h3, h4, h5⟩ := hs σ μ tk b a L C g hL hn
  refine ⟨σ', μ', ?_, h2, h3, h4, h5⟩
  unfold fReader_readTest
  rw [h1, bn1_e, nmx, h3.isX, bn1_e, if_pos rfl, h3.isX, bn1_e, if_pos rfl]
theorem test_e {N n t Hs : Nat} {tp : Nat → Nat} {rX rM : Int32 → St → Option St} {x y : Int32} (hN : 2000 ≤ N) (hs : SubOk (fReader_readSum N rX x) (fM_readSum N rM y) tp n t Hs) : SubOk (fReader_readTest N rX x) (mTest N rM y) tp n t (Hs + 1) := by
  intro σ μ tk b a L C g hL hC
  obtain ⟨σ1, μ1, j1, j2, j3, j4, j5⟩ := hs σ μ tk b a L C g hL hC
  unfold fReader_readTest mTest
  rw [j1, j2, bn1_e, bn1_e, nmx]
  rcases j5 with j5 | ⟨j5, tk2, b2, a2, e, g2, q1, q2, q3, q4, q5, q6⟩
  · refine ⟨σ1, μ1, ?_, ?_, j3, j4, Or.inl j5⟩
    · rw [j5.isX, bn1_e, if_pos rfl, j5.isX, bn1_e, if_pos rfl]
    · rw [j5.isM, bn1_e, if_pos rfl, j5.isM, bn1_e, if_pos rfl]
  · obtain ⟨n1, n2, n3⟩ := g2.ps.bn
    have op : ∀ o c : Nat, (1 ≤ o ∧ o ≤ 8) → tk2 = .sign c → -(nI c) = sg o → ∃ σ' μ', fReader_readTest_28 N rX x (σ1.1 117 0 0 0) σ1 = some σ' ∧ mOpt N rM y (nI o) μ1 = some μ' ∧ PostE tp (Hs + 1) n t b L C σ μ σ' μ' := by
      intro o c ho hc ht2
      have h1 := g2.ps.kX
      have hp := g2.ps.hp
      subst hc
      have hba : b2 < a2 := by
        rcases hp with q | q
        · exact absurd q.1 nofun
        · exact q.2
      obtain ⟨tk3, b3, a3, σ2, μ2, k1, k2, k3, k4, k5, k6⟩ := rstep_e hN g2
      obtain ⟨σ3, μ3, l1, l2, l3⟩ := hs σ2 μ2 tk3 b3 a3 _ _ k3 (by omega) (by omega)
      obtain ⟨act, ht⟩ := l3.act
      obtain ⟨σ4, μ4, i1, i2, i3, i4, i5⟩ := bin_e (N := N) (o := o) (σ := σ1) (μ := μ1) (H := Hs) ho hL hC ht q3 q4 (by omega) (by omega) (At_eq _ _ (fun j _ _ => k5.1 _ _ _ _ (by decide)) q5) (At_eq _ _ (fun j _ _ => k6.1 _ _ _ _ (by decide)) q6) l3
      refine ⟨σ4, μ4, ?_, ?_, (j3.tr (k5.pX lexX_rd)).tr i3, (j4.tr (Fx.pM (L := C) k6 lexM_rd (by decide)) (Nat.le_refl _)).tr i4 (Nat.le_refl _), ?_⟩
      · unfold fReader_readTest_28
        rw [k1, bn1_e, l1, bn1_e, act, chk_t (inb_n ht (by decide)), nI_clamp (by omega), h1.2, ht2, i1, bn1_e]
      · unfold mOpt
        rw [k2, bn1_e, l2, bn1_e, i2]
      · rcases i5 with i5 | ⟨i5, tk5, b5, a5, e5, i6, -⟩
        · exact Or.inl i5
        · rw [show max Hs (1 + Hs) = Hs + 1 by omega] at i6
          exact Or.inr ⟨(j5.tr (k5.ck (L := L) (by decide)) (Nat.le_refl _)).tr i5 (Nat.le_refl _), tk5, b5, a5, e5, i6⟩
    rcases gS_e (N := N) (c := 60) g2 (by decide) with ⟨e1, e2, e3⟩ | ⟨e1, e2, e3⟩
    · obtain ⟨σ', μ', z1, z2, z3⟩ := op 5 60 (by decide) e1 (by decide)
      refine ⟨σ', μ', ?_, ?_, z3⟩
      · rw [show fReader_isSign N 60 σ1 = some 1 from e2, bn1_e, if_neg (by decide), z1]
      · rw [show fM_isSign N 60 μ1 = some 1 from e3, bn1_e, if_neg (by decide)]
        exact z2
    · rw [show fReader_isSign N 60 σ1 = some 0 from e2, show fM_isSign N 60 μ1 = some 0 from e3, bn1_e, bn1_e, if_pos rfl, if_pos rfl]
      rcases gS_e (N := N) (c := 61) g2 (by decide) with ⟨f1, f2, f3⟩ | ⟨f1, f2, f3⟩
      · obtain ⟨σ', μ', z1, z2, z3⟩ := op 6 61 (by decide) f1 (by decide)
        refine ⟨σ', μ', ?_, ?_, z3⟩
        · rw [show fReader_isSign N 61 σ1 = some 1 from f2, bn1_e, if_neg (by decide), z1]
        · rw [show fM_isSign N 61 μ1 = some 1 from f3, bn1_e, if_neg (by decide)]
          exact z2
      · refine ⟨σ1, μ1, ?_, ?_, j3, j4, Or.inr ⟨j5, tk2, b2, a2, e, g2, q1, q2, q3, by omega, q5, q6⟩⟩
        · rw [show fReader_isSign N 61 σ1 = some 0 from f2, bn1_e, if_pos rfl]
        · rw [show fM_isSign N 61 μ1 = some 0 from f3, bn1_e, if_pos rfl]
/-- the nots are written behind their test -/
theorem notB_e {N t k : Nat} {rX rM : Int32 → St → Option St} (hk : k ≤ 6) : ∀ (d j m m' : Nat) (σ μ : St), j + d = k → d < m → d < m' → BS t σ μ → ∃ σ', fReader_readNegation_49 N rX m (nI k) (nI j) σ = some σ' ∧ fM_readNot_89 N rM m' (nI k) (nI j) μ = some μ ∧ BS t σ' μ ∧ PFX t σ σ' := by
  intro d
  induction d with
  | zero =>
    intro j m m' σ μ h1 h2 h3 h
    obtain ⟨m, rfl⟩ : ∃ q, m = q + 1 := ⟨m - 1, by omega⟩
    obtain ⟨m', rfl⟩ : ∃ q, m' = q + 1 := ⟨m' - 1, by omega⟩
    refine ⟨σ, ?_, ?_, h, PFX.rf⟩
    · show (if nI k ≤ nI j then _ else _) = _
      rw [if_pos (nI_le (by omega) (by omega))]
    · show (if nI k ≤ nI j then _ else _) = _
      rw [if_pos (nI_le (by omega) (by omega))]
  | succ d ih =>
    intro j m m' σ μ h1 h2 h3 h
    obtain ⟨m, rfl⟩ : ∃ q, m = q + 1 := ⟨m - 1, by omega⟩
    obtain ⟨m', rfl⟩ : ∃ q, m' = q + 1 := ⟨m' - 1, by omega⟩
    have ht := h.ht
    obtain ⟨σ1, k1, k2, k3⟩ := h.emX (N := N) (-4)
    obtain ⟨σ2, i1, i2, i3, i4⟩ := ih (j + 1) m m' σ1 μ (by omega) (by omega) (by omega) k2
    refine ⟨σ2, ?_, ?_, i3, k3.tr i4⟩
    · show (if nI k ≤ nI j then _ else chk (inb (σ.1 121 0 0 0) 17) (bn1 (fAct_emit N (σ.1 121 0 0 0).toNatClampNeg (-4) σ) fun σ1 => fReader_readNegation_49 N rX m (nI k) (nI j + 1) σ1)) = _
      rw [if_neg (nI_ge (by omega) (by omega)), h.tX, chk_t (inb_n ht (by decide)), nI_clamp (by omega), k1, bn1_e, nI_1, i1]
    · show (if nI k ≤ nI j then _ else bn1 (fM_emit N 9 μ) fun σ1 => fM_readNot_89 N rM m' (nI k) (nI j + 1) σ1) = _
      rw [if_neg (nI_ge (by omega) (by omega)), h.emM, bn1_e, nI_1, i2]
theorem PFM.tr' {t C K : Nat} {μ μ' μ'' : St} (h : PFM t (C + K) μ μ') (h2 : PFM t C μ' μ'') : PFM t C μ μ'' :=
  ⟨fun f a b i e e2 => (h2.o f a b i e e2).trans (h.o f a b i e e2), fun j hj => (h2.c j hj).trans (h.c j (by omega)), h2.s.trans h.s⟩
theorem notE_e {N n t k H b L C : Nat} {tp : Nat → Nat} {rX rM : Int32 → St → Option St} (hk : k ≤ 6) (hL : L ≤ b) (hC : 2 * C ≤ 3 * b) : ∀ (d j m m' : Nat) (σ μ : St) (tk : Tok) (b' a' : Nat) (e : Ex), j + d = k → d < m → d < m' → SegAt tp H n t b L C σ μ tk b' a' e → b + e.cX.length + d ≤ b' → 2 * e.cM.length + 3 * b + 2 * d ≤ 3 * b' + 1 → ∃ σ' μ', fReader_readNegation_49 N rX m (nI k) (nI j) σ = some σ' ∧ fM_readNot_89 N rM m' (nI k) (nI j) μ = some μ' ∧ PostE tp H n t b L C σ μ σ' μ' := by
  intro d
  induction d with
  | zero =>
    intro j m m' σ μ tk b' a' e h1 h2 h3 h h4 h5
    obtain ⟨m, rfl⟩ : ∃ q, m = q + 1 := ⟨m - 1, by omega⟩
    obtain ⟨m', rfl⟩ : ∃ q, m' = q + 1 := ⟨m' - 1, by omega⟩
    refine ⟨σ, μ, ?_, ?_, PFX.rf, PFM.rf, Or.inr ⟨fun _ _ => rfl, tk, b', a', e, h⟩⟩
    · show (if nI k ≤ nI j then _ else _) = _
      rw [if_pos (nI_le (by omega) (by omega))]
    · show (if nI k ≤ nI j then _ else _) = _
      rw [if_pos (nI_le (by omega) (by omega))]
  | succ d ih =>
    intro j m m' σ μ tk b' a' e h1 h2 h3 h h4 h5
    obtain ⟨m, rfl⟩ : ∃ q, m = q + 1 := ⟨m - 1, by omega⟩
    obtain ⟨m', rfl⟩ : ∃ q, m' = q + 1 := ⟨m' - 1, by omega⟩
    obtain ⟨g, q1, q2, q3, q4, q5, q6⟩ := h
    have ht := g.ps.ht
    obtain ⟨n1, n2, n3⟩ := g.ps.bn
    have lX : (Ex.neg e).cX.length = e.cX.length + 1 := by simp [Ex.neg_cX]
    have lM : (Ex.neg e).cM.length = e.cM.length + 1 := by simp [Ex.neg_cM]
    have gE := (g.emX (-4)).emM 9
    obtain ⟨σ2, μ2, i1, i2, i3, i4, i5⟩ := ih (j + 1) m m' _ _ tk b' a' (Ex.neg e) (by omega) (by omega) (by omega) ⟨by rw [lX, lM]; exact gE, by omega, by omega, Ex.neg_ok q3, q4, by
        refine (At_app e.cX L [-4]).mpr ⟨?_, ?_, trivial⟩
        · refine At_eq _ _ (fun j j1 j2 => ?_) q5
          try dsimp only
          rw [sI_o (by decide), sI_i (by omega)]
        · dsimp only
          rw [sI_o (by decide), sI_s], by
        refine (At_app e.cM (1000 * t + C) [9]).mpr ⟨?_, ?_, trivial⟩
        · refine At_eq _ _ (fun j j1 j2 => ?_) q6
          try dsimp only
          rw [sI_o (by decide), sI_i (by omega)]
        · dsimp only
          rw [sI_o (by decide), Nat.add_assoc, sI_s]⟩ (by omega) (by omega)
    refine ⟨σ2, μ2, ?_, ?_, PFX.em.tr i3, (PFM.em (C := C + e.cM.length)).tr' i4, ?_⟩
    · show (if nI k ≤ nI j then _ else chk (inb (σ.1 121 0 0 0) 17) (bn1 (fAct_emit N (σ.1 121 0 0 0).toNatClampNeg (-4) σ) fun σ1 => fReader_readNegation_49 N rX m (nI k) (nI j + 1) σ1)) = _
      rw [if_neg (nI_ge (by omega) (by omega)), g.ps.tX, chk_t (inb_n ht (by decide)), nI_clamp (by omega), emX_e g.hL (by omega), bn1_e, nI_1, i1]
    · show (if nI k ≤ nI j then _ else bn1 (fM_emit N 9 μ) fun σ1 => fM_readNot_89 N rM m' (nI k) (nI j + 1) σ1) = _
      rw [if_neg (nI_ge (by omega) (by omega)), emM_e g.hC g.g0 g.ps.tM ht (by omega), bn1_e, nI_1, i2]
    · rcases i5 with i5 | ⟨i5, i6⟩
      · exact Or.inl i5
      · refine Or.inr ⟨fun j hj => (i5 j hj).trans ?_, i6⟩
        rw [sI_o (by decide), sI_i (by omega)]
theorem not_b {N t : Nat} {rX rM : Int32 → St → Option St} {x y : Int32} (hN : 1 ≤ N) (hb : BOk (fReader_readTest N rX x) (mTest N rM y) t) : BOk (fReader_readNegation N rX x) (fM_readNot N rM y) t := by
  intro σ μ h
  obtain ⟨h1, h2⟩ := hb σ μ h
  obtain ⟨M, hM⟩ : ∃ q, N = q + 1 := ⟨N - 1, by omega⟩
  have e2 : fM_readNot N rM y μ = bn1 (mTest N rM y μ) fun μ' => fM_readNot_87 N rM 0 μ' := by
    have := mTest_e (N := N) (rM := rM) (y := y) (k := 0) (m := M) (h.wM hN 30)
    rw [← hM] at this
    exact this
  have e1 : fReader_readNegation N rX x σ = fReader_readNegation_27 N rX x 0 σ := by
    have : fReader_readNegation_2 N rX (M + 1) x 0 σ = fReader_readNegation_27 N rX x 0 σ := by
      show (if (6 : Int32) ≤ 0 then _ else bn1 (fReader_isWord N 10 σ) fun r1 => if r1 = 0 then fReader_readNegation_27 N rX x 0 σ else _) = _
      rw [if_neg (by decide), h.wX, bn1_e, if_pos rfl]
    rw [← hM] at this
    exact this
  obtain ⟨z, z1, z2, -⟩ := notB_e (N := N) (rX := rX) (rM := rM) (k := 0) (t := t) (by omega) 0 0 N N σ μ rfl (by omega) (by omega) h
  have z0 : z = σ := by
    have : fReader_readNegation_49 N rX (M + 1) 0 0 σ = some σ := rfl
    rw [← hM] at this
    exact Option.some.inj (z1.symm.trans this)
  rw [e1, e2, h2, bn1_e]
  unfold fReader_readNegation_27 fM_readNot_87
  rw [h.wX, bn1_e, if_pos rfl, h1, bn1_e]
  exact ⟨z0 ▸ z1, z2⟩
theorem not_n {N n t : Nat} {tp : Nat → Nat} {rX : Int32 → St → Option St} {x : Int32} (hN : 200 ≤ N) (hs : NsOk N n t tp (fReader_readTest N rX x)) : NsOk N n t tp (fReader_readNegation N rX x) := by
  intro σ μ tk b a L C g hL hn
  obtain ⟨σ', μ', h1, h2, h3, h4, h5⟩ := hs σ μ tk b a L C g hL hn
  obtain ⟨M, hM⟩ : ∃ q, N = q + 1 := ⟨N - 1, by omega⟩
  have w : fReader_isWord N 10 σ = some 0 := by
    rcases gW_e (N := N) (k := 10) (ks := 30) (by omega) g (by decide) (by decide) (by decide) with ⟨e, -, -⟩ | ⟨-, e, -⟩
    · exact absurd e (hn.1 _)
    · exact e
  have e1 : fReader_readNegation N rX x σ = fReader_readNegation_27 N rX x 0 σ := by
    have : fReader_readNegation_2 N rX (M + 1) x 0 σ = fReader_readNegation_27 N rX x 0 σ := by
      show (if (6 : Int32) ≤ 0 then _ else bn1 (fReader_isWord N 10 σ) fun r1 => if r1 = 0 then fReader_readNegation_27 N rX x 0 σ else _) = _
      rw [if_neg (by decide), w, bn1_e, if_pos rfl]
    rw [← hM] at this
    exact this
  refine ⟨σ', μ', ?_, h2, h3, h4, h5⟩
  rw [e1]
  unfold fReader_readNegation_27
  rw [w, bn1_e, if_pos rfl, h1, bn1_e, hM]
  rfl
theorem not_tail {N n t H b L C k m' : Nat} {tp : Nat → Nat} {rX rM : Int32 → St → Option St} {x y : Int32} {σ μ : St} {tk : Tok} {b' a' : Nat} {eX : Option St} (hN : 2000 ≤ N) (hs : SubOk (fReader_readTest N rX x) (mTest N rM y) tp n t H) (hL : L ≤ b) (hC : 2 * C ≤ 3 * b) (hk : k ≤ 6) (g : GS tp n t σ μ tk b' a' L C) (h4 : b + k ≤ b') (e2 : fReader_isWord N (nI 10) σ = some 0) (e3 : fM_is N 30 μ = some 0) (hX : eX = fReader_readNegation_27 N rX x (nI k) σ) :
    ∃ σ' μ', eX = some σ' ∧ fM_readNot_2 N rM (m' + 1) y (nI k) μ = some μ' ∧ PostE tp H n t b L C σ μ σ' μ' := by
  obtain ⟨σ1, μ1, j1, j2, j3, j4, j5⟩ := hs σ μ tk b' a' L C g (by omega) (by omega)
  have eX2 : eX = fReader_readNegation_49 N rX N (nI k) 0 σ1 := by
    rw [hX]
    unfold fReader_readNegation_27
    rw [show fReader_isWord N 10 σ = some 0 from e2, bn1_e, if_pos rfl, j1, bn1_e]
  have eM2 : fM_readNot_2 N rM (m' + 1) y (nI k) μ = fM_readNot_89 N rM N (nI k) 0 μ1 := by
    rw [mTest_e e3, j2, bn1_e]
    rfl
  rw [eX2, eM2]
  rcases j5 with j5 | ⟨j5, tk2, b2, a2, e, g2, q1, q2, q3, q4, q5, q6⟩
  · obtain ⟨σ2, i1, i2, i3, i4⟩ := notB_e (N := N) (rX := rX) (rM := rM) hk k 0 N N σ1 μ1 (by omega) (by omega) (by omega) j5
    exact ⟨σ2, μ1, i1, i2, j3.tr i4, j4, Or.inl i3⟩
  · obtain ⟨σ2, μ2, i1, i2, i3, i4, i5⟩ := notE_e (N := N) (rX := rX) (rM := rM) (H := H) (n := n) (t := t) (tp := tp) hk hL hC k 0 N N σ1 μ1 tk2 b2 a2 e (by omega) (by omega) (by omega) ⟨g2, by omega, by omega, q3, q4, q5, q6⟩ (by omega) (by omega)
    refine ⟨σ2, μ2, i1, i2, j3.tr i3, j4.tr i4 (Nat.le_refl _), ?_⟩
    rcases i5 with i5 | ⟨i5, i6⟩
    · exact Or.inl i5
    · exact Or.inr ⟨j5.tr i5 (Nat.le_refl _), i6⟩
/-- reading the nots ahead of a test -/
theorem not_loop {N n t H b L C : Nat} {tp : Nat → Nat} {rX rM : Int32 → St → Option St} {x y : Int32} (hN : 2000 ≤ N) (hs : SubOk (fReader_readTest N rX x) (mTest N rM y) tp n t H) (hL : L ≤ b) (hC : 2 * C ≤ 3 * b) : ∀ (d k m m' : Nat) (σ μ : St) (tk : Tok) (b' a' : Nat), k + d = 6 → d < m → d < m' → GS tp n t σ μ tk b' a' L C → b + k ≤ b' → ∃ σ' μ', fReader_readNegation_2 N rX m x (nI k) σ = some σ' ∧ fM_readNot_2 N rM m' y (nI k) μ = some μ' ∧ PostE tp H n t b L C σ μ σ' μ' := by
  intro d
  induction d with
  | zero =>
    intro k m m' σ μ tk b' a' h1 h2 h3 g h4
    obtain ⟨m, rfl⟩ : ∃ q, m = q + 1 := ⟨m - 1, by omega⟩
    obtain ⟨m', rfl⟩ : ∃ q, m' = q + 1 := ⟨m' - 1, by omega⟩
    have hk : k = 6 := by omega
    subst hk
    have eX : fReader_readNegation_2 N rX (m + 1) x (nI 6) σ = fReader_readNegation_27 N rX x (nI 6) σ := rfl
    rcases gW_e (N := N) (k := 10) (ks := 30) (by omega) g (by decide) (by decide) (by decide) with ⟨e1, e2, e3⟩ | ⟨e1, e2, e3⟩
    · obtain ⟨n1, n2, n3⟩ := g.ps.bn
      obtain ⟨σ', μ', g1, g2, g3, g4, g5⟩ := rfail_e (N := N) (k := 2) g (by omega) (by omega)
      refine ⟨σ', μ', ?_, ?_, g4.pX flt_rdX, Fx.pM g5 flt_rdM (by decide), Or.inl g3⟩
      · rw [eX]
        unfold fReader_readNegation_27
        rw [show fReader_isWord N 10 σ = some 1 from e2, bn1_e, if_neg (by decide), show fReader_fail N 2 σ = some σ' from g1, bn1_e]
      · show (bn1 (fM_is N 30 μ) fun r1 => if r1 = 0 then _ else if nI 6 = 6 then bn1 (fM_wrong N 2 μ) fun σ6 => some σ6 else _) = _
        rw [e3, bn1_e, if_neg (by decide), if_pos (show nI 6 = 6 from rfl), show fM_wrong N 2 μ = some μ' from g2, bn1_e]
    · obtain ⟨n1, n2, n3⟩ := g.ps.bn
      exact not_tail hN hs hL hC (by omega) g h4 e2 e3 eX
  | succ d ih =>
    intro k m m' σ μ tk b' a' h1 h2 h3 g h4
    obtain ⟨m, rfl⟩ : ∃ q, m = q + 1 := ⟨m - 1, by omega⟩
    obtain ⟨m', rfl⟩ : ∃ q, m' = q + 1 := ⟨m' - 1, by omega⟩
    have eX0 : fReader_readNegation_2 N rX (m + 1) x (nI k) σ = if (6 : Int32) ≤ nI k then fReader_readNegation_27 N rX x (nI k) σ else bn1 (fReader_isWord N 10 σ) fun r1 => if r1 = 0 then fReader_readNegation_27 N rX x (nI k) σ else bn1 (fReader_advance N σ) fun σ2 => fReader_readNegation_2 N rX m x (nI k + 1) σ2 := rfl
    have hk6 : ¬ (6 : Int32) ≤ nI k := nI_ge (a := k) (b := 6) (by omega) (by omega)
    have hne : ¬ nI k = 6 := fun q => by
      have := (nI_eq (b := 6) (by omega) (by omega)).mp q
      omega
    rcases gW_e (N := N) (k := 10) (ks := 30) (by omega) g (by decide) (by decide) (by decide) with ⟨e1, e2, e3⟩ | ⟨e1, e2, e3⟩
    · have hp := g.ps.hp
      have hba : b' < a' := by
        rcases hp with q | q
        · rw [e1] at q
          exact absurd q.1 nofun
        · exact q.2
      obtain ⟨tk2, b2, a2, σ1, μ1, k1, k2, k3, k4, k5, k6⟩ := rstep_e hN g
      obtain ⟨σ2, μ2, i1, i2, i3, i4, i5⟩ := ih (k + 1) m m' σ1 μ1 tk2 b2 a2 (by omega) (by omega) (by omega) k3 (by omega)
      refine ⟨σ2, μ2, ?_, ?_, (k5.pX lexX_rd).tr i3, (Fx.pM (L := C) k6 lexM_rd (by decide)).tr i4 (Nat.le_refl _), ?_⟩
      · rw [eX0, if_neg hk6, show fReader_isWord N 10 σ = some 1 from e2, bn1_e, if_neg (by decide), k1, bn1_e, nI_1, i1]
      · show (bn1 (fM_is N 30 μ) fun r1 => if r1 = 0 then _ else if nI k = 6 then _ else bn1 (fM_step N μ) fun σ5 => fM_readNot_2 N rM m' y (nI k + 1) σ5) = _
        rw [e3, bn1_e, if_neg (by decide), if_neg hne, k2, bn1_e, nI_1, i2]
      · rcases i5 with i5 | ⟨i5, i6⟩
        · exact Or.inl i5
        · exact Or.inr ⟨(k5.ck (L := L) (by decide)).tr i5 (Nat.le_refl _), i6⟩
    · refine not_tail hN hs hL hC (by omega) g h4 e2 e3 ?_
      rw [eX0, if_neg hk6, show fReader_isWord N 10 σ = some 0 from e2, bn1_e, if_pos rfl]
theorem not_e {N n t H : Nat} {tp : Nat → Nat} {rX rM : Int32 → St → Option St} {x y : Int32} (hN : 2000 ≤ N) (hs : SubOk (fReader_readTest N rX x) (mTest N rM y) tp n t H) : SubOk (fReader_readNegation N rX x) (fM_readNot N rM y) tp n t H := by
  intro σ μ tk b a L C g hL hC
  exact not_loop hN hs hL hC 6 0 N N σ μ tk b a (by omega) (by omega) (by omega) g (by omega)
theorem so_Conjunction {N n t : Nat} {tp : Nat → Nat} {rX rM : Int32 → St → Option St} {x y : Int32} (hN : 200 ≤ N) : StepOp N n t tp (fReader_readNegation N rX x) (fM_readNot N rM y) (fun m i σ => fReader_readConjunction_7 N rX m x i σ) (fun m μ => fM_readAnd_5 N rM m y μ) := by
  intro m i σ μ tk b a L C hi g
  obtain ⟨n1, n2, n3⟩ := g.ps.bn
  have hp := g.ps.hp
  have eX : fReader_readConjunction_7 N rX (m + 1) x (nI i) σ = if 600 ≤ nI i then some σ else bn1 (fReader_isWord N 9 σ) fun r1 => if r1 = 0 then some σ else bn1 (fReader_advance N σ) fun σ2 => bn1 (fReader_readNegation N rX x σ2) fun σ3 => chk (inb (σ3.1 121 0 0 0) 17) (bn1 (fAct_emit N (σ3.1 121 0 0 0).toNatClampNeg (-3) σ3) fun σ4 => fReader_readConjunction_7 N rX m x (nI i + 1) σ4) := rfl
  have eM : fM_readAnd_5 N rM (m + 1) y μ = bn1 (fM_is N 31 μ) fun r1 => if r1 = 0 then some μ else bn1 (fM_step N μ) fun σ2 => bn1 (fM_readNot N rM y σ2) fun σ3 => bn1 (fM_emit N 7 σ3) fun σ4 => fM_readAnd_5 N rM m y σ4 := rfl
  rcases gW_e (N := N) (k := 9) (ks := 31) hN g (by decide) (by decide) (by decide) with ⟨e1, e2, e3⟩ | ⟨e1, e2, e3⟩
  · have hb : b < a := by
      rcases hp with q | q
      · rw [e1] at q
        exact absurd q.1 nofun
      · exact q.2
    refine Or.inr ⟨by rw [e1]; nofun, 7, by decide, ?_, ?_⟩
    · dsimp only
      rw [eX, if_neg (show ¬ (600 : Int32) ≤ nI i from nI_ge (a := i) (b := 600) (by omega) (by omega)), show fReader_isWord N 9 σ = some 1 from e2, bn1_e, if_neg (by decide), nI_1]
      rfl
    · dsimp only
      rw [eM, e3, bn1_e, if_neg (by decide)]
      rfl
  · refine Or.inl ⟨?_, ?_⟩
    · dsimp only
      rw [eX, show fReader_isWord N 9 σ = some 0 from e2, bn1_e, if_pos rfl]
      by_cases c : (600 : Int32) ≤ nI i
      · rw [if_pos c]
      · rw [if_neg c]
    · dsimp only
      rw [eM, e3, bn1_e, if_pos rfl]
theorem sb_Conjunction {N t : Nat} {rX rM : Int32 → St → Option St} {x y : Int32} (hN : 1 ≤ N) : StepB t (fun m i σ => fReader_readConjunction_7 N rX m x i σ) (fun m μ => fM_readAnd_5 N rM m y μ) := by
  intro m i σ μ h
  constructor
  · show (if 600 ≤ i then some σ else bn1 (fReader_isWord N 9 σ) fun r1 => if r1 = 0 then some σ else _) = _
    rw [h.wX, bn1_e, if_pos rfl]
    by_cases c : 600 ≤ i
    · rw [if_pos c]
    · rw [if_neg c]
  · show (bn1 (fM_is N 31 μ) fun r1 => if r1 = 0 then some μ else _) = _
    rw [h.wM hN, bn1_e, if_pos rfl]
theorem so_Expression {N n t : Nat} {tp : Nat → Nat} {rX rM : Int32 → St → Option St} {x y : Int32} (hN : 200 ≤ N) : StepOp N n t tp (fReader_readConjunction N rX x) (fM_readAnd N rM y) (fun m i σ => fReader_readExpression_58 N rX m x i σ) (fun m μ => fM_readExpression_67 N rM m y μ) := by
  intro m i σ μ tk b a L C hi g
  obtain ⟨n1, n2, n3⟩ := g.ps.bn
  have hp := g.ps.hp
  have eX : fReader_readExpression_58 N rX (m + 1) x (nI i) σ = if 600 ≤ nI i then some σ else bn1 (fReader_isWord N 8 σ) fun r1 => if r1 = 0 then some σ else bn1 (fReader_advance N σ) fun σ2 => bn1 (fReader_readConjunction N rX x σ2) fun σ3 => chk (inb (σ3.1 121 0 0 0) 17) (bn1 (fAct_emit N (σ3.1 121 0 0 0).toNatClampNeg (-2) σ3) fun σ4 => fReader_readExpression_58 N rX m x (nI i + 1) σ4) := rfl
  have eM : fM_readExpression_67 N rM (m + 1) y μ = bn1 (fM_is N 32 μ) fun r1 => if r1 = 0 then some μ else bn1 (fM_step N μ) fun σ2 => bn1 (fM_readAnd N rM y σ2) fun σ3 => bn1 (fM_emit N 8 σ3) fun σ4 => fM_readExpression_67 N rM m y σ4 := rfl
  rcases gW_e (N := N) (k := 8) (ks := 32) hN g (by decide) (by decide) (by decide) with ⟨e1, e2, e3⟩ | ⟨e1, e2, e3⟩
  · have hb : b < a := by
      rcases hp with q | q
      · rw [e1] at q
        exact absurd q.1 nofun
      · exact q.2
    refine Or.inr ⟨by rw [e1]; nofun, 8, by decide, ?_, ?_⟩
    · dsimp only
      rw [eX, if_neg (show ¬ (600 : Int32) ≤ nI i from nI_ge (a := i) (b := 600) (by omega) (by omega)), show fReader_isWord N 8 σ = some 1 from e2, bn1_e, if_neg (by decide), nI_1]
      rfl
    · dsimp only
      rw [eM, e3, bn1_e, if_neg (by decide)]
      rfl
  · refine Or.inl ⟨?_, ?_⟩
    · dsimp only
      rw [eX, show fReader_isWord N 8 σ = some 0 from e2, bn1_e, if_pos rfl]
      by_cases c : (600 : Int32) ≤ nI i
      · rw [if_pos c]
      · rw [if_neg c]
    · dsimp only
      rw [eM, e3, bn1_e, if_pos rfl]
theorem sb_Expression {N t : Nat} {rX rM : Int32 → St → Option St} {x y : Int32} (hN : 1 ≤ N) : StepB t (fun m i σ => fReader_readExpression_58 N rX m x i σ) (fun m μ => fM_readExpression_67 N rM m y μ) := by
  intro m i σ μ h
  constructor
  · show (if 600 ≤ i then some σ else bn1 (fReader_isWord N 8 σ) fun r1 => if r1 = 0 then some σ else _) = _
    rw [h.wX, bn1_e, if_pos rfl]
    by_cases c : 600 ≤ i
    · rw [if_pos c]
    · rw [if_neg c]
  · show (bn1 (fM_is N 32 μ) fun r1 => if r1 = 0 then some μ else _) = _
    rw [h.wM hN, bn1_e, if_pos rfl]
