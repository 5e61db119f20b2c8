/-! the kinds of clauses -/
def SameA (t f0 : Nat) (σ σ' : St) : Prop := ∀ f i, 3 ≤ f → f ≤ 12 → f ≠ f0 → σ'.1 f t 0 i = σ.1 f t 0 i
def SameC (y : Nat) (S : Nat → Bool) (μ μ' : St) : Prop := ∀ f, 239 ≤ f → f ≤ 244 → S f = false → μ'.1 f 0 0 y = μ.1 f 0 0 y
theorem Fx.sa {t f0 : Nat} {σ σ' : St} (h : Fx rdX σ σ') : SameA t f0 σ σ' := fun f i h1 h2 _ => h.1 f t 0 i (by simp [rdX, lexX]; omega)
theorem PFX.sa {t f0 : Nat} {σ σ' : St} (h : PFX t σ σ') : SameA t f0 σ σ' := fun f i h1 h2 _ => h.o f t 0 i (by simp [rdX, lexX]; omega) (by omega)
theorem SameA.tr {t f0 : Nat} {σ σ' σ'' : St} (h : SameA t f0 σ σ') (h2 : SameA t f0 σ' σ'') : SameA t f0 σ σ'' := fun f i a b c => (h2 f i a b c).trans (h f i a b c)
theorem SameA.s {t f0 j : Nat} {σ : St} {x : Int32} : SameA t f0 σ (sI σ f0 t 0 j x) := fun f i _ _ c => sI_o c
theorem Fx.sc {y : Nat} {S : Nat → Bool} {μ μ' : St} (h : Fx rdM μ μ') : SameC y S μ μ' := fun f h1 h2 _ => h.1 f 0 0 y (rdM_out (by omega))
theorem PFM.sc {y t C : Nat} {S : Nat → Bool} {μ μ' : St} (h : PFM t C μ μ') : SameC y S μ μ' := fun f h1 h2 _ => h.o f 0 0 y (rdM_out (by omega)) (by omega)
theorem SameC.tr {y : Nat} {S : Nat → Bool} {μ μ' μ'' : St} (h : SameC y S μ μ') (h2 : SameC y S μ' μ'') : SameC y S μ μ'' := fun f a b c => (h2 f a b c).trans (h f a b c)
theorem SameC.s {y f0 j : Nat} {S : Nat → Bool} {μ : St} {x : Int32} (h : S f0 = true) : SameC y S μ (sI μ f0 0 0 j x) := fun f _ _ c => sI_o (fun q => by rw [q, h] at c; exact absurd c (by decide))
theorem Fx.tX {t : Nat} {σ σ' : St} (h : Fx rdX σ σ') : TFX t σ σ' := (h.pX (t := t) (fun _ e => e)).t
theorem lexX_rdX {σ σ' : St} (h : Fx lexX σ σ') : Fx rdX σ σ' := h.mono lexX_rd
theorem lexM_rdM {σ σ' : St} (h : Fx lexM σ σ') : Fx rdM σ σ' := h.mono lexM_rd
theorem GS.lt {tp : Nat → Nat} {n t : Nat} {σ μ : St} {tk : Tok} {b a L C : Nat} (g : GS tp n t σ μ tk b a L C) (h : tk ≠ .fin) : b < a := by
  rcases g.ps.hp with q | q
  · exact absurd q.1 h
  · exact q.2
theorem ins_loop {N n t k : Nat} {tp : Nat → Nat} (hN : 2000 ≤ N) (hk : k < 24) : ∀ (d i q q' m : Nat) (σ μ : St) (tk : Tok) (b a L C : Nat), i + d = 8 → d < q → d < q' → 1 ≤ m → m < 256 → pc m = i + 1 → GS tp n t σ μ tk b a L C → L ≤ 600 →
    ∃ σ' μ', fReader_readInsured_8 N q (nI m) (nI i) σ = some σ' ∧ mMore N (fM_readTrades_4 N q') (nI (24 * t + k)) (nI m) μ = some μ' ∧ TFX t σ σ' ∧ CK t L σ σ' ∧ RM t k C μ μ' ∧ (BS t σ' μ' ∨ ∃ m' tk' b' a', 1 ≤ m' ∧ m' < 256 ∧ GS tp n t σ' μ' tk' b' a' L C ∧ b ≤ b' ∧ σ'.1 4 t 0 0 = nI m' ∧ μ'.1 240 0 0 (24 * t + k) = nI m' ∧ SameA t 4 σ σ' ∧ SameC (24 * t + k) (fun f => decide (f = 240)) μ μ') := by
  intro d
  induction d with
  | zero =>
    intro i q q' m σ μ tk b a L C h1 h2 h3 h4 h5 h6 g hL
    have := pc_le m h5
    omega
  | succ d ih =>
    intro i q q' m σ μ tk b a L C h1 h2 h3 h4 h5 h6 g hL
    obtain ⟨q, rfl⟩ : ∃ z, q = z + 1 := ⟨q - 1, by omega⟩
    obtain ⟨q', rfl⟩ : ∃ z, q' = z + 1 := ⟨q' - 1, by omega⟩
    have ht := g.ps.ht
    have i8 : ¬ (8 : Int32) ≤ nI i := nI_ge (a := i) (b := 8) (by omega) (by omega)
    have w46 : ∀ (x : Nat) (σ1 : St), σ1.1 121 0 0 0 = nI t → fReader_readInsured_46 N (nI x) σ1 = some (sI σ1 4 t 0 0 (nI x)) := fun x σ1 e => by
      unfold fReader_readInsured_46
      rw [e, chk_t (inb_n ht (by decide)), nmx, nI_clamp (by omega)]
    have eX : fReader_readInsured_8 N (q + 1) (nI m) (nI i) σ = if σ.1 117 0 0 0 = 44 then bn1 (fReader_advance N σ) fun σ1 => bnd (fReader_readTrade N (nI m) σ1) fun r2 σ3 => fReader_readInsured_8 N q r2 (nI i + 1) σ3 else fReader_readInsured_46 N (nI m) σ := by
      show (if 8 ≤ nI i then _ else if σ.1 113 0 0 0 = 0 then _ else _) = _
      rw [if_neg i8, if_pos g.f0]
    rcases gS_e (N := N) (c := 44) g (by decide) with ⟨e1, e2, e3⟩ | ⟨e1, e2, e3⟩
    · subst e1
      have hba := g.lt nofun
      obtain ⟨tk2, b2, a2, σ1, μ1, k1, k2, k3, k4, k5, k6⟩ := rstep_e hN g
      obtain ⟨r, σ2, μ2, j1, j2, j3, j4⟩ := trade_e (m := m) hN h5 k3 hL
      have p1 : TFX t σ σ2 := (lexX_rdX k5).tX.tr j2.tX
      have p2 : CK t L σ σ2 := (k5.ck (L := L) (by decide)).tr (j2.ck (L := L) (by decide)) (Nat.le_refl _)
      have p3 : RM t k C μ μ2 := (lexM_rdM k6).rm.tr j3.rm
      have x1 : fReader_readInsured_8 N (q + 1) (nI m) (nI i) σ = fReader_readInsured_8 N q r (nI (i + 1)) σ2 := by
        rw [eX, if_pos (show σ.1 117 0 0 0 = 44 from g.ps.kX.2), k1, bn1_e, j1, bnd_e, nI_1]
      have x2 : mMore N (fM_readTrades_4 N (q' + 1)) (nI (24 * t + k)) (nI m) μ = mTr N (fM_readTrades_4 N q') (nI (24 * t + k)) (nI m) μ1 := by
        unfold mMore
        rw [show fM_isSign N 44 μ = some 1 from e3, bn1_e, if_neg (by decide), k2, bn1_e]
        show (if μ1.1 255 0 0 0 = 0 then (if (1 : Int32) = 0 then _ else _) else _) = _
        rw [if_pos k3.g0, if_neg (by decide)]
        rfl
      rw [x1, x2]
      rcases j4 with ⟨j4, j5⟩ | ⟨m2, tk3, b3, a3, j4, j5, j6, j7, j8, j9, j10, j11⟩
      · obtain ⟨q, rfl⟩ : ∃ z, q = z + 1 := ⟨q - 1, by omega⟩
        have z : fReader_readInsured_8 N (q + 1) r (nI (i + 1)) σ2 = some (sI σ2 4 t 0 0 r) := by
          have w : fReader_readInsured_46 N r σ2 = some (sI σ2 4 t 0 0 r) := by
            unfold fReader_readInsured_46
            rw [j4.tX, chk_t (inb_n ht (by decide)), nmx, nI_clamp (by omega)]
          show (if 8 ≤ nI (i + 1) then fReader_readInsured_46 N r σ2 else if σ2.1 113 0 0 0 = 0 then _ else fReader_readInsured_46 N r σ2) = _
          rw [if_neg j4.x, w]
          by_cases c : 8 ≤ nI (i + 1)
          · rw [if_pos c]
          · rw [if_neg c]
        exact ⟨_, μ2, z, j5 _ _, p1.tr (TFX.s (by decide)), p2.tr (fun j _ => sI_o (by decide)) (Nat.le_refl _), p3, Or.inl (j4.keX (by decide))⟩
      · subst j4
        obtain ⟨σ3, μ3, l1, l2, l3, l4, l5, l6⟩ := ih (i + 1) q q' m2 σ2 μ2 tk3 b3 a3 L C (by omega) (by omega) (by omega) j5 j6 (by omega) j8 hL
        refine ⟨σ3, μ3, l1, (j11 _ _).trans l2, p1.tr l3, p2.tr l4 (Nat.le_refl _), p3.tr l5, ?_⟩
        rcases l6 with l6 | ⟨m', tk', b', a', l6, l7, l8, l9, l10, l11, l12, l13⟩
        · exact Or.inl l6
        · exact Or.inr ⟨m', tk', b', a', l6, l7, l8, by omega, l10, l11, ((lexX_rdX k5).sa.tr j2.sa).tr l12, ((lexM_rdM k6).sc.tr j3.sc).tr l13⟩
    · have hne : ¬ σ.1 117 0 0 0 = 44 := fun z => by
        unfold fReader_isSign at e2
        rw [if_pos g.f0, if_pos (show σ.1 117 0 0 0 = nI 44 from z)] at e2
        exact absurd e2 (by decide)
      refine ⟨sI σ 4 t 0 0 (nI m), sI μ 240 0 0 (24 * t + k) (nI m), ?_, ?_, TFX.s (by decide), fun j _ => sI_o (by decide), RM.s (by decide), Or.inr ⟨m, tk, b, a, h4, h5, (g.wX (by decide)).wM (by decide), Nat.le_refl _, sI_s .., sI_s .., SameA.s, SameC.s (by decide)⟩⟩
      · rw [eX, if_neg hne, w46 m σ g.ps.tX]
      · unfold mMore
        rw [show fM_isSign N 44 μ = some 0 from e3, bn1_e, if_pos rfl]
        show (if μ.1 255 0 0 0 = 0 then (if (0 : Int32) = 0 then fM_readTrades_136 N (nI (24 * t + k)) (nI m) μ else _) else _) = _
        rw [if_pos g.g0, if_pos rfl]
        unfold fM_readTrades_136
        rw [chk_t (inb_n (by omega) (by decide)), nmx, nI_clamp (by omega)]
theorem ins_e {N n t k : Nat} {tp : Nat → Nat} {σ μ : St} {tk : Tok} {b a L C : Nat} (hN : 2000 ≤ N) (hk : k < 24) (g : GS tp n t σ μ tk b a L C) (hL : L ≤ 600) :
    ∃ σ' μ', fReader_readInsured N σ = some σ' ∧ fM_readTrades N (nI (24 * t + k)) μ = some μ' ∧ TFX t σ σ' ∧ CK t L σ σ' ∧ RM t k C μ μ' ∧ (BS t σ' μ' ∨ ∃ m' tk' b' a', 1 ≤ m' ∧ m' < 256 ∧ GS tp n t σ' μ' tk' b' a' L C ∧ b ≤ b' ∧ σ'.1 4 t 0 0 = nI m' ∧ μ'.1 240 0 0 (24 * t + k) = nI m' ∧ SameA t 4 σ σ' ∧ SameC (24 * t + k) (fun f => decide (f = 240)) μ μ') := by
  have ht := g.ps.ht
  obtain ⟨r, σ2, μ2, j1, j2, j3, j4⟩ := trade_e (m := 0) hN (by decide) g hL
  have x1 : fReader_readInsured N σ = fReader_readInsured_8 N N r 0 σ2 := by
    unfold fReader_readInsured
    rw [show fReader_readTrade N 0 σ = some (r, σ2) from j1, bnd_e]
  obtain ⟨M, hM⟩ : ∃ q, N = q + 1 := ⟨N - 1, by omega⟩
  have x2 : fM_readTrades N (nI (24 * t + k)) μ = mTr N (fM_readTrades_4 N M) (nI (24 * t + k)) (nI 0) μ := by
    have : fM_readTrades_4 N (M + 1) (nI (24 * t + k)) 0 1 μ = mTr N (fM_readTrades_4 N M) (nI (24 * t + k)) (nI 0) μ := by
      show (if μ.1 255 0 0 0 = 0 then (if (1 : Int32) = 0 then _ else _) else _) = _
      rw [if_pos g.g0, if_neg (by decide)]
      rfl
    rw [← this, ← hM]
    rfl
  rw [x1, x2]
  rcases j4 with ⟨j4, j5⟩ | ⟨m2, tk3, b3, a3, j4, j5, j6, j7, j8, j9, j10, j11⟩
  · have z : fReader_readInsured_8 N (M + 1) r 0 σ2 = some (sI σ2 4 t 0 0 r) := by
      show (if (8 : Int32) ≤ 0 then _ else if σ2.1 113 0 0 0 = 0 then _ else fReader_readInsured_46 N r σ2) = _
      rw [if_neg (by decide), if_neg j4.x]
      unfold fReader_readInsured_46
      rw [j4.tX, chk_t (inb_n ht (by decide)), nmx, nI_clamp (by omega)]
    rw [← hM] at z
    exact ⟨_, μ2, z, j5 _ _, j2.tX.tr (TFX.s (by decide)), (j2.ck (L := L) (by decide)).tr (fun j _ => sI_o (by decide)) (Nat.le_refl _), j3.rm, Or.inl (j4.keX (by decide))⟩
  · subst j4
    have h0 : pc 0 = 0 := by decide
    obtain ⟨σ3, μ3, l1, l2, l3, l4, l5, l6⟩ := ins_loop (k := k) hN hk 8 0 N M m2 σ2 μ2 tk3 b3 a3 L C (by omega) (by omega) (by omega) j5 j6 (by omega) j8 hL
    refine ⟨σ3, μ3, l1, (j11 _ _).trans l2, j2.tX.tr l3, (j2.ck (L := L) (by decide)).tr l4 (Nat.le_refl _), j3.rm.tr l5, ?_⟩
    rcases l6 with l6 | ⟨m', tk', b', a', l6, l7, l8, l9, l10, l11, l12, l13⟩
    · exact Or.inl l6
    · exact Or.inr ⟨m', tk', b', a', l6, l7, l8, by omega, l10, l11, j2.sa.tr l12, j3.sc.tr l13⟩
theorem r179_B {N t k C : Nat} {σ μ : St} (h : BS t σ μ) (hk : k < 24) : ∃ μ', fM_readClause_179 N (nI (24 * t + k)) μ = some μ' ∧ fM_readClause_246 N (nI (24 * t + k)) μ = some μ' ∧ BS t σ μ' ∧ RM t k C μ μ' := by
  have ht := h.ht
  have h2 : BS t σ (sI μ 241 0 0 (24 * t + k) 0) := h.keM (by decide)
  obtain ⟨-, t2, t3⟩ := tail_B (N := N) (k := k) h2 hk
  refine ⟨_, ?_, ?_, t3, (RM.s (by decide)).tr (RM.s (by decide))⟩
  · unfold fM_readClause_179
    rw [h.numM, bnd_e, chk_t (inb_n (by omega) (by decide)), nmx, nI_clamp (by omega), t2]
  · unfold fM_readClause_246
    rw [h.numM, bnd_e, chk_t (inb_n (by omega) (by decide)), nmx, nI_clamp (by omega), t2]
theorem parI_v {w : List Nat} : (∃ k, k < 8 ∧ valI w = nI k ∧ fidx 0 PARL w = nI k) ∨ ((valI w < 0 ∨ ¬ valI w < 8) ∧ fidx 0 PARL w = -1) := by
  unfold valI
  by_cases c : fidx 0 FACTL w = -1
  · rw [if_pos c]
    by_cases c2 : w ∈ PARL
    · obtain ⟨j, -, h2, h3, -⟩ := fidx_ge PARL 0 (by decide +kernel) c2
      have : j < 8 := h2
      exact Or.inl ⟨j, by omega, h3, h3⟩
    · have := (fidx_no PARL 0 (by decide +kernel)).mpr c2
      exact Or.inr ⟨Or.inl (by rw [this]; decide), this⟩
  · rw [if_neg c]
    have c2 : w ∈ FACTL := by
      apply Classical.byContradiction
      intro q
      exact c ((fidx_no FACTL 0 (by decide +kernel)).mpr q)
    obtain ⟨j, -, h2, h3, h4⟩ := fidx_ge FACTL 0 (by decide +kernel) c2
    have hj : j < 12 := h2
    refine Or.inr ⟨Or.inr ?_, ?_⟩
    · rw [h3, show (8 : Int32) = nI 8 from rfl, nI_add]
      exact nI_nlt (by omega) (by omega)
    · refine (fidx_no PARL 0 (by decide +kernel)).mpr ?_
      rw [← h4]
      have : ∀ j, j < 12 → ¬ FACTL.getD j [] ∈ PARL := by decide +kernel
      exact this j hj
def mSet (N y : Nat) (μ : St) : Option St := bn1 (fM_paramNow N μ) fun r14 => nm (sI μ 240 0 0 y r14) fun (σ15 : St) => if (σ15.1 255 0 0 0) = 0 then (if (σ15.1 240 0 0 y) = (-1) then (if (σ15.1 250 0 0 0) = 1 then fM_readClause_165 N (nI y) 3 σ15 else fM_readClause_165 N (nI y) 1 σ15) else fM_readClause_168 N (nI y) σ15) else fM_readClause_168 N (nI y) σ15
theorem set_e {N n t k : Nat} {tp : Nat → Nat} {σ μ : St} {tk : Tok} {b a L C : Nat} (hN : 2000 ≤ N) (hk : k < 24) (g : GS tp n t σ μ tk b a L C) (hL : L ≤ 600) :
    ∃ σ' μ', (bn1 (fReader_readParam N σ) fun σ4 => fReader_readClause_114 N σ4) = some σ' ∧ mSet N (24 * t + k) μ = some μ' ∧ TFX t σ σ' ∧ CK t L σ σ' ∧ RM t k C μ μ' ∧ (BS t σ' μ' ∨ ∃ p v tk' b' a', p < 8 ∧ v < 100000 ∧ GS tp n t σ' μ' tk' b' a' L C ∧ b ≤ b' ∧ σ'.1 3 t 0 p = nI v ∧ (∀ i, i ≠ p → σ'.1 3 t 0 i = σ.1 3 t 0 i) ∧ SameA t 3 σ σ' ∧ μ'.1 240 0 0 (24 * t + k) = nI p ∧ μ'.1 241 0 0 (24 * t + k) = nI v ∧ μ'.1 239 0 0 (24 * t + k) = μ.1 239 0 0 (24 * t + k)) := by
  have ht := g.ps.ht
  have h1 := g.ps.kX
  have h2 := g.ps.kM
  -- a fault told at the parameter
  have flt : ∀ q : Nat, 1 ≤ q ∧ q ≤ 4 → fReader_readParam N σ = (bn1 (fReader_fail N (nI q) σ) fun σ6 => some σ6) → fM_paramNow N μ = some (-1) → (if μ.1 250 0 0 0 = 1 then (3 : Int32) else 1) = nI q → ∃ σ' μ', (bn1 (fReader_readParam N σ) fun σ4 => fReader_readClause_114 N σ4) = some σ' ∧ mSet N (24 * t + k) μ = some μ' ∧ TFX t σ σ' ∧ CK t L σ σ' ∧ RM t k C μ μ' ∧ BS t σ' μ' := by
    intro q hq e1 e2 e3
    have g2 : GS tp n t σ (sI μ 240 0 0 (24 * t + k) (-1)) tk b a L C := g.wM (by decide)
    obtain ⟨σ1, μ1, k1, k2, k3, k4, k5⟩ := rfail_e (N := N) (k := q) g2 hL hq
    obtain ⟨μ2, j1, -, j3, j4⟩ := r179_B (N := N) (C := C) k3 hk
    have tb := tail_B (N := N) (k := k) k3 hk
    refine ⟨σ1, μ2, ?_, ?_, (k4.mono flt_rdX).tX, (k4.mono flt_rdX).ck (by decide), ((RM.s (by decide)).tr (k5.mono flt_rdM).rm).tr j4, j3⟩
    · rw [e1, k1, bn1_e, bn1_e, tb.1]
    · unfold mSet
      rw [e2, bn1_e, nmx, if_pos g2.g0, sI_s, if_pos rfl]
      have w : ∀ s1 : Int32, s1 = nI q → fM_readClause_165 N (nI (24 * t + k)) s1 (sI μ 240 0 0 (24 * t + k) (-1)) = some μ2 := by
        rintro _ rfl
        unfold fM_readClause_165 fM_readClause_168
        rw [k2, bn1_e, if_neg k3.y, j1]
      show (if μ.1 250 0 0 0 = 1 then _ else _) = _
      by_cases c : μ.1 250 0 0 0 = 1
      · rw [if_pos c] at e3 ⊢
        exact w 3 e3
      · rw [if_neg c] at e3 ⊢
        exact w 1 e3
  have flt2 : ∀ q : Nat, 1 ≤ q ∧ q ≤ 4 → fReader_readParam N σ = (bn1 (fReader_fail N (nI q) σ) fun σ6 => some σ6) → fM_paramNow N μ = some (-1) → (if μ.1 250 0 0 0 = 1 then (3 : Int32) else 1) = nI q → ∃ σ' μ', (bn1 (fReader_readParam N σ) fun σ4 => fReader_readClause_114 N σ4) = some σ' ∧ mSet N (24 * t + k) μ = some μ' ∧ TFX t σ σ' ∧ CK t L σ σ' ∧ RM t k C μ μ' ∧ (BS t σ' μ' ∨ ∃ p v tk' b' a', p < 8 ∧ v < 100000 ∧ GS tp n t σ' μ' tk' b' a' L C ∧ b ≤ b' ∧ σ'.1 3 t 0 p = nI v ∧ (∀ i, i ≠ p → σ'.1 3 t 0 i = σ.1 3 t 0 i) ∧ SameA t 3 σ σ' ∧ μ'.1 240 0 0 (24 * t + k) = nI p ∧ μ'.1 241 0 0 (24 * t + k) = nI v ∧ μ'.1 239 0 0 (24 * t + k) = μ.1 239 0 0 (24 * t + k)) := by
    intro q a1 a2 a3 a4
    obtain ⟨σ', μ', q1, q2, q3, q4, q5, q6⟩ := flt q a1 a2 a3 a4
    exact ⟨σ', μ', q1, q2, q3, q4, q5, Or.inl q6⟩
  have nt : σ.1 117 0 0 0 ≠ 1 → fReader_readParam N σ = (bn1 (fReader_fail N (nI 1) σ) fun σ6 => some σ6) := fun e => by
    unfold fReader_readParam
    rw [nmx, if_neg e]
    rfl
  rcases tk.cs with rfl | ⟨w, rfl⟩ | ⟨l, v, rfl⟩ | rfl | ⟨d, rfl⟩
  · have e2 : μ.1 250 0 0 0 ≠ 1 := by rw [show μ.1 250 0 0 0 = 0 from h2]; decide
    exact flt2 1 (by decide) (nt (by rw [show σ.1 117 0 0 0 = 0 from h1]; decide)) (par_no (by omega) (Or.inr e2)) (by rw [if_neg e2]; rfl)
  · rcases parI_v (w := w) with ⟨p, hp, v1, v2⟩ | ⟨v1, v2⟩
    · have hba := g.lt nofun
      have g2 : GS tp n t σ (sI μ 240 0 0 (24 * t + k) (nI p)) (Tok.word w) b a L C := g.wM (by decide)
      obtain ⟨tk2, b2, a2, σ1, μ1, k1, k2, k3, k4, k5, k6⟩ := rstep_e hN g2
      obtain ⟨r, r', σ2, μ2, j1, j2, j3, j4, j5⟩ := gnum_e hN k3 hL
      have p1 : Fx rdX σ σ2 := (lexX_rdX k5).tr j3
      have p2 : RM t k C μ μ2 := ((RM.s (by decide)).tr (lexM_rdM k6).rm).tr j4.rm
      have hp8 : nI p < 8 := nI_lt (b := 8) hp (by omega)
      have x1 : fReader_readParam N σ = some (sI σ2 3 t 0 p r) := by
        unfold fReader_readParam fReader_readParam_31
        rw [nmx, if_pos h1.1, h1.2.2, v1, if_neg (nI_pos (by omega)), if_pos hp8, k1, bn1_e, k3.ps.tX, chk_t (inb_n ht (by decide)), j1, bnd_e, chk_t (inb_n hp (by decide)), nmx, nI_clamp (by omega), nI_clamp (by omega)]
      have x2 : mSet N (24 * t + k) μ = (bnd (fM_readNumber N μ1) fun r1 σ2 => chk (inb (nI (24 * t + k)) 408) (nm (sI σ2 241 0 0 (nI (24 * t + k)).toNatClampNeg r1) fun (σ3 : St) => fM_readClause_278 N (nI (24 * t + k)) σ3)) := by
        unfold mSet
        rw [(valNow_e (by omega) g).1, v2, bn1_e, nmx, if_pos g2.g0, sI_s, if_neg (m1_ne (by omega))]
        unfold fM_readClause_168 fM_readClause_179
        rw [if_pos g2.g0, k2, bn1_e]
      rw [x1, x2, bn1_e, j2, bnd_e, chk_t (inb_n (by omega) (by decide)), nmx, nI_clamp (by omega)]
      rcases j5 with j5 | ⟨v', tk3, b3, a3, hv, rfl, rfl, -, j6, j7⟩
      · have b2 : BS t (sI σ2 3 t 0 p r) (sI μ2 241 0 0 (24 * t + k) r') := (j5.keX (by decide)).keM (by decide)
        obtain ⟨t1, t2, t3⟩ := tail_B (N := N) (k := k) b2 hk
        exact ⟨_, _, t1, t2, p1.tX.tr (TFX.s (by decide)), (p1.ck (L := L) (by decide)).tr (fun j _ => sI_o (by decide)) (Nat.le_refl _), (p2.tr (RM.s (by decide))).tr (RM.s (by decide)), Or.inl t3⟩
      · have g3 : GS tp n t (sI σ2 3 t 0 p (nI v')) (sI μ2 241 0 0 (24 * t + k) (nI v')) tk3 b3 a3 L C := (j6.wX (by decide)).wM (by decide)
        obtain ⟨σ4, μ4, t1, t2, t3, t4, t5⟩ := tail_G (k := k) hN g3 hL hk
        refine ⟨σ4, μ4, t1, t2, (p1.tX.tr (TFX.s (by decide))).tr t3.tX, ((p1.ck (L := L) (by decide)).tr (fun j _ => sI_o (by decide)) (Nat.le_refl _)).tr (t3.ck (L := L) (by decide)) (Nat.le_refl _), ((p2.tr (RM.s (by decide))).tr (RM.s (by decide))).tr t4.rm, ?_⟩
        rcases t5 with t5 | ⟨tk4, b4, a4, t5, t6, t7⟩
        · exact Or.inl t5
        · refine Or.inr ⟨p, v', tk4, b4, a4, hp, hv, t5, by omega, ?_, ?_, ?_, ?_, ?_, ?_⟩
          · rw [t3.1 _ _ _ _ (by decide), sI_s]
          · intro i hi
            rw [t3.1 _ _ _ _ (by decide), sI_i hi, p1.1 _ _ _ _ (by decide)]
          · exact (p1.sa.tr SameA.s).tr t3.sa
          · rw [t4.1 _ _ _ _ (by decide), sI_o (by decide), sI_o (by decide), j4.1 _ _ _ _ (by decide), k6.1 _ _ _ _ (by decide), sI_s]
          · rw [t4.1 _ _ _ _ (by decide), sI_o (by decide), sI_s]
          · rw [t4.1 _ _ _ _ (by decide), sI_o (by decide), sI_o (by decide), j4.1 _ _ _ _ (by decide), k6.1 _ _ _ _ (by decide), sI_o (by decide)]
    · have e2 : μ.1 250 0 0 0 = 1 := h2.1
      refine flt2 3 (by decide) ?_ ?_ (by rw [if_pos e2]; rfl)
      · unfold fReader_readParam fReader_readParam_31
        rw [nmx, if_pos h1.1, h1.2.2]
        by_cases c : valI w < 0
        · rw [if_pos c]
          rfl
        · rw [if_neg c, if_neg (v1.resolve_left c)]
          rfl
      · rw [(valNow_e (by omega) g).1, v2]
  · have e2 : μ.1 250 0 0 0 ≠ 1 := by rw [h2.1]; decide
    exact flt2 1 (by decide) (nt (by rw [h1.1]; decide)) (par_no (by omega) (Or.inr e2)) (by rw [if_neg e2]; rfl)
  · have e2 : μ.1 250 0 0 0 ≠ 1 := by rw [show μ.1 250 0 0 0 = 4 from h2]; decide
    exact flt2 1 (by decide) (nt (by rw [show σ.1 117 0 0 0 = 3 from h1]; decide)) (par_no (by omega) (Or.inr e2)) (by rw [if_neg e2]; rfl)
  · have hd := sn_lt h1.1
    have e2 : μ.1 250 0 0 0 ≠ 1 := by rw [h2.1]; decide
    exact flt2 1 (by decide) (nt (by rw [h1.2]; exact fun q => by have := (nI_eq (b := 1) (by omega) (by omega)).mp q; omega)) (par_no (by omega) (Or.inr e2)) (by rw [if_neg e2]; rfl)
