/-! clauses with expressions: what the act keeps -/
theorem bn1_ite {α β : Type} {c : Prop} [Decidable c] (x y : Option α) (k : α → Option β) : bn1 (if c then x else y) k = if c then bn1 x k else bn1 y k := by
  by_cases h : c
  · rw [if_pos h, if_pos h]
  · rw [if_neg h, if_neg h]
theorem bn1_chk {α β : Type} {c : Prop} [Decidable c] (x : Option α) (k : α → Option β) : bn1 (chk c x) k = chk c (bn1 x k) := by
  unfold chk
  by_cases h : c
  · rw [if_pos h, if_pos h]
  · rw [if_neg h, if_neg h]
    rfl
theorem worthX {N : Nat} {x : Int32} {σ : St} : fReader_readWorth N x σ = chk (inb (σ.1 121 0 0 0) 17) (bn1 (xUnl N σ) fun σ2 => fReader_readWorth_40 N x (σ.1 2 (σ.1 121 0 0 0).toNatClampNeg 0 0) σ2) := by
  unfold fReader_readWorth xUnl
  simp only [bn1_as, bn1_ite, bn1_chk, bn1_e, nmx]
def WX (t w s : Nat) (x : Int32) (σ σ' : St) : Prop := (∀ f a b i, ¬ ((5 ≤ f ∧ f ≤ 9) ∧ a = t) → σ'.1 f a b i = σ.1 f a b i) ∧ σ'.2 = σ.2 ∧ (w = 2 → σ'.1 5 t 0 0 = x ∧ SameA t 5 σ σ') ∧ (w = 3 → σ'.1 6 t 0 0 = x ∧ SameA t 6 σ σ') ∧ (w = 4 → σ'.1 7 t 0 0 = x ∧ SameA t 7 σ σ') ∧
  (w = 5 → σ'.1 8 t 0 s = x ∧ (∀ i, i ≠ s → σ'.1 8 t 0 i = σ.1 8 t 0 i) ∧ σ'.1 9 t 0 0 = nI (s + 1) ∧ ∀ f i, 3 ≤ f → f ≤ 12 → f ≠ 8 → f ≠ 9 → σ'.1 f t 0 i = σ.1 f t 0 i)
theorem w40_e {N t w s : Nat} {x : Int32} {σ1 σ2 : St} (hw : 2 ≤ w ∧ w ≤ 5) (ht : t < 17) (h1 : σ1.1 121 0 0 0 = nI t) (he : fAct_emit N t (-1) σ1 = some σ2) (h2 : σ2.1 121 0 0 0 = nI t) (hs : σ2.1 9 t 0 0 = nI s) (hs2 : s < 24) : ∃ σ3, fReader_readWorth_40 N (nI w) x σ1 = some σ3 ∧ WX t w s x σ2 σ3 := by
  unfold fReader_readWorth_40
  rw [h1, chk_t (inb_n ht (by decide)), nI_clamp (by omega), he, bn1_e]
  rcases (by omega : w = 2 ∨ w = 3 ∨ w = 4 ∨ w = 5) with rfl | rfl | rfl | rfl
  · rw [if_pos (by decide), h2, chk_t (inb_n ht (by decide)), nmx, nI_clamp (by omega)]
    refine ⟨_, rfl, fun f a b i q => by rw [sI_1, if_neg (fun z => q ⟨by omega, z.2.1⟩)], rfl, fun _ => ⟨sI_s .., SameA.s⟩, fun q => absurd q (by decide), fun q => absurd q (by decide), fun q => absurd q (by decide)⟩
  · rw [if_neg (by decide), if_pos (by decide), h2, chk_t (inb_n ht (by decide)), nmx, nI_clamp (by omega)]
    refine ⟨_, rfl, fun f a b i q => by rw [sI_1, if_neg (fun z => q ⟨by omega, z.2.1⟩)], rfl, fun q => absurd q (by decide), fun _ => ⟨sI_s .., SameA.s⟩, fun q => absurd q (by decide), fun q => absurd q (by decide)⟩
  · rw [if_neg (by decide), if_neg (by decide), if_pos (by decide), h2, chk_t (inb_n ht (by decide)), nmx, nI_clamp (by omega)]
    refine ⟨_, rfl, fun f a b i q => by rw [sI_1, if_neg (fun z => q ⟨by omega, z.2.1⟩)], rfl, fun q => absurd q (by decide), fun q => absurd q (by decide), fun _ => ⟨sI_s .., SameA.s⟩, fun q => absurd q (by decide)⟩
  · rw [if_neg (by decide), if_neg (by decide), if_neg (by decide), h2, chk_t (inb_n ht (by decide)), nI_clamp (by omega)]
    unfold fAct_addSuit
    rw [hs, if_neg (show ¬ (24 : Int32) ≤ nI s from nI_ge (a := s) (b := 24) hs2 (by omega)), chk_t (inb_n hs2 (by decide)), nmx, nmx, nI_clamp (by omega), bn1_e, sI_o (by decide), hs, nI_1]
    refine ⟨_, rfl, fun f a b i q => by rw [sI_1, if_neg (fun z => q ⟨by omega, z.2.1⟩), sI_1, if_neg (fun z => q ⟨by omega, z.2.1⟩)], rfl, fun q => absurd q (by decide), fun q => absurd q (by decide), fun q => absurd q (by decide), fun _ => ⟨?_, ?_, sI_s .., ?_⟩⟩
    · rw [sI_o (by decide), sI_s]
    · intro i hi
      rw [sI_o (by decide), sI_i hi]
    · intro f i _ _ q1 q2
      rw [sI_o q2, sI_o q1]
theorem WX.gs {tp : Nat → Nat} {n t w s : Nat} {x : Int32} {σ σ' μ : St} {tk : Tok} {b a L C : Nat} (h : WX t w s x σ σ') (g : GS tp n t σ μ tk b a L C) : GS tp n t σ' μ tk b a L C := g.mv (fun f i h1 h2 => h.1 f 0 0 i (by omega)) (h.1 _ _ _ _ (by omega)) (fun _ _ _ _ => rfl)
theorem WX.bs {t w s : Nat} {x : Int32} {σ σ' μ : St} (h : WX t w s x σ σ') (g : BS t σ μ) : BS t σ' μ := g.mv (fun f i h1 h2 => h.1 f 0 0 i (by omega)) (h.1 _ _ _ _ (by omega)) (fun _ _ _ _ => rfl)
theorem WX.tX {t w s : Nat} {x : Int32} {σ σ' : St} (h : WX t w s x σ σ') : TFX t σ σ' := ⟨fun f a b i _ e => h.1 f a b i (fun q => e ⟨by omega, q.2⟩), h.2.1⟩
theorem WX.ck {t w s L : Nat} {x : Int32} {σ σ' : St} (h : WX t w s x σ σ') : CK t L σ σ' := fun j _ => h.1 _ _ _ _ (by omega)
theorem WX.tr {t w s : Nat} {x : Int32} {σ0 σ σ' σ'' : St} (h0 : PFX t σ0 σ) (h : WX t w s x σ σ') (h2 : Fx rdX σ' σ'') :
    (w = 2 → σ''.1 5 t 0 0 = x ∧ SameA t 5 σ0 σ'') ∧ (w = 3 → σ''.1 6 t 0 0 = x ∧ SameA t 6 σ0 σ'') ∧ (w = 4 → σ''.1 7 t 0 0 = x ∧ SameA t 7 σ0 σ'') ∧
  (w = 5 → σ''.1 8 t 0 s = x ∧ (∀ i, i ≠ s → σ''.1 8 t 0 i = σ0.1 8 t 0 i) ∧ σ''.1 9 t 0 0 = nI (s + 1) ∧ ∀ f i, 3 ≤ f → f ≤ 12 → f ≠ 8 → f ≠ 9 → σ''.1 f t 0 i = σ0.1 f t 0 i) := by
  obtain ⟨-, -, h3, h4, h5, h6⟩ := h
  refine ⟨fun q => ⟨(h2.1 _ _ _ _ (by decide)).trans (h3 q).1, (h0.sa.tr (h3 q).2).tr h2.sa⟩, fun q => ⟨(h2.1 _ _ _ _ (by decide)).trans (h4 q).1, (h0.sa.tr (h4 q).2).tr h2.sa⟩, fun q => ⟨(h2.1 _ _ _ _ (by decide)).trans (h5 q).1, (h0.sa.tr (h5 q).2).tr h2.sa⟩, fun q => ⟨(h2.1 _ _ _ _ (by decide)).trans (h6 q).1, fun i hi => ?_, (h2.1 _ _ _ _ (by decide)).trans (h6 q).2.2.1, fun f i a1 a2 a3 a4 => ?_⟩⟩
  · rw [h2.1 _ _ _ _ (by decide), (h6 q).2.1 i hi, h0.o _ _ _ _ (by decide) (by omega)]
  · rw [h2.1 f t 0 i (by simp [rdX, lexX]; omega), (h6 q).2.2.2 f i a1 a2 a3 a4, h0.o f t 0 i (by simp [rdX, lexX]; omega) (by omega)]
theorem worth_e {N n t k w s : Nat} {tp : Nat → Nat} {σ μ : St} {tk : Tok} {b a L C : Nat} (hN : 2000 ≤ N) (hk : k < 24) (hw : 2 ≤ w ∧ w ≤ 5) (hs : σ.1 9 t 0 0 = nI s) (hs2 : s < 24) (g : GS tp n t σ μ tk b a L C) (hL : L + 1 ≤ b) (hC : 2 * C + 3 ≤ 3 * b) :
    ∃ σ' μ', (bn1 (fReader_readWorth N (nI w) σ) fun σ6 => fReader_readClause_114 N σ6) = some σ' ∧ (bn1 (mUnl N (24 * t + k) μ) fun μ1 => fM_readClause_278 N (nI (24 * t + k)) μ1) = some μ' ∧ TFX t σ σ' ∧ RM t k C μ μ' ∧ (BS t σ' μ' ∨ CK t L σ σ' ∧ ∃ (tk' : Tok) (b' a' : Nat) (e : Ex) (u : Option Ex), GS tp n t σ' μ' tk' b' a' (L + (e.cX ++ (uX u ++ [-1])).length) (C + e.cM.length + (uM u).length) ∧ b ≤ b' ∧ L + (e.cX ++ (uX u ++ [-1])).length ≤ b' ∧ 2 * (C + e.cM.length + (uM u).length) ≤ 3 * b' ∧ e.ok ∧ e.hgt ≤ 31 ∧ (∀ d, u = some d → d.ok ∧ d.hgt ≤ 31) ∧
      At (fun j => σ'.1 1 t 0 j) L (e.cX ++ (uX u ++ [-1])) ∧ At (fun j => μ'.1 245 0 0 j) (1000 * t + C) e.cM ∧ At (fun j => μ'.1 245 0 0 j) (1000 * t + (C + e.cM.length)) (uM u) ∧ μ'.1 243 0 0 (24 * t + k) = nI (C + e.cM.length) ∧ μ'.1 244 0 0 (24 * t + k) = nI (C + e.cM.length + (uM u).length) ∧ SameC (24 * t + k) (fun f => decide (f = 243) || decide (f = 244)) μ μ' ∧
      (w = 2 → σ'.1 5 t 0 0 = nI L ∧ SameA t 5 σ σ') ∧ (w = 3 → σ'.1 6 t 0 0 = nI L ∧ SameA t 6 σ σ') ∧ (w = 4 → σ'.1 7 t 0 0 = nI L ∧ SameA t 7 σ σ') ∧
      (w = 5 → σ'.1 8 t 0 s = nI L ∧ (∀ i, i ≠ s → σ'.1 8 t 0 i = σ.1 8 t 0 i) ∧ σ'.1 9 t 0 0 = nI (s + 1) ∧ ∀ f i, 3 ≤ f → f ≤ 12 → f ≠ 8 → f ≠ 9 → σ'.1 f t 0 i = σ.1 f t 0 i)) := by
  have ht := g.ps.ht
  obtain ⟨σ1, μ1, i1, i2, i3, i4, i5⟩ := wexp_e (k := k) hN g hL hC
  rw [worthX, g.ps.tX, chk_t (inb_n ht (by decide)), nI_clamp (by omega), g.hL, i1, i2, bn1_e, bn1_e]
  have hs1 : σ1.1 9 t 0 0 = nI s := (i3.o _ _ _ _ (by decide) (by omega)).trans hs
  rcases i5 with i5 | ⟨i5, tk1, b1, a1, e, u, g1, c1, c2, c3, c4, c5, c6, c7, c8, c9, c10, c11⟩
  · obtain ⟨σ2, j1, j2, j3⟩ := i5.emX (N := N) (-1)
    obtain ⟨σ3, l1, l2⟩ := w40_e (w := w) (x := nI L) hw ht i5.tX j1 j2.tX ((j3.o _ _ _ _ (by decide) (by omega)).trans hs1) hs2
    obtain ⟨t1, t2, t3⟩ := tail_B (N := N) (k := k) (l2.bs j2) hk
    exact ⟨σ3, _, by rw [l1, bn1_e, t1], t2, ((i3.tr j3).t).tr l2.tX, i4.tr (RM.s (by decide)), Or.inl t3⟩
  · obtain ⟨n1, n2, n3⟩ := g1.ps.bn
    obtain ⟨σ3, l1, l2⟩ := w40_e (w := w) (x := nI L) hw ht g1.ps.tX (emX_e g1.hL (by omega) (-1)) ((sI_o (by decide)).trans ((sI_o (by decide)).trans g1.ps.tX)) ((sI_o (by decide)).trans ((sI_o (by decide)).trans hs1)) hs2
    have gE := l2.gs (g1.emX (-1))
    obtain ⟨σ4, μ4, t1, t2, t3, t4, t5⟩ := tail_G (k := k) hN gE (by omega) hk
    have pp : PFX t σ (sI (sI σ1 1 t 0 (L + (e.cX ++ uX u).length) (-1)) 2 t 0 0 (nI (L + (e.cX ++ uX u).length + 1))) := i3.tr PFX.em
    have ll : (e.cX ++ (uX u ++ [-1])).length = (e.cX ++ uX u).length + 1 := by simp only [List.length_append, List.length_cons, List.length_nil]; omega
    refine ⟨σ4, μ4, by rw [l1, bn1_e, t1], t2, (pp.t.tr l2.tX).tr t3.tX, (i4.tr (RM.s (by decide))).tr t4.rm, ?_⟩
    rcases t5 with t5 | ⟨tk4, b4, a4, t5, t6, t7⟩
    · exact Or.inl t5
    · refine Or.inr ⟨((i5.tr CK.em (by omega)).tr (l2.ck (L := L)) (Nat.le_refl _)).tr (t3.ck (L := L) (by decide)) (Nat.le_refl _), tk4, b4, a4, e, u, ?_, by omega, by omega, by omega, c4, c5, c6, ?_, ?_, ?_, ?_, ?_, ?_, l2.tr pp t3⟩
      · rw [ll]
        exact t5
      · rw [← List.append_assoc]
        refine (At_app _ _ _).mpr ⟨?_, ?_, trivial⟩
        · refine At_eq _ _ (fun j a1 a2 => ?_) c7
          try dsimp only
          rw [t3.1 _ _ _ _ (by decide), l2.1 _ _ _ _ (by omega), sI_o (by decide), sI_i (by omega)]
        · dsimp only
          rw [t3.1 _ _ _ _ (by decide), l2.1 _ _ _ _ (by omega), sI_o (by decide), sI_s]
      · exact At_eq _ _ (fun j a1 a2 => (t4.1 _ _ _ _ (by decide)).trans (sI_o (by decide))) c8
      · exact At_eq _ _ (fun j a1 a2 => (t4.1 _ _ _ _ (by decide)).trans (sI_o (by decide))) c9
      · rw [t4.1 _ _ _ _ (by decide), sI_o (by decide), c10]
      · rw [t4.1 _ _ _ _ (by decide), sI_s]
      · have z1 : SameC (24 * t + k) (fun f => decide (f = 243) || decide (f = 244)) μ μ1 := fun f q1 q2 q3 => c11 f q1 q2 (by simp at q3 ⊢; exact q3.1)
        exact (z1.tr (SameC.s (by decide))).tr t4.sc
/-! like -/
def mLike (N y : Nat) (μ : St) : Option St := bn1 (fM_readExpression N 8 0 μ) fun σ7 => nm (sI σ7 243 0 0 y (σ7.1 258 0 0 0)) fun (σ8 : St) => if (σ8.1 255 0 0 0) = 0 then bn1 (fM_is N 27 σ8) fun r12 => if r12 = 0 then bn1 (fM_wrong N 1 σ8) fun σ13 => fM_readClause_235 N (nI y) σ13 else fM_readClause_235 N (nI y) σ8 else fM_readClause_235 N (nI y) σ8
theorem BS.c235 {N t k C : Nat} {σ μ : St} (h : BS t σ μ) (hk : k < 24) : ∃ μ', fM_readClause_235 N (nI (24 * t + k)) μ = some μ' ∧ BS t σ μ' ∧ RM t k C μ μ' := by
  obtain ⟨μ', -, j2, j3, j4⟩ := r179_B (N := N) (C := C) h hk
  refine ⟨μ', ?_, j3, j4⟩
  unfold fM_readClause_235
  rw [if_neg h.y, j2]
theorem addL_e {N t s : Nat} {x y : Int32} {σ : St} (hs : σ.1 12 t 0 0 = nI s) (hs2 : s < 24) : fAct_addLike N t x y σ = some (sI (sI (sI σ 10 t 0 s x) 11 t 0 s y) 12 t 0 0 (nI (s + 1))) := by
  unfold fAct_addLike
  rw [hs, if_neg (show ¬ (24 : Int32) ≤ nI s from nI_ge (a := s) (b := 24) hs2 (by omega)), chk_t (inb_n hs2 (by decide)), nmx, nI_clamp (by omega), sI_o (by decide), hs, chk_t (inb_n hs2 (by decide)), nmx, nmx, nI_clamp (by omega), sI_o (by decide), sI_o (by decide), hs, nI_1]
theorem like_e {N n t k s : Nat} {tp : Nat → Nat} {σ μ : St} {tk : Tok} {b a L C : Nat} (hN : 2000 ≤ N) (hk : k < 24) (hs : σ.1 12 t 0 0 = nI s) (hs2 : s < 24) (g : GS tp n t σ μ tk b a L C) (hL : L + 1 ≤ b) (hC : 2 * C + 3 ≤ 3 * b) :
    ∃ σ' μ', (bn1 (fReader_readLike N σ) fun σ6 => fReader_readClause_114 N σ6) = some σ' ∧ mLike N (24 * t + k) μ = some μ' ∧ TFX t σ σ' ∧ RM t k C μ μ' ∧ (BS t σ' μ' ∨ CK t L σ σ' ∧ ∃ (tk' : Tok) (b' a' : Nat) (e : Ex) (v : Nat), GS tp n t σ' μ' tk' b' a' (L + (e.cX ++ [-1]).length) (C + e.cM.length) ∧ b ≤ b' ∧ L + (e.cX ++ [-1]).length ≤ b' ∧ 2 * (C + e.cM.length) ≤ 3 * b' ∧ e.ok ∧ e.hgt ≤ 31 ∧ v < 100000 ∧
      At (fun j => σ'.1 1 t 0 j) L (e.cX ++ [-1]) ∧ At (fun j => μ'.1 245 0 0 j) (1000 * t + C) e.cM ∧ μ'.1 243 0 0 (24 * t + k) = nI (C + e.cM.length) ∧ μ'.1 244 0 0 (24 * t + k) = nI (C + e.cM.length) ∧ μ'.1 241 0 0 (24 * t + k) = nI v ∧ SameC (24 * t + k) (fun f => decide (f = 243) || decide (f = 244) || decide (f = 241)) μ μ' ∧
      σ'.1 10 t 0 s = nI L ∧ σ'.1 11 t 0 s = nI v ∧ (∀ i, i ≠ s → σ'.1 10 t 0 i = σ.1 10 t 0 i ∧ σ'.1 11 t 0 i = σ.1 11 t 0 i) ∧ σ'.1 12 t 0 0 = nI (s + 1) ∧ ∀ f i, 3 ≤ f → f ≤ 9 → σ'.1 f t 0 i = σ.1 f t 0 i) := by
  have ht := g.ps.ht
  obtain ⟨σ1, μ1, i1, i2, i3, i4, i5⟩ := expr_e (n := n) (t := t) (tp := tp) hN σ μ tk b a L C g (by omega) (by omega)
  have eX : ∀ σ2, σ1.1 121 0 0 0 = nI t → fAct_emit N t (-1) σ1 = some σ2 → fReader_readLike N σ = bn1 (fReader_expectWord N 4 σ2) fun σ4 => if (σ4.1 113 0 0 0) = 0 then (bnd (fReader_readNumber N σ4) fun r5 σ6 => chk (inb (σ6.1 121 0 0 0) 17) (bn1 (fAct_addLike N ((σ6.1 121 0 0 0).toNatClampNeg) (nI L) r5 σ6) fun σ7 => some σ7)) else some σ4 := by
    intro σ2 q1 q2
    unfold fReader_readLike
    rw [g.ps.tX, chk_t (inb_n ht (by decide)), nmx, nI_clamp (by omega), g.hL, i1, bn1_e, q1, chk_t (inb_n ht (by decide)), nI_clamp (by omega), q2, bn1_e]
  have eM : mLike N (24 * t + k) μ = (fun σ8 : St => if (σ8.1 255 0 0 0) = 0 then bn1 (fM_is N 27 σ8) fun r12 => if r12 = 0 then bn1 (fM_wrong N 1 σ8) fun σ13 => fM_readClause_235 N (nI (24 * t + k)) σ13 else fM_readClause_235 N (nI (24 * t + k)) σ8 else fM_readClause_235 N (nI (24 * t + k)) σ8) (sI μ1 243 0 0 (24 * t + k) (μ1.1 258 0 0 0)) := by
    unfold mLike
    rw [i2, bn1_e, nmx]
  rw [eM]
  rcases i5 with i5 | ⟨i5, tk1, b1, a1, e, g1, q1, q2, q3, q4, q5, q6⟩
  · obtain ⟨σ2, j1, j2, j3⟩ := i5.emX (N := N) (-1)
    have h2 : BS t σ2 (sI μ1 243 0 0 (24 * t + k) (μ1.1 258 0 0 0)) := j2.keM (by decide)
    obtain ⟨μ3, l1, l2, l3⟩ := h2.c235 (N := N) (C := C) hk
    have tb := tail_B (N := N) (k := k) l2 hk
    refine ⟨σ2, μ3, ?_, ?_, (i3.tr j3).t, ((i4.rm (Nat.le_refl _)).tr (RM.s (by decide))).tr l3, Or.inl l2⟩
    · rw [eX σ2 i5.tX j1]
      unfold fReader_expectWord
      rw [j2.wX, bn1_e, if_pos rfl, j2.fail, bn1_e, bn1_e, if_neg j2.x, bn1_e, tb.1]
    · dsimp only
      rw [if_neg h2.y, l1]
  · obtain ⟨n1, n2, n3⟩ := g1.ps.bn
    have gE : GS tp n t (sI (sI σ1 1 t 0 (L + e.cX.length) (-1)) 2 t 0 0 (nI (L + e.cX.length + 1))) (sI μ1 243 0 0 (24 * t + k) (nI (C + e.cM.length))) tk1 b1 a1 (L + e.cX.length + 1) (C + e.cM.length) := (g1.emX (-1)).wM (by decide)
    have pp : PFX t σ (sI (sI σ1 1 t 0 (L + e.cX.length) (-1)) 2 t 0 0 (nI (L + e.cX.length + 1))) := i3.tr PFX.em
    have rr : RM t k C μ (sI μ1 243 0 0 (24 * t + k) (nI (C + e.cM.length))) := (i4.rm (Nat.le_refl _)).tr (RM.s (by decide))
    rw [eX _ g1.ps.tX (emX_e g1.hL (by omega) (-1)), g1.hC]
    dsimp only
    rw [if_pos gE.g0]
    unfold fReader_expectWord
    rcases gW_e (N := N) (k := 4) (ks := 27) (by omega) gE (by decide) (by decide) (by decide) with ⟨e1, e2, e3⟩ | ⟨e1, e2, e3⟩
    · have hba := gE.lt (by rw [e1]; nofun)
      obtain ⟨tk2, b2, a2, σ2, μ2, k1, k2, k3, k4, k5, k6⟩ := rstep_e hN gE
      obtain ⟨r, r', σ3, μ3, j1, j2, j3, j4, j5⟩ := gnum_e hN k3 (by omega)
      have hs3 : σ3.1 12 t 0 0 = nI s := by
        rw [j3.1 _ _ _ _ (by decide), k5.1 _ _ _ _ (by decide), sI_o (by decide), sI_o (by decide), i3.o _ _ _ _ (by decide) (by omega), hs]
      have act3 : σ3.1 121 0 0 0 = nI t := (j3.1 _ _ _ _ (by decide)).trans k3.ps.tX
      have x1 : (bn1 (bn1 (bn1 (fReader_isWord N 4 (sI (sI σ1 1 t 0 (L + e.cX.length) (-1)) 2 t 0 0 (nI (L + e.cX.length + 1)))) fun r1 => if r1 = 0 then bn1 (fReader_fail N 1 (sI (sI σ1 1 t 0 (L + e.cX.length) (-1)) 2 t 0 0 (nI (L + e.cX.length + 1)))) fun σ2 => some σ2 else bn1 (fReader_advance N (sI (sI σ1 1 t 0 (L + e.cX.length) (-1)) 2 t 0 0 (nI (L + e.cX.length + 1)))) fun σ3 => some σ3) fun σ4 => if (σ4.1 113 0 0 0) = 0 then (bnd (fReader_readNumber N σ4) fun r5 σ6 => chk (inb (σ6.1 121 0 0 0) 17) (bn1 (fAct_addLike N ((σ6.1 121 0 0 0).toNatClampNeg) (nI L) r5 σ6) fun σ7 => some σ7)) else some σ4) fun σ6 => fReader_readClause_114 N σ6) = fReader_readClause_114 N (sI (sI (sI σ3 10 t 0 s (nI L)) 11 t 0 s r) 12 t 0 0 (nI (s + 1))) := by
        rw [show fReader_isWord N 4 _ = some 1 from e2, bn1_e, if_neg (by decide), k1, bn1_e, bn1_e, if_pos k3.f0, j1, bnd_e, act3, chk_t (inb_n ht (by decide)), nI_clamp (by omega), addL_e hs3 hs2, bn1_e, bn1_e]
      rw [x1, e3, bn1_e, if_neg (by decide)]
      unfold fM_readClause_235 fM_readClause_246
      rw [if_pos gE.g0, k2, bn1_e, j2, bnd_e, chk_t (inb_n (by omega) (by decide)), nmx, nI_clamp (by omega)]
      have p3 : PFX t σ σ3 := (pp.tr (k5.pX lexX_rd)).tr (j3.pX (fun _ z => z))
      have r3 : RM t k C μ (sI μ3 241 0 0 (24 * t + k) r') := ((rr.tr (lexM_rdM k6).rm).tr j4.rm).tr (RM.s (by decide))
      have t3 : TFX t σ (sI (sI (sI σ3 10 t 0 s (nI L)) 11 t 0 s r) 12 t 0 0 (nI (s + 1))) := ((p3.t.tr (TFX.s (by decide))).tr (TFX.s (by decide))).tr (TFX.s (by decide))
      rcases j5 with j5 | ⟨v', tk3, b3, a3, hv, rfl, rfl, -, j6, j7⟩
      · have b2 : BS t (sI (sI (sI σ3 10 t 0 s (nI L)) 11 t 0 s r) 12 t 0 0 (nI (s + 1))) (sI μ3 241 0 0 (24 * t + k) r') := (((j5.keX (by decide)).keX (by decide)).keX (by decide)).keM (by decide)
        obtain ⟨t1, t2, t4⟩ := tail_B (N := N) (k := k) b2 hk
        exact ⟨_, _, t1, t2, t3, r3.tr (RM.s (by decide)), Or.inl t4⟩
      · have g3 : GS tp n t (sI (sI (sI σ3 10 t 0 s (nI L)) 11 t 0 s (nI v')) 12 t 0 0 (nI (s + 1))) (sI μ3 241 0 0 (24 * t + k) (nI v')) tk3 b3 a3 (L + e.cX.length + 1) (C + e.cM.length) := (((j6.wX (by decide)).wX (by decide)).wX (by decide)).wM (by decide)
        obtain ⟨σ4, μ4, t1, t2, t5, t6, t7⟩ := tail_G (k := k) hN g3 (by omega) hk
        refine ⟨σ4, μ4, t1, t2, t3.tr t5.tX, (r3.tr (RM.s (by decide))).tr t6.rm, ?_⟩
        rcases t7 with t7 | ⟨tk4, b4, a4, t7, t8, t9⟩
        · exact Or.inl t7
        · have ll : (e.cX ++ [-1]).length = e.cX.length + 1 := by simp
          have cd : ∀ j, σ4.1 1 t 0 j = (sI (sI σ1 1 t 0 (L + e.cX.length) (-1)) 2 t 0 0 (nI (L + e.cX.length + 1))).1 1 t 0 j := fun j => by
            rw [t5.1 _ _ _ _ (by decide), sI_o (by decide), sI_o (by decide), sI_o (by decide), j3.1 _ _ _ _ (by decide), k5.1 _ _ _ _ (by decide)]
          have md : ∀ f i, f = 243 ∨ f = 245 → μ4.1 f 0 0 i = (sI μ1 243 0 0 (24 * t + k) (nI (C + e.cM.length))).1 f 0 0 i := fun f i hf => by
            rcases hf with rfl | rfl <;> rw [t6.1 _ _ _ _ (by decide), sI_o (by decide), sI_o (by decide), j4.1 _ _ _ _ (by decide), k6.1 _ _ _ _ (by decide)]
          refine Or.inr ⟨fun j hj => ?_, tk4, b4, a4, e, v', ?_, by omega, by omega, by omega, q3, q4, hv, ?_, ?_, ?_, ?_, ?_, ?_, ?_, ?_, ?_, ?_, ?_⟩
          · rw [cd, sI_o (by decide), sI_i (by omega)]
            exact i5 j hj
          · rw [ll]
            exact t7
          · refine (At_app _ _ _).mpr ⟨?_, ?_, trivial⟩
            · refine At_eq _ _ (fun j a1 a2 => ?_) q5
              try dsimp only
              rw [cd, sI_o (by decide), sI_i (by omega)]
            · dsimp only
              rw [cd, sI_o (by decide), sI_s]
          · exact At_eq _ _ (fun j a1 a2 => (md _ _ (Or.inr rfl)).trans (sI_o (by decide))) q6
          · rw [md _ _ (Or.inl rfl), sI_s]
          · rw [t6.1 _ _ _ _ (by decide), sI_s]
          · rw [t6.1 _ _ _ _ (by decide), sI_o (by decide), sI_s]
          · refine ((((i4.sc.tr (SameC.s (by decide))).tr (lexM_rdM k6).sc).tr j4.sc).tr (SameC.s (by decide))).tr ((SameC.s (by decide)).tr t6.sc)
          · rw [t5.1 _ _ _ _ (by decide), sI_o (by decide), sI_o (by decide), sI_s]
          · rw [t5.1 _ _ _ _ (by decide), sI_o (by decide), sI_s]
          · intro i hi
            constructor
            · rw [t5.1 _ _ _ _ (by decide), sI_o (by decide), sI_o (by decide), sI_i hi, p3.o _ _ _ _ (by decide) (by omega)]
            · rw [t5.1 _ _ _ _ (by decide), sI_o (by decide), sI_i hi, sI_o (by decide), p3.o _ _ _ _ (by decide) (by omega)]
          · rw [t5.1 _ _ _ _ (by decide), sI_s]
          · intro f i a1 a2
            rw [t5.1 f t 0 i (by simp [rdX, lexX]; omega), sI_o (by omega), sI_o (by omega), sI_o (by omega), p3.o f t 0 i (by simp [rdX, lexX]; omega) (by omega)]
    · obtain ⟨σ2, μ2, k1, k2, k3, k4, k5⟩ := rfail_e (N := N) (k := 1) gE (by omega) (by omega)
      obtain ⟨μ3, l1, l2, l3⟩ := k3.c235 (N := N) (C := C) hk
      have tb := tail_B (N := N) (k := k) l2 hk
      refine ⟨σ2, μ3, ?_, ?_, (pp.tr (k4.pX flt_rdX)).t, (rr.tr (k5.mono flt_rdM).rm).tr l3, Or.inl l2⟩
      · rw [show fReader_isWord N 4 _ = some 0 from e2, bn1_e, if_pos rfl, show fReader_fail N 1 _ = some σ2 from k1, bn1_e, bn1_e, if_neg k3.x, bn1_e, tb.1]
      · rw [e3, bn1_e, if_pos rfl, show fM_wrong N 1 _ = some μ2 from k2, bn1_e, l1]
