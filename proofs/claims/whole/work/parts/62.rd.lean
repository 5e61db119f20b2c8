/-! reading: what both may write, and how faults stand -/
def rdX (f : Nat) : Bool := lexX f || decide (f = 112) || decide (f = 113)
def rdM (f : Nat) : Bool := lexM f || decide (f = 255) || decide (f = 256) || decide (f = 258)
abbrev PFX (t : Nat) (σ σ' : St) : Prop := (∀ f a b i, rdX f = false → ¬ ((f = 1 ∨ f = 2) ∧ a = t) → σ'.1 f a b i = σ.1 f a b i) ∧ (σ'.2 = σ.2)
theorem PFX.o {t : Nat} {σ σ' : St} (h : PFX t σ σ') : ∀ f a b i, rdX f = false → ¬ ((f = 1 ∨ f = 2) ∧ a = t) → σ'.1 f a b i = σ.1 f a b i := h.1
theorem PFX.s {t : Nat} {σ σ' : St} (h : PFX t σ σ') : σ'.2 = σ.2 := h.2
def CK (t L : Nat) (σ σ' : St) : Prop := ∀ j, j < L → σ'.1 1 t 0 j = σ.1 1 t 0 j
theorem CK.tr {t L L' : Nat} {σ σ' σ'' : St} (h : CK t L σ σ') (h2 : CK t L' σ' σ'') (hl : L ≤ L') : CK t L σ σ'' := fun j hj => (h2 j (by omega)).trans (h j hj)
theorem Fx.ck {t L : Nat} {σ σ' : St} {S : Nat → Bool} (h : Fx S σ σ') (h1 : S 1 = false) : CK t L σ σ' := fun j _ => h.1 _ _ _ _ h1
abbrev PFM (t C : Nat) (μ μ' : St) : Prop := (∀ f a b i, rdM f = false → f ≠ 245 → μ'.1 f a b i = μ.1 f a b i) ∧ (∀ j, j < 1000 * t + C → μ'.1 245 0 0 j = μ.1 245 0 0 j) ∧ (μ'.2 = μ.2)
theorem PFM.o {t C : Nat} {μ μ' : St} (h : PFM t C μ μ') : ∀ f a b i, rdM f = false → f ≠ 245 → μ'.1 f a b i = μ.1 f a b i := h.1
theorem PFM.c {t C : Nat} {μ μ' : St} (h : PFM t C μ μ') : ∀ j, j < 1000 * t + C → μ'.1 245 0 0 j = μ.1 245 0 0 j := h.2.1
theorem PFM.s {t C : Nat} {μ μ' : St} (h : PFM t C μ μ') : μ'.2 = μ.2 := h.2.2
theorem PFX.rf {t : Nat} {σ : St} : PFX t σ σ := ⟨fun _ _ _ _ _ _ => rfl, rfl⟩
theorem PFM.rf {t L : Nat} {σ : St} : PFM t L σ σ := ⟨fun _ _ _ _ _ _ => rfl, fun _ _ => rfl, rfl⟩
theorem PFX.tr {t : Nat} {σ σ' σ'' : St} (h : PFX t σ σ') (h2 : PFX t σ' σ'') : PFX t σ σ'' :=
  ⟨fun f a b i e e2 => (h2.o f a b i e e2).trans (h.o f a b i e e2), h2.s.trans h.s⟩
theorem PFM.tr {t L L' : Nat} {σ σ' σ'' : St} (h : PFM t L σ σ') (h2 : PFM t L' σ' σ'') (hl : L ≤ L') : PFM t L σ σ'' :=
  ⟨fun f a b i e e2 => (h2.o f a b i e e2).trans (h.o f a b i e e2), fun j hj => (h2.c j (by omega)).trans (h.c j hj), h2.s.trans h.s⟩
theorem Fx.pX {t : Nat} {σ σ' : St} {S : Nat → Bool} (h : Fx S σ σ') (hS : ∀ f, rdX f = false → S f = false) : PFX t σ σ' :=
  ⟨fun f a b i e _ => h.1 f a b i (hS f e), h.2⟩
theorem Fx.pM {t L : Nat} {σ σ' : St} {S : Nat → Bool} (h : Fx S σ σ') (hS : ∀ f, rdM f = false → S f = false) (h1 : S 245 = false) : PFM t L σ σ' :=
  ⟨fun f a b i e _ => h.1 f a b i (hS f e), fun j _ => h.1 _ _ _ _ h1, h.2⟩
theorem lexX_rd (f : Nat) (h : rdX f = false) : lexX f = false := by
  simp only [rdX, Bool.or_eq_false_iff] at h
  exact h.1.1
theorem lexM_rd (f : Nat) (h : rdM f = false) : lexM f = false := by
  simp only [rdM, Bool.or_eq_false_iff] at h
  exact h.1.1.1
abbrev GS (tp : Nat → Nat) (n t : Nat) (σ μ : St) (tk : Tok) (b a L C : Nat) : Prop := (PS tp n t σ μ tk b a) ∧ (σ.1 113 0 0 0 = 0) ∧ (μ.1 255 0 0 0 = 0) ∧ (σ.1 2 t 0 0 = nI L) ∧ (μ.1 258 0 0 0 = nI C) ∧ (σ.1 112 0 0 0 = -1)
theorem GS.ps {tp : Nat → Nat} {n t : Nat} {σ μ : St} {tk : Tok} {b a L C : Nat} (h : GS tp n t σ μ tk b a L C) : PS tp n t σ μ tk b a := h.1
theorem GS.f0 {tp : Nat → Nat} {n t : Nat} {σ μ : St} {tk : Tok} {b a L C : Nat} (h : GS tp n t σ μ tk b a L C) : σ.1 113 0 0 0 = 0 := h.2.1
theorem GS.g0 {tp : Nat → Nat} {n t : Nat} {σ μ : St} {tk : Tok} {b a L C : Nat} (h : GS tp n t σ μ tk b a L C) : μ.1 255 0 0 0 = 0 := h.2.2.1
theorem GS.hL {tp : Nat → Nat} {n t : Nat} {σ μ : St} {tk : Tok} {b a L C : Nat} (h : GS tp n t σ μ tk b a L C) : σ.1 2 t 0 0 = nI L := h.2.2.2.1
theorem GS.hC {tp : Nat → Nat} {n t : Nat} {σ μ : St} {tk : Tok} {b a L C : Nat} (h : GS tp n t σ μ tk b a L C) : μ.1 258 0 0 0 = nI C := h.2.2.2.2.1
theorem GS.p0 {tp : Nat → Nat} {n t : Nat} {σ μ : St} {tk : Tok} {b a L C : Nat} (h : GS tp n t σ μ tk b a L C) : σ.1 112 0 0 0 = -1 := h.2.2.2.2.2
/-- a fault is told -/
abbrev BS (t : Nat) (σ μ : St) : Prop := (σ.1 113 0 0 0 ≠ 0) ∧ (σ.1 113 0 0 0 = μ.1 255 0 0 0) ∧ (σ.1 112 0 0 0 = μ.1 256 0 0 0) ∧ (1 ≤ (μ.1 255 0 0 0).toInt ∧ (μ.1 255 0 0 0).toInt ≤ 4) ∧ (t < 17) ∧ (σ.1 121 0 0 0 = nI t) ∧ (μ.1 259 0 0 0 = nI t) ∧ (∃ L, L ≤ 600 ∧ σ.1 2 t 0 0 = nI L)
theorem BS.x {t : Nat} {σ μ : St} (h : BS t σ μ) : σ.1 113 0 0 0 ≠ 0 := h.1
theorem BS.xx {t : Nat} {σ μ : St} (h : BS t σ μ) : σ.1 113 0 0 0 = μ.1 255 0 0 0 := h.2.1
theorem BS.xp {t : Nat} {σ μ : St} (h : BS t σ μ) : σ.1 112 0 0 0 = μ.1 256 0 0 0 := h.2.2.1
theorem BS.xr {t : Nat} {σ μ : St} (h : BS t σ μ) : 1 ≤ (μ.1 255 0 0 0).toInt ∧ (μ.1 255 0 0 0).toInt ≤ 4 := h.2.2.2.1
theorem BS.ht {t : Nat} {σ μ : St} (h : BS t σ μ) : t < 17 := h.2.2.2.2.1
theorem BS.tX {t : Nat} {σ μ : St} (h : BS t σ μ) : σ.1 121 0 0 0 = nI t := h.2.2.2.2.2.1
theorem BS.tM {t : Nat} {σ μ : St} (h : BS t σ μ) : μ.1 259 0 0 0 = nI t := h.2.2.2.2.2.2.1
theorem BS.hL {t : Nat} {σ μ : St} (h : BS t σ μ) : ∃ L, L ≤ 600 ∧ σ.1 2 t 0 0 = nI L := h.2.2.2.2.2.2.2
theorem BS.y {t : Nat} {σ μ : St} (h : BS t σ μ) : μ.1 255 0 0 0 ≠ 0 := by
  rw [← h.xx]
  exact h.x
theorem rstep_e {N n t : Nat} {tp : Nat → Nat} {σ μ : St} {tk : Tok} {b a L C : Nat} (hN : 2000 ≤ N) (h : GS tp n t σ μ tk b a L C) :
    ∃ tk' b' a' σ' μ', fReader_advance N σ = some σ' ∧ fM_step N μ = some μ' ∧ GS tp n t σ' μ' tk' b' a' L C ∧ a ≤ b' ∧ Fx lexX σ σ' ∧ Fx lexM μ μ' := by
  obtain ⟨tk', b', a', σ', μ', h1, h2, h3, h4, h5, h6⟩ := step_e hN h.ps
  exact ⟨tk', b', a', σ', μ', h1, h2, ⟨h3, (h5.1 _ _ _ _ (by decide)).trans h.f0, (h6.1 _ _ _ _ (by decide)).trans h.g0, (h5.1 _ _ _ _ (by decide)).trans h.hL, (h6.1 _ _ _ _ (by decide)).trans h.hC, (h5.1 _ _ _ _ (by decide)).trans h.p0⟩, h4, h5, h6⟩
def fltX (f : Nat) : Bool := decide (f = 112) || decide (f = 113)
def fltM (f : Nat) : Bool := decide (f = 255) || decide (f = 256)
theorem flt_rdX (f : Nat) (h : rdX f = false) : fltX f = false := by
  simp only [rdX, fltX, Bool.or_eq_false_iff] at h ⊢
  exact ⟨h.1.2, h.2⟩
theorem flt_rdM (f : Nat) (h : rdM f = false) : fltM f = false := by
  simp only [rdM, fltM, Bool.or_eq_false_iff] at h ⊢
  exact ⟨h.1.1.2, h.1.2⟩
theorem rfail_e {N n t k : Nat} {tp : Nat → Nat} {σ μ : St} {tk : Tok} {b a L C : Nat} (h : GS tp n t σ μ tk b a L C) (hL : L ≤ 600) (hk : 1 ≤ k ∧ k ≤ 4) :
    ∃ σ' μ', fReader_fail N (nI k) σ = some σ' ∧ fM_wrong N (nI k) μ = some μ' ∧ BS t σ' μ' ∧ Fx fltX σ σ' ∧ Fx fltM μ μ' := by
  refine ⟨sI (sI σ 113 0 0 0 (nI k)) 112 0 0 0 (nI b), sI (sI μ 255 0 0 0 (nI k)) 256 0 0 0 (nI b), ?_, ?_, ⟨?_, ?_, ?_, ?_, h.ps.ht, ?_, ?_, L, hL, ?_⟩, (Fx.s (by decide)).tr (Fx.s (by decide)), (Fx.s (by decide)).tr (Fx.s (by decide))⟩
  · unfold fReader_fail
    rw [if_pos h.f0, nmx, nmx, sI_o (by decide), h.ps.bX]
  · unfold fM_wrong
    rw [if_pos h.g0, nmx, nmx, sI_o (by decide), h.ps.bM]
  · rw [sI_o (by decide), sI_s]
    exact nI_ne0 (by omega) (by omega)
  · rw [sI_o (by decide), sI_s, sI_o (by decide), sI_s]
  · rw [sI_s, sI_s]
  · rw [sI_o (by decide), sI_s, nI_toInt (by omega)]
    omega
  · rw [sI_o (by decide), sI_o (by decide)]
    exact h.ps.tX
  · rw [sI_o (by decide), sI_o (by decide)]
    exact h.ps.tM
  · rw [sI_o (by decide), sI_o (by decide)]
    exact h.hL
/-! in a fault nothing more is read -/
theorem BS.fail {N t : Nat} {σ μ : St} (h : BS t σ μ) (k : Int32) : fReader_fail N k σ = some σ := if_neg h.x
theorem BS.wrong {N t : Nat} {σ μ : St} (h : BS t σ μ) (k : Int32) : fM_wrong N k μ = some μ := if_neg h.y
theorem BS.isX {N t : Nat} {σ μ : St} (h : BS t σ μ) (k : Int32) : fReader_isSign N k σ = some 0 := if_neg h.x
theorem BS.isM {N t : Nat} {σ μ : St} (h : BS t σ μ) (k : Int32) : fM_isSign N k μ = some 0 := if_neg h.y
theorem BS.wX {N t : Nat} {σ μ : St} (h : BS t σ μ) (k : Int32) : fReader_isWord N k σ = some 0 := if_neg h.x
theorem BS.wM {N t : Nat} {σ μ : St} (h : BS t σ μ) (hN : 1 ≤ N) (k : Nat) : fM_is N k μ = some 0 := is0_e hN (Or.inl h.y)
theorem BS.emM {N t : Nat} {σ μ : St} (h : BS t σ μ) (k : Int32) : fM_emit N k μ = some μ := if_neg h.y
theorem emX_e {N t L : Nat} {σ : St} (hL : σ.1 2 t 0 0 = nI L) (h : L < 600) (x : Int32) : fAct_emit N t x σ = some (sI (sI σ 1 t 0 L x) 2 t 0 0 (nI (L + 1))) := by
  unfold fAct_emit
  rw [hL, if_neg (show ¬ (600 : Int32) ≤ nI L from nI_ge (a := L) (b := 600) h (by omega)), chk_t (inb_n h (by decide)), nmx, nmx, nI_clamp (by omega), sI_o (by decide), hL, nI_1]
theorem emM_e {N t C : Nat} {μ : St} (hC : μ.1 258 0 0 0 = nI C) (hb : μ.1 255 0 0 0 = 0) (ht : μ.1 259 0 0 0 = nI t) (h1 : t < 17) (h : C < 1000) (x : Int32) : fM_emit N x μ = some (sI (sI μ 245 0 0 (1000 * t + C) x) 258 0 0 0 (nI (C + 1))) := by
  have e : 1000 * nI t + nI C = nI (1000 * t + C) := by
    rw [show (1000 : Int32) * nI t = nI (1000 * t) from (Int32.ofNat_mul 1000 t).symm, nI_add]
  unfold fM_emit
  rw [if_pos hb, ht, hC, e, chk_t (inb_n (by omega) (by decide)), nmx, nmx, nI_clamp (by omega), sI_o (by decide), hC, nI_1]
theorem PFX.em {t L : Nat} {σ : St} {x y : Int32} : PFX t σ (sI (sI σ 1 t 0 L x) 2 t 0 0 y) :=
  ⟨fun f a b i e e2 => by rw [sI_1, sI_1, if_neg (fun q => e2 ⟨Or.inr q.1, q.2.1⟩), if_neg (fun q => e2 ⟨Or.inl q.1, q.2.1⟩)], rfl⟩
theorem CK.em {t L : Nat} {σ : St} {x y : Int32} : CK t L σ (sI (sI σ 1 t 0 L x) 2 t 0 0 y) := fun j hj => by rw [sI_o (by decide), sI_i (by omega)]
theorem PFM.em {t C : Nat} {μ : St} {x y : Int32} : PFM t C μ (sI (sI μ 245 0 0 (1000 * t + C) x) 258 0 0 0 y) := by
  refine ⟨fun f a b i e e2 => ?_, fun j hj => ?_, rfl⟩
  · have : f ≠ 258 := by
      rintro rfl
      exact absurd e (by decide)
    rw [sI_o this, sI_o e2]
  · rw [sI_o (by decide), sI_i (by omega)]
theorem BS.emX {N t : Nat} {σ μ : St} (h : BS t σ μ) (x : Int32) : ∃ σ', fAct_emit N t x σ = some σ' ∧ BS t σ' μ ∧ PFX t σ σ' := by
  obtain ⟨L, hL, hL2⟩ := h.hL
  by_cases c : L < 600
  · exact ⟨_, emX_e hL2 c x, ⟨h.x, h.xx, h.xp, h.xr, h.ht, h.tX, h.tM, L + 1, by omega, sI_s ..⟩, PFX.em⟩
  · refine ⟨σ, ?_, h, PFX.rf⟩
    unfold fAct_emit
    rw [hL2, if_pos (show (600 : Int32) ≤ nI L from nI_le (a := 600) (b := L) (by omega) (by omega))]
/-- an expression was read: it stands in both codes from there on -/
abbrev SegAt (tp : Nat → Nat) (H n t b L C : Nat) (σ μ : St) (tk : Tok) (b' a' : Nat) (e : Ex) : Prop := GS tp n t σ μ tk b' a' (L + e.cX.length) (C + e.cM.length) ∧ b + e.cX.length ≤ b' ∧ 2 * e.cM.length + 3 * b ≤ 3 * b' + 1 ∧ e.ok ∧ e.hgt ≤ H ∧ At (fun j => σ.1 1 t 0 j) L e.cX ∧ At (fun j => μ.1 245 0 0 j) (1000 * t + C) e.cM
def Seg (tp : Nat → Nat) (H n t b L C : Nat) (σ μ : St) : Prop := ∃ (tk : Tok) (b' a' : Nat) (e : Ex), SegAt tp H n t b L C σ μ tk b' a' e
def PostE (tp : Nat → Nat) (H n t b L C : Nat) (σ μ σ' μ' : St) : Prop := PFX t σ σ' ∧ PFM t C μ μ' ∧ (BS t σ' μ' ∨ (CK t L σ σ' ∧ Seg tp H n t b L C σ' μ'))
theorem PS.bn {tp : Nat → Nat} {n t : Nat} {σ μ : St} {tk : Tok} {b a : Nat} (h : PS tp n t σ μ tk b a) : b ≤ a ∧ a ≤ n ∧ n ≤ 600 := ⟨h.hba, h.lx.ha, h.lx.hn⟩
/-- an expression of one code on each side -/
theorem seg_one {N n t : Nat} {tp : Nat → Nat} {σ μ : St} {tk : Tok} {b a L C : Nat} {H : Nat} (e : Ex) (he : e.ok) (hh : e.hgt ≤ H) (hH : 1 ≤ e.cX.length) {b' : Nat} (h : GS tp n t σ μ tk b' a (L + e.cX.length) (C + e.cM.length)) (h1 : b + e.cX.length ≤ b') (h2 : 2 * e.cM.length + 3 * b ≤ 3 * b' + 1) (h3 : At (fun j => σ.1 1 t 0 j) L e.cX) (h4 : At (fun j => μ.1 245 0 0 j) (1000 * t + C) e.cM) : Seg tp H n t b L C σ μ := ⟨tk, b', a, e, h, h1, h2, he, hh, h3, h4⟩
theorem GS.ck {tp : Nat → Nat} {n t : Nat} {σ μ : St} {tk : Tok} {b a L C : Nat} (h : GS tp n t σ μ tk b a L C) : 1000 * t + C < 2 ^ 31 ∨ True := Or.inr trivial
/-- what both write of an operator that joins what was read before to what was read last -/
theorem bin_e {N n t o : Nat} {tp : Nat → Nat} {H Hs b L C b1 : Nat} {σ μ σ1 μ1 σ2 μ2 : St} {e : Ex} (ho : 1 ≤ o ∧ o ≤ 8) (hL : L ≤ b) (hC : 2 * C ≤ 3 * b) (ht : t < 17)
    (he : e.ok) (hh : e.hgt ≤ H) (hb : b + e.cX.length + 1 ≤ b1) (hb2 : 2 * e.cM.length + 3 * b + 2 ≤ 3 * b1) (c1 : At (fun j => σ1.1 1 t 0 j) L e.cX) (c2 : At (fun j => μ1.1 245 0 0 j) (1000 * t + C) e.cM)
    (hp : PostE tp Hs n t b1 (L + e.cX.length) (C + e.cM.length) σ1 μ1 σ2 μ2) :
    ∃ σ3 μ3, fAct_emit N t (sg o) σ2 = some σ3 ∧ fM_emit N (nI o) μ2 = some μ3 ∧ PFX t σ1 σ3 ∧ PFM t C μ1 μ3 ∧ (BS t σ3 μ3 ∨ (CK t L σ1 σ3 ∧ ∃ tk b3 a3 e3, SegAt tp (max H (1 + Hs)) n t b L C σ3 μ3 tk b3 a3 e3 ∧ e.cX.length < e3.cX.length)) := by
  obtain ⟨p1, p2, p3⟩ := hp
  have p2' : PFM t C μ1 μ2 := ⟨p2.o, fun j hj => p2.c j (by omega), p2.s⟩
  rcases p3 with p3 | ⟨p3, tk, b', a', d, g, q1, q2, q3, q4, q5, q6⟩
  · obtain ⟨σ3, k1, k2, k3⟩ := p3.emX (N := N) (sg o)
    exact ⟨σ3, μ2, k1, p3.emM _, p1.tr k3, p2', Or.inl k2⟩
  · obtain ⟨n1, n2, n3⟩ := g.ps.bn
    refine ⟨_, _, emX_e g.hL (by omega) (sg o), emM_e g.hC g.g0 g.ps.tM ht (by omega) (nI o), p1.tr PFX.em, p2'.tr PFM.em (by omega), Or.inr ⟨fun j hj => by rw [sI_o (by decide), sI_i (by omega)]; exact p3 j (by omega), ?_⟩⟩
    have eX : (Ex.bin o e d).cX.length = e.cX.length + (d.cX.length + 1) := by simp [Ex.bin_cX]
    have eM : (Ex.bin o e d).cM.length = e.cM.length + (d.cM.length + 1) := by simp [Ex.bin_cM]
    refine ⟨tk, b', a', .bin o e d, ⟨⟨?_, ?_, ?_, ?_, ?_, ?_⟩, by omega, by omega, Ex.bin_ok ho he q3, ?_, ?_, ?_⟩, by omega⟩
    · have := g.ps
      exact ⟨⟨this.lx.hn, this.lx.ha, this.lx.tape, this.lx.lX, this.lx.lM, this.lx.aX, this.lx.aM⟩, this.hba, this.bX, this.bM, this.eM, this.kX, this.kM, this.ht, this.tX, this.tM, this.hp⟩
    · exact g.f0
    · exact g.g0
    · rw [sI_s, eX]
      congr 1
      omega
    · rw [sI_s, eM]
      congr 1
      omega
    · exact g.p0
    · show max e.hgt (1 + d.hgt) ≤ _
      omega
    · refine (At_app e.cX L (d.cX ++ [sg o])).mpr ⟨?_, (At_app d.cX (L + e.cX.length) [sg o]).mpr ⟨?_, ?_, trivial⟩⟩
      · refine At_eq _ _ (fun j j1 j2 => ?_) c1
        try dsimp only
        rw [sI_o (by decide), sI_i (by omega)]
        exact p3 j (by omega)
      · refine At_eq _ _ (fun j j1 j2 => ?_) q5
        try dsimp only
        rw [sI_o (by decide), sI_i (by omega)]
      · dsimp only
        rw [sI_o (by decide), sI_s]
    · refine (At_app e.cM (1000 * t + C) (d.cM ++ [nI o])).mpr ⟨?_, (At_app d.cM (1000 * t + C + e.cM.length) [nI o]).mpr ⟨?_, ?_, trivial⟩⟩
      · refine At_eq _ _ (fun j j1 j2 => ?_) c2
        try dsimp only
        rw [sI_o (by decide), sI_i (by omega)]
        exact p2.c j (by omega)
      · rw [← Nat.add_assoc] at q6
        refine At_eq _ _ (fun j j1 j2 => ?_) q6
        try dsimp only
        rw [sI_o (by decide), sI_i (by omega)]
      · dsimp only
        rw [sI_o (by decide), show 1000 * t + C + e.cM.length + d.cM.length = 1000 * t + (C + e.cM.length + d.cM.length) by omega, sI_s]
