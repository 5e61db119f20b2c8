/-! clauses: what both have understood -/
abbrev Cl : Type := Nat × Nat × Nat × Nat × Nat × Ex × Option Ex
abbrev Cl.wh (c : Cl) : Nat := c.1
abbrev Cl.one (c : Cl) : Nat := c.2.1
abbrev Cl.two (c : Cl) : Nat := c.2.2.1
abbrev Cl.pX (c : Cl) : Nat := c.2.2.2.1
abbrev Cl.pM (c : Cl) : Nat := c.2.2.2.2.1
abbrev Cl.e (c : Cl) : Ex := c.2.2.2.2.2.1
abbrev Cl.u (c : Cl) : Option Ex := c.2.2.2.2.2.2
def uX : Option Ex → List Int32
  | none => []
  | some d => d.cX ++ [-5]
def uM : Option Ex → List Int32
  | none => []
  | some d => d.cM
def Cl.cX (c : Cl) : List Int32 := c.e.cX ++ (uX c.u ++ [-1])
def ClOk (c : Cl) : Prop := c.wh ≤ 6 ∧ (c.wh = 0 → 1 ≤ c.one ∧ c.one < 256) ∧ (c.wh = 1 → c.one < 8 ∧ c.two < 100000) ∧ (c.wh = 6 → c.two < 100000 ∧ c.u = none) ∧ (2 ≤ c.wh → c.e.ok ∧ c.e.hgt ≤ 31 ∧ ∀ d, c.u = some d → d.ok ∧ d.hgt ≤ 31)
def ClX (t L : Nat) (c : Cl) (σ : St) : Prop := 2 ≤ c.wh → At (fun j => σ.1 1 t 0 j) c.pX c.cX ∧ c.pX + c.cX.length ≤ L
def ClM (t C i : Nat) (c : Cl) (μ : St) : Prop := μ.1 239 0 0 (24 * t + i) = nI c.wh ∧ (c.wh = 0 → μ.1 240 0 0 (24 * t + i) = nI c.one) ∧ (c.wh = 1 → μ.1 240 0 0 (24 * t + i) = nI c.one ∧ μ.1 241 0 0 (24 * t + i) = nI c.two) ∧ (c.wh = 6 → μ.1 241 0 0 (24 * t + i) = nI c.two) ∧
  (2 ≤ c.wh → μ.1 242 0 0 (24 * t + i) = nI c.pM ∧ μ.1 243 0 0 (24 * t + i) = nI (c.pM + c.e.cM.length) ∧ μ.1 244 0 0 (24 * t + i) = nI (c.pM + c.e.cM.length + (uM c.u).length) ∧ At (fun j => μ.1 245 0 0 j) (1000 * t + c.pM) c.e.cM ∧ At (fun j => μ.1 245 0 0 j) (1000 * t + (c.pM + c.e.cM.length)) (uM c.u) ∧ c.pM + c.e.cM.length + (uM c.u).length ≤ C)
def lst (p : Cl → Bool) (l : List Cl) : Option Cl := (l.filter p).getLast?
theorem lst_app (p : Cl → Bool) (l : List Cl) (c : Cl) : lst p (l ++ [c]) = if p c = true then some c else lst p l := by
  unfold lst
  rw [List.filter_append]
  by_cases h : p c = true
  · rw [if_pos h, List.filter_cons_of_pos h, List.filter_nil, List.getLast?_concat]
  · rw [if_neg h, List.filter_cons_of_neg h, List.filter_nil, List.append_nil]
def isW (w : Nat) (c : Cl) : Bool := decide (c.wh = w)
def isP (k : Nat) (c : Cl) : Bool := decide (c.wh = 1) && decide (c.one = k)
def oneI : Option Cl → Int32
  | none => 0
  | some c => nI c.one
def twoI : Option Cl → Int32
  | none => -1
  | some c => nI c.two
def posI : Option Cl → Int32
  | none => -1
  | some c => nI c.pX
def ActX (t : Nat) (l : List Cl) (σ : St) : Prop := σ.1 4 t 0 0 = oneI (lst (isW 0) l) ∧ (∀ k, k < 8 → σ.1 3 t 0 k = twoI (lst (isP k) l)) ∧ σ.1 5 t 0 0 = posI (lst (isW 2) l) ∧ σ.1 6 t 0 0 = posI (lst (isW 3) l) ∧ σ.1 7 t 0 0 = posI (lst (isW 4) l) ∧
  σ.1 9 t 0 0 = nI (l.filter (isW 5)).length ∧ (∀ i c, (l.filter (isW 5))[i]? = some c → σ.1 8 t 0 i = nI c.pX) ∧ σ.1 12 t 0 0 = nI (l.filter (isW 6)).length ∧ (∀ i c, (l.filter (isW 6))[i]? = some c → σ.1 10 t 0 i = nI c.pX ∧ σ.1 11 t 0 i = nI c.two)
def Txt (t : Nat) (l : List Cl) (L C : Nat) (σ μ : St) : Prop := (∀ i c, l[i]? = some c → ClOk c ∧ ClX t L c σ ∧ ClM t C i c μ) ∧ ActX t l σ
/-! what reading a text may write -/
def TFX (t : Nat) (σ σ' : St) : Prop := (∀ f a b i, rdX f = false → ¬ ((1 ≤ f ∧ f ≤ 12) ∧ a = t) → σ'.1 f a b i = σ.1 f a b i) ∧ σ'.2 = σ.2
theorem TFX.rf {t : Nat} {σ : St} : TFX t σ σ := ⟨fun _ _ _ _ _ _ => rfl, rfl⟩
theorem TFX.tr {t : Nat} {σ σ' σ'' : St} (h : TFX t σ σ') (h2 : TFX t σ' σ'') : TFX t σ σ'' := ⟨fun f a b i e e2 => (h2.1 f a b i e e2).trans (h.1 f a b i e e2), h2.2.trans h.2⟩
theorem PFX.t {t : Nat} {σ σ' : St} (h : PFX t σ σ') : TFX t σ σ' := ⟨fun f a b i e e2 => h.o f a b i e (fun q => e2 ⟨by rcases q.1 with q | q <;> rw [q] <;> decide, q.2⟩), h.s⟩
theorem TFX.s {t f b i : Nat} {σ : St} {x : Int32} (h : 1 ≤ f ∧ f ≤ 12) : TFX t σ (sI σ f t b i x) := ⟨fun f' a' b' i' _ e2 => by rw [sI_1, if_neg (fun q => e2 ⟨by rw [q.1]; exact h, q.2.1⟩)], rfl⟩
/-- what the reference may write of one clause -/
def RM (t k C : Nat) (μ μ' : St) : Prop := (∀ f a b i, rdM f = false → ¬ (238 ≤ f ∧ f ≤ 245) → μ'.1 f a b i = μ.1 f a b i) ∧ (∀ i, μ'.1 238 0 0 i = μ.1 238 0 0 i) ∧ (∀ f i, 239 ≤ f → f ≤ 244 → i ≠ 24 * t + k → μ'.1 f 0 0 i = μ.1 f 0 0 i) ∧ (∀ j, j < 1000 * t + C → μ'.1 245 0 0 j = μ.1 245 0 0 j) ∧ μ'.2 = μ.2
theorem RM.rf {t k C : Nat} {μ : St} : RM t k C μ μ := ⟨fun _ _ _ _ _ _ => rfl, fun _ => rfl, fun _ _ _ _ _ => rfl, fun _ _ => rfl, rfl⟩
theorem RM.tr {t k C : Nat} {μ μ' μ'' : St} (h : RM t k C μ μ') (h2 : RM t k C μ' μ'') : RM t k C μ μ'' :=
  ⟨fun f a b i e e2 => (h2.1 f a b i e e2).trans (h.1 f a b i e e2), fun i => (h2.2.1 i).trans (h.2.1 i), fun f i e e2 e3 => (h2.2.2.1 f i e e2 e3).trans (h.2.2.1 f i e e2 e3), fun j e => (h2.2.2.2.1 j e).trans (h.2.2.2.1 j e), h2.2.2.2.2.trans h.2.2.2.2⟩
theorem rdM_out {f : Nat} (h : 238 ≤ f ∧ f ≤ 245) : rdM f = false := by
  simp [rdM, lexM]
  omega
theorem PFM.rm {t k C C' : Nat} {μ μ' : St} (h : PFM t C' μ μ') (hc : C ≤ C') : RM t k C μ μ' :=
  ⟨fun f a b i e e2 => h.o f a b i e (fun q => e2 (by rw [q]; decide)), fun i => h.o _ _ _ _ (by decide) (by decide), fun f i e e2 _ => h.o f 0 0 i (rdM_out (by omega)) (by omega), fun j hj => h.c j (by omega), h.s⟩
theorem Fx.rm {t k C : Nat} {μ μ' : St} (h : Fx rdM μ μ') : RM t k C μ μ' := (Fx.pM (L := C) (t := t) h (fun _ e => e) (by decide)).rm (Nat.le_refl _)
theorem RM.s {t k C f : Nat} {μ : St} {x : Int32} (h : 239 ≤ f ∧ f ≤ 244) : RM t k C μ (sI μ f 0 0 (24 * t + k) x) :=
  ⟨fun f' a b i _ e2 => sI_o (fun q => e2 (by omega)), fun i => sI_o (by omega), fun f' i _ _ e3 => by rw [sI_1, if_neg (fun q => e3 q.2.2.2)], fun j _ => sI_o (by omega), rfl⟩
/-! states go over to states that are alike where reading looks -/
theorem GS.mv {tp : Nat → Nat} {n t : Nat} {σ μ σ' μ' : St} {tk : Tok} {b a L C : Nat} (h : GS tp n t σ μ tk b a L C) (hX : ∀ f i, 110 ≤ f → f ≤ 121 → σ'.1 f 0 0 i = σ.1 f 0 0 i) (hl : σ'.1 2 t 0 0 = σ.1 2 t 0 0) (hM : ∀ f i, 246 ≤ f → f ≤ 259 → μ'.1 f 0 0 i = μ.1 f 0 0 i) : GS tp n t σ' μ' tk b a L C := by
  refine ⟨⟨⟨h.ps.lx.hn, h.ps.lx.ha, fun i hi => ⟨(h.ps.lx.tape i hi).1, (hX _ _ (by decide) (by decide)).trans (h.ps.lx.tape i hi).2.1, (hM _ _ (by decide) (by decide)).trans (h.ps.lx.tape i hi).2.2⟩, (hX _ _ (by decide) (by decide)).trans h.ps.lx.lX, (hM _ _ (by decide) (by decide)).trans h.ps.lx.lM, (hX _ _ (by decide) (by decide)).trans h.ps.lx.aX, (hM _ _ (by decide) (by decide)).trans h.ps.lx.aM⟩, h.ps.hba, (hX _ _ (by decide) (by decide)).trans h.ps.bX, (hM _ _ (by decide) (by decide)).trans h.ps.bM, (hM _ _ (by decide) (by decide)).trans h.ps.eM, ?_, ?_, h.ps.ht, (hX _ _ (by decide) (by decide)).trans h.ps.tX, (hM _ _ (by decide) (by decide)).trans h.ps.tM, h.ps.hp⟩, (hX _ _ (by decide) (by decide)).trans h.f0, (hM _ _ (by decide) (by decide)).trans h.g0, hl.trans h.hL, (hM _ _ (by decide) (by decide)).trans h.hC, (hX _ _ (by decide) (by decide)).trans h.p0⟩
  · have h1 := h.ps.kX
    have x1 := hX 117 0 (by decide) (by decide)
    have x2 := hX 118 0 (by decide) (by decide)
    have x3 := hX 119 0 (by decide) (by decide)
    have x4 := hX 120 0 (by decide) (by decide)
    rcases tk.cs with rfl | ⟨w, rfl⟩ | ⟨l, v, rfl⟩ | rfl | ⟨d, rfl⟩
    · exact x1.trans h1
    · exact ⟨x1.trans h1.1, x2.trans h1.2.1, x3.trans h1.2.2⟩
    · exact ⟨x1.trans h1.1, x4.trans h1.2⟩
    · exact x1.trans h1
    · exact ⟨h1.1, x1.trans h1.2⟩
  · have h1 := h.ps.kM
    have x1 := hM 250 0 (by decide) (by decide)
    have x2 := hM 252 0 (by decide) (by decide)
    have x3 := hM 251 0 (by decide) (by decide)
    rcases tk.cs with rfl | ⟨w, rfl⟩ | ⟨l, v, rfl⟩ | rfl | ⟨d, rfl⟩
    · exact x1.trans h1
    · exact ⟨x1.trans h1.1, h1.2⟩
    · obtain ⟨p1, p2, p3, v', p4, p5, p6⟩ := h1
      exact ⟨x1.trans p1, p2, p3, v', p4, x2.trans p5, p6⟩
    · exact x1.trans h1
    · exact ⟨x1.trans h1.1, x3.trans h1.2⟩
theorem GS.wM {tp : Nat → Nat} {n t f j : Nat} {σ μ : St} {tk : Tok} {b a L C : Nat} {x : Int32} (h : GS tp n t σ μ tk b a L C) (hf : f ≤ 245) : GS tp n t σ (sI μ f 0 0 j x) tk b a L C := h.mv (fun _ _ _ _ => rfl) rfl (fun f' i h1 h2 => sI_o (by omega))
theorem GS.wX {tp : Nat → Nat} {n t f j k : Nat} {σ μ : St} {tk : Tok} {b a L C : Nat} {x : Int32} (h : GS tp n t σ μ tk b a L C) (hf : 3 ≤ f ∧ f ≤ 12) : GS tp n t (sI σ f k 0 j x) μ tk b a L C := h.mv (fun f' i h1 h2 => sI_o (by omega)) (sI_o (by omega)) (fun _ _ _ _ => rfl)
theorem BS.mv {t : Nat} {σ μ σ' μ' : St} (h : BS t σ μ) (hX : ∀ f i, 110 ≤ f → f ≤ 121 → σ'.1 f 0 0 i = σ.1 f 0 0 i) (hl : σ'.1 2 t 0 0 = σ.1 2 t 0 0) (hM : ∀ f i, 246 ≤ f → f ≤ 259 → μ'.1 f 0 0 i = μ.1 f 0 0 i) : BS t σ' μ' := by
  have x1 := hX 113 0 (by decide) (by decide)
  have x2 := hX 112 0 (by decide) (by decide)
  have y1 := hM 255 0 (by decide) (by decide)
  have y2 := hM 256 0 (by decide) (by decide)
  obtain ⟨L, l1, l2⟩ := h.hL
  exact ⟨by rw [x1]; exact h.x, by rw [x1, y1]; exact h.xx, by rw [x2, y2]; exact h.xp, by rw [y1]; exact h.xr, h.ht, (hX _ _ (by decide) (by decide)).trans h.tX, (hM _ _ (by decide) (by decide)).trans h.tM, L, l1, hl.trans l2⟩
theorem BS.keM {t f j : Nat} {σ μ : St} {x : Int32} (h : BS t σ μ) (hf : f ≤ 245) : BS t σ (sI μ f 0 0 j x) := h.mv (fun _ _ _ _ => rfl) rfl (fun f' i h1 h2 => sI_o (by omega))
theorem BS.keX {t f j k : Nat} {σ μ : St} {x : Int32} (h : BS t σ μ) (hf : 3 ≤ f ∧ f ≤ 12) : BS t (sI σ f k 0 j x) μ := h.mv (fun f' i h1 h2 => sI_o (by omega)) (sI_o (by omega)) (fun _ _ _ _ => rfl)
theorem BS.numM {N t : Nat} {σ μ : St} (h : BS t σ μ) : fM_readNumber N μ = some (0, μ) := if_neg h.y
/-- the end of a clause -/
theorem tail_B {N t k : Nat} {σ μ : St} (h : BS t σ μ) (hk : k < 24) : fReader_readClause_114 N σ = some σ ∧ fM_readClause_278 N (nI (24 * t + k)) μ = some (sI μ 244 0 0 (24 * t + k) (μ.1 258 0 0 0)) ∧ BS t σ (sI μ 244 0 0 (24 * t + k) (μ.1 258 0 0 0)) := by
  have ht := h.ht
  have h2 : BS t σ (sI μ 244 0 0 (24 * t + k) (μ.1 258 0 0 0)) := h.keM (by decide)
  unfold fReader_readClause_114 fM_readClause_278
  rw [(h2.need (N := N) 59).1, bn1_e, chk_t (inb_n (by omega) (by decide)), nmx, nI_clamp (by omega), (h2.need (N := N) 59).2, bn1_e]
  exact ⟨rfl, rfl, h2⟩
theorem tail_G {N n t k : Nat} {tp : Nat → Nat} {σ μ : St} {tk : Tok} {b a L C : Nat} (hN : 2000 ≤ N) (h : GS tp n t σ μ tk b a L C) (hL : L ≤ 600) (hk : k < 24) : ∃ σ' μ', fReader_readClause_114 N σ = some σ' ∧ fM_readClause_278 N (nI (24 * t + k)) μ = some μ' ∧ Fx rdX σ σ' ∧ Fx rdM (sI μ 244 0 0 (24 * t + k) (nI C)) μ' ∧ (BS t σ' μ' ∨ ∃ tk' b' a', GS tp n t σ' μ' tk' b' a' L C ∧ a ≤ b' ∧ b < a) := by
  have ht := h.ps.ht
  have h2 : GS tp n t σ (sI μ 244 0 0 (24 * t + k) (nI C)) tk b a L C := h.wM (by decide)
  obtain ⟨σ', μ', i1, i2, i3, i4, i5⟩ := gneed_e (c := 59) hN h2 hL (by decide)
  refine ⟨σ', μ', ?_, ?_, i3, i4, i5⟩
  · unfold fReader_readClause_114
    rw [show fReader_expect N 59 σ = some σ' from i1, bn1_e]
  · unfold fM_readClause_278
    rw [chk_t (inb_n (by omega) (by decide)), nmx, nI_clamp (by omega), h.hC, show fM_need N 59 _ = some μ' from i2, bn1_e]
/-! the trades of a clause -/
def pc (m : Nat) : Nat := (List.range 8).countP (fun k => m.testBit k)
theorem tr_bits : ∀ m, m < 256 → ∀ v, v < 8 → (nI m ||| (1 <<< (nI v &&& 31)) = nI (m ||| (1 <<< v))) ∧ (m ||| (1 <<< v)) < 256 ∧ 1 ≤ (m ||| (1 <<< v)) ∧ ((nI m &&& (1 <<< (nI v &&& 31)) = 0) ↔ m.testBit v = false) ∧ (((nI m >>> (nI v &&& 31)) &&& 1 = 1) ↔ m.testBit v = true) ∧ (m.testBit v = false → pc (m ||| (1 <<< v)) = pc m + 1) := by decide +kernel
theorem pc_le : ∀ m, m < 256 → pc m ≤ 8 := by decide +kernel
/-- one trade, with what the reference does of it before it goes on -/
def mTr (N : Nat) (go : Int32 → Int32 → Int32 → St → Option St) (y x2 : Int32) (μ : St) : Option St :=
  if μ.1 250 0 0 0 = 2 then
    if 6 ≤ μ.1 254 0 0 0 - μ.1 253 0 0 0 then fM_readTrades_51 N go y x2 μ
    else if μ.1 252 0 0 0 ≤ 7 then fM_readTrades_51 N go y x2 μ
    else bn1 (fM_wrong N 2 μ) fun σ1 => fM_readTrades_51 N go y x2 σ1
  else fM_readTrades_51 N go y x2 μ
def mMore (N : Nat) (go : Int32 → Int32 → Int32 → St → Option St) (y x2 : Int32) (μ : St) : Option St :=
  bn1 (fM_isSign N 44 μ) fun r4 => if r4 = 0 then go y x2 r4 μ else bn1 (fM_step N μ) fun σ5 => go y x2 r4 σ5
theorem tr97_B {N t : Nat} {σ μ : St} {go : Int32 → Int32 → Int32 → St → Option St} {y x2 : Int32} (h : BS t σ μ) : fM_readTrades_97 N go y x2 μ = some μ := by
  unfold fM_readTrades_97
  rw [h.numM, bnd_e, if_neg h.y]
theorem trade_e {N n t m : Nat} {tp : Nat → Nat} {σ μ : St} {tk : Tok} {b a L C : Nat} (hN : 2000 ≤ N) (hm : m < 256) (g : GS tp n t σ μ tk b a L C) (hL : L ≤ 600) :
    ∃ r σ' μ', fReader_readTrade N (nI m) σ = some (r, σ') ∧ Fx rdX σ σ' ∧ Fx rdM μ μ' ∧ ((BS t σ' μ' ∧ ∀ go y, mTr N go y (nI m) μ = some μ') ∨ ∃ m' tk' b' a', r = nI m' ∧ 1 ≤ m' ∧ m' < 256 ∧ pc m' = pc m + 1 ∧ GS tp n t σ' μ' tk' b' a' L C ∧ a ≤ b' ∧ b < a ∧ ∀ go y, mTr N go y (nI m) μ = mMore N go y (nI m') μ') := by
  have h1 := g.ps.kX
  have h2 := g.ps.kM
  obtain ⟨n1, n2, n3⟩ := g.ps.bn
  have no : σ.1 117 0 0 0 ≠ 2 → μ.1 250 0 0 0 ≠ 2 → ∃ r σ' μ', fReader_readTrade N (nI m) σ = some (r, σ') ∧ Fx rdX σ σ' ∧ Fx rdM μ μ' ∧ BS t σ' μ' ∧ ∀ go y, mTr N go y (nI m) μ = some μ' := by
    intro e1 e2
    obtain ⟨σ', μ', g1, g2, g3, g4, g5⟩ := rfail_e (N := N) (k := 1) g hL (by omega)
    refine ⟨nI m, σ', μ', ?_, g4.mono flt_rdX, g5.mono flt_rdM, g3, fun go y => ?_⟩
    · unfold fReader_readTrade
      rw [if_neg e1, show fReader_fail N 1 σ = some σ' from g1, bn1_e]
    · unfold mTr fM_readTrades_51 fM_readTrades_97 fM_readNumber fM_readNumber_43
      rw [if_neg e2, if_pos g.g0, if_neg e2, if_pos g.g0, if_neg e2, show fM_wrong N 1 μ = some μ' from g2, bn1_e, nmx, if_neg g3.y, bnd_e, if_neg g3.y]
  have no2 : (∃ r σ' μ', fReader_readTrade N (nI m) σ = some (r, σ') ∧ Fx rdX σ σ' ∧ Fx rdM μ μ' ∧ BS t σ' μ' ∧ ∀ go y, mTr N go y (nI m) μ = some μ') → ∃ r σ' μ', fReader_readTrade N (nI m) σ = some (r, σ') ∧ Fx rdX σ σ' ∧ Fx rdM μ μ' ∧ ((BS t σ' μ' ∧ ∀ go y, mTr N go y (nI m) μ = some μ') ∨ ∃ m' tk' b' a', r = nI m' ∧ 1 ≤ m' ∧ m' < 256 ∧ pc m' = pc m + 1 ∧ GS tp n t σ' μ' tk' b' a' L C ∧ a ≤ b' ∧ b < a ∧ ∀ go y, mTr N go y (nI m) μ = mMore N go y (nI m') μ') := by
    rintro ⟨r, σ', μ', q1, q2, q3, q4, q5⟩
    exact ⟨r, σ', μ', q1, q2, q3, Or.inl ⟨q4, q5⟩⟩
  have hp := g.ps.hp
  rcases tk.cs with rfl | ⟨w, rfl⟩ | ⟨l, v, rfl⟩ | rfl | ⟨d, rfl⟩
  · exact no2 (no (by rw [show σ.1 117 0 0 0 = 0 from h1]; decide) (by rw [show μ.1 250 0 0 0 = 0 from h2]; decide))
  · exact no2 (no (by rw [h1.1]; decide) (by rw [h2.1]; decide))
  · have hba : b < a := by
      rcases hp with q | q
      · exact absurd q.1 nofun
      · exact q.2
    obtain ⟨h2a, h2b, h2c, v', h2d, h2e, h2f⟩ := h2
    have el : μ.1 254 0 0 0 - μ.1 253 0 0 0 = nI l := by
      rw [g.ps.eM, g.ps.bM, h2b, show a = b + (a - b) by omega, nI_subl, show b + (a - b) - b = a - b by omega]
    by_cases c : l ≤ 5
    · have c6 : ¬ (6 : Int32) ≤ nI l := nI_ge (a := l) (b := 6) (by omega) (by omega)
      have hv' := h2f c
      subst hv'
      by_cases c8 : v' < 8
      · obtain ⟨t1, t2, t3, t4, t5, t6⟩ := tr_bits m hm v' c8
        by_cases cb : m.testBit v' = true
        · obtain ⟨σ', μ', g1, g2, g3, g4, g5⟩ := rfail_e (N := N) (k := 4) g hL (by omega)
          refine no2 ⟨nI m, σ', μ', ?_, g4.mono flt_rdX, g5.mono flt_rdM, g3, fun go y => ?_⟩
          · unfold fReader_readTrade
            rw [if_pos h1.1, h1.2, if_pos c, if_pos (show nI v' < 8 from nI_lt (b := 8) c8 (by omega)), if_neg (fun q => by rw [t4.mp q] at cb; exact absurd cb (by decide)), show fReader_fail N 4 σ = some σ' from g1, bn1_e]
          · unfold mTr fM_readTrades_51
            rw [if_pos h2a, el, if_neg c6, h2e, if_pos (show nI v' ≤ 7 from nI_le (b := 7) (by omega) (by omega)), if_pos g.g0, if_pos h2a, if_neg c6, if_pos (t5.mpr cb), show fM_wrong N 4 μ = some μ' from g2, bn1_e]
            exact tr97_B g3
        · have cb2 : m.testBit v' = false := by simpa using cb
          obtain ⟨tk', b', a', σ', μ', k1, k2, k3, k4, k5, k6⟩ := rstep_e hN g
          refine ⟨nI (m ||| (1 <<< v')), σ', μ', ?_, k5.mono lexX_rd, k6.mono lexM_rd, Or.inr ⟨m ||| (1 <<< v'), tk', b', a', rfl, t3, t2, t6 cb2, k3, k4, hba, fun go y => ?_⟩⟩
          · unfold fReader_readTrade
            rw [if_pos h1.1, h1.2, if_pos c, if_pos (show nI v' < 8 from nI_lt (b := 8) c8 (by omega)), if_pos (t4.mpr cb2), nmx, k1, bn1_e, t1]
          · unfold mTr fM_readTrades_51 fM_readTrades_97 fM_readNumber fM_readNumber_43 mMore
            rw [if_pos h2a, el, if_neg c6, h2e, if_pos (show nI v' ≤ 7 from nI_le (b := 7) (by omega) (by omega)), if_pos g.g0, if_pos h2a, if_neg c6, if_neg (fun q => cb (t5.mp q)), if_pos g.g0, if_pos h2a, if_pos (show nI l ≤ 5 from nI_le (b := 5) c (by omega)), nmx, if_pos g.g0, k2, bn1_e, bnd_e, if_pos k3.g0, nmx, t1]
            rfl
      · obtain ⟨σ', μ', g1, g2, g3, g4, g5⟩ := rfail_e (N := N) (k := 2) g hL (by omega)
        refine no2 ⟨nI m, σ', μ', ?_, g4.mono flt_rdX, g5.mono flt_rdM, g3, fun go y => ?_⟩
        · unfold fReader_readTrade
          rw [if_pos h1.1, h1.2, if_pos c, if_neg (show ¬ nI v' < 8 from nI_nlt (b := 8) (by omega) (by omega)), show fReader_fail N 2 σ = some σ' from g1, bn1_e]
        · unfold mTr fM_readTrades_51
          rw [if_pos h2a, el, if_neg c6, h2e, if_neg (show ¬ nI v' ≤ 7 from nI_ge (a := 7) (b := v') (by omega) (by omega)), show fM_wrong N 2 μ = some μ' from g2, bn1_e, if_neg g3.y]
          exact tr97_B g3
    · obtain ⟨σ', μ', g1, g2, g3, g4, g5⟩ := rfail_e (N := N) (k := 2) g hL (by omega)
      refine no2 ⟨nI m, σ', μ', ?_, g4.mono flt_rdX, g5.mono flt_rdM, g3, fun go y => ?_⟩
      · unfold fReader_readTrade
        rw [if_pos h1.1, h1.2, if_neg c, if_neg (by decide), show fReader_fail N 2 σ = some σ' from g1, bn1_e]
      · unfold mTr fM_readTrades_51 fM_readTrades_97 fM_readNumber fM_readNumber_43
        rw [if_pos h2a, el, if_pos (show (6 : Int32) ≤ nI l from nI_le (a := 6) (by omega) (by omega)), if_pos g.g0, if_pos h2a, if_pos (show (6 : Int32) ≤ nI l from nI_le (a := 6) (by omega) (by omega)), if_pos g.g0, if_pos h2a, if_neg (show ¬ nI l ≤ 5 from nI_ge (a := 5) (b := l) (by omega) (by omega)), show fM_wrong N 2 μ = some μ' from g2, bn1_e, nmx, if_neg g3.y, bnd_e, if_neg g3.y]
  · exact no2 (no (by rw [show σ.1 117 0 0 0 = 3 from h1]; decide) (by rw [show μ.1 250 0 0 0 = 4 from h2]; decide))
  · have hd := sn_lt h1.1
    exact no2 (no (by rw [h1.2]; exact fun q => by have := (nI_eq (b := 2) (by omega) (by omega)).mp q; omega) (by rw [h2.1]; decide))
