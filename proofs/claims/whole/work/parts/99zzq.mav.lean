/-! the class gathers who has a pair; what a row at a column costs -/
abbrev Lst (f : Nat → Int32) (r p : Nat) (has : Nat → Prop) : Prop := (∀ i, i < r → f i = nI (f i).toNatClampNeg ∧ (f i).toNatClampNeg < p) ∧ (∀ i j, i < j → j < r → (f i).toNatClampNeg < (f j).toNatClampNeg) ∧ (∀ q, q < p → has q → ∃ i, i < r ∧ (f i).toNatClampNeg = q) ∧ (r ≤ p)
theorem Lst.a {f : Nat → Int32} {r p : Nat} {has : Nat → Prop} (h : Lst f r p has) : ∀ i, i < r → f i = nI (f i).toNatClampNeg ∧ (f i).toNatClampNeg < p := h.1
theorem Lst.m {f : Nat → Int32} {r p : Nat} {has : Nat → Prop} (h : Lst f r p has) : ∀ i j, i < j → j < r → (f i).toNatClampNeg < (f j).toNatClampNeg := h.2.1
theorem Lst.c {f : Nat → Int32} {r p : Nat} {has : Nat → Prop} (h : Lst f r p has) : ∀ q, q < p → has q → ∃ i, i < r ∧ (f i).toNatClampNeg = q := h.2.2.1
theorem Lst.l {f : Nat → Int32} {r p : Nat} {has : Nat → Prop} (h : Lst f r p has) : r ≤ p := h.2.2.2
theorem Lst.skip {f : Nat → Int32} {r p : Nat} {has : Nat → Prop} (h : Lst f r p has) (n : ¬ has p) : Lst f r (p + 1) has := by
  refine ⟨fun i hi => ⟨(h.a i hi).1, by have := (h.a i hi).2; omega⟩, h.m, fun q hq hh => ?_, by have := h.l; omega⟩
  by_cases z : q = p
  · rw [z] at hh; exact absurd hh n
  · exact h.c q (by omega) hh
theorem Lst.add {f f' : Nat → Int32} {r p : Nat} {has : Nat → Prop} (h : Lst f r p has) (hp : p < 2 ^ 31) (e : f' r = nI p) (o : ∀ i, i ≠ r → f' i = f i) : Lst f' (r + 1) (p + 1) has := by
  have er : (f' r).toNatClampNeg = p := by rw [e, nI_clamp hp]
  refine ⟨fun i hi => ?_, fun i j hi hj => ?_, fun q hq hh => ?_, by have := h.l; omega⟩
  · by_cases z : i = r
    · rw [z, er]; exact ⟨e, by omega⟩
    · rw [o i z]
      exact ⟨(h.a i (by omega)).1, by have := (h.a i (by omega)).2; omega⟩
  · rw [o i (by omega)]
    by_cases z : j = r
    · rw [z, er]; exact (h.a i (by omega)).2
    · rw [o j z]
      exact h.m i j hi (by omega)
  · by_cases z : q = p
    · exact ⟨r, by omega, by rw [er, z]⟩
    · obtain ⟨i, i1, i2⟩ := h.c q (by omega) hh
      exact ⟨i, by omega, by rw [o i (by omega)]; exact i2⟩
/-- what a pair gains stands there -/
def GnX (G : Nat → Nat → Nat) (P V : Nat) (σ : St) : Prop := (∀ p v, p < P → v < V → σ.1 122 p 0 v = nI (G p v)) ∧ (∀ p v, G p v ≤ 999) ∧ P ≤ 20 ∧ V ≤ 24
def gaX (σ ρ : St) : Prop := (∀ f a b i, ¬ (124 ≤ f ∧ f ≤ 128) → ρ.1 f a b i = σ.1 f a b i) ∧ ρ.2 = σ.2
theorem gaX.rfl' {σ : St} : gaX σ σ := ⟨fun _ _ _ _ _ => rfl, rfl⟩
theorem gaX.tr {σ ρ τ : St} (h : gaX σ ρ) (k : gaX ρ τ) : gaX σ τ := ⟨fun f a b i z => (k.1 f a b i z).trans (h.1 f a b i z), k.2.trans h.2⟩
theorem gaX.w {σ ρ : St} {f a b i : Nat} {x : Int32} (h : gaX σ ρ) (hf : 124 ≤ f ∧ f ≤ 128) : gaX σ (sI ρ f a b i x) := ⟨fun f' a' b' i' z => by
  rw [sI_o (by omega)]
  exact h.1 f' a' b' i' z, h.2⟩
theorem gaX.g {G : Nat → Nat → Nat} {P V : Nat} {σ ρ : St} (h : gaX σ ρ) (g : GnX G P V σ) : GnX G P V ρ := ⟨fun p v a b => (h.1 _ _ _ _ (by decide)).trans (g.1 p v a b), g.2⟩
def hasP (G : Nat → Nat → Nat) (V p : Nat) : Prop := ∃ v, v < V ∧ G p v ≠ 0
def hasV (G : Nat → Nat → Nat) (P v : Nat) : Prop := ∃ p, p < P ∧ G p v ≠ 0
theorem or_0 (b : Bool) : (if b then (1 : Int32) else 0) ||| 0 = if b then 1 else 0 := by cases b <;> decide
theorem or_1 (b : Bool) : (if b then (1 : Int32) else 0) ||| 1 = 1 := by cases b <;> decide
theorem gath23 {N P V p r : Nat} {G : Nat → Nat → Nat} {go : Int32 → Int32 → Int32 → St → Option St} {σ : St} (hG : GnX G P V σ) (hp : p < P) (h126 : σ.1 126 0 0 0 = nI r) (hr : r < 20) : ∀ (e v m : Nat) (b : Bool), v + e = V → e < m → (b = true ↔ ∃ w, w < v ∧ G p w ≠ 0) → ∃ b' : Bool, (b' = true ↔ hasP G V p) ∧ fSending_gather_23 N go m (nI P) (nI V) (nI p) (if b then 1 else 0) (nI v) σ = if b' then go (nI P) (nI V) (nI (p + 1)) (sI (sI σ 124 0 0 r (nI p)) 126 0 0 0 (nI (r + 1))) else go (nI P) (nI V) (nI (p + 1)) σ := by
  obtain ⟨g1, g2, g3, g4⟩ := hG
  intro e
  induction e with
  | zero =>
    intro v m b h1 h2 hb
    obtain ⟨m, rfl⟩ : ∃ q, m = q + 1 := ⟨m - 1, by omega⟩
    have : v = V := by omega
    subst this
    refine ⟨b, hb, ?_⟩
    show (if nI v ≤ nI v then if (if b then (1 : Int32) else 0) = 0 then go (nI P) (nI v) (nI p + 1) σ else chk (inb (σ.1 126 0 0 0) 20) <| nm (sI σ 124 0 0 (σ.1 126 0 0 0).toNatClampNeg (nI p)) fun (σ1 : St) => nm (sI σ1 126 0 0 0 ((σ1.1 126 0 0 0) + 1)) fun (σ2 : St) => go (nI P) (nI v) (nI p + 1) σ2 else _) = _
    rw [if_pos (Int32.le_refl _), h126, chk_t (inb_n hr (by decide)), nmx, nmx, nI_clamp (by omega), sI_o (by decide), h126, nI_1, nI_1]
    cases b <;> rfl
  | succ e ih =>
    intro v m b h1 h2 hb
    obtain ⟨m, rfl⟩ : ∃ q, m = q + 1 := ⟨m - 1, by omega⟩
    cases b with
    | true =>
      have e0 : fSending_gather_23 N go (m + 1) (nI P) (nI V) (nI p) (if true then 1 else 0) (nI v) σ = fSending_gather_23 N go m (nI P) (nI V) (nI p) (if true then 1 else 0) (nI (v + 1)) σ := by
        show (if nI V ≤ nI v then _ else if (1 : Int32) = 0 then _ else fSending_gather_23 N go m (nI P) (nI V) (nI p) 1 (nI v + 1) σ) = _
        rw [if_neg (nI_ge (by omega) (by omega)), if_neg (show ¬ (1 : Int32) = 0 by decide), nI_1]
        rfl
      rw [e0]
      obtain ⟨w, w1, w2⟩ := hb.mp rfl
      exact ih (v + 1) m true (by omega) (by omega) ⟨fun _ => ⟨w, by omega, w2⟩, fun _ => rfl⟩
    | false =>
      have e0 : fSending_gather_23 N go (m + 1) (nI P) (nI V) (nI p) (if false then 1 else 0) (nI v) σ = if nI (G p v) ≤ 0 then fSending_gather_23 N go m (nI P) (nI V) (nI p) (if false then 1 else 0) (nI (v + 1)) σ else fSending_gather_23 N go m (nI P) (nI V) (nI p) (if true then 1 else 0) (nI (v + 1)) σ := by
        show (if nI V ≤ nI v then _ else if (0 : Int32) = 0 then (chk (inb (nI p) 20) <| chk (inb (nI v) 24) <| if (σ.1 122 ((nI p).toNatClampNeg) 0 (nI v).toNatClampNeg) ≤ 0 then fSending_gather_23 N go m (nI P) (nI V) (nI p) 0 (nI v + 1) σ else fSending_gather_23 N go m (nI P) (nI V) (nI p) 1 (nI v + 1) σ) else _) = _
        rw [if_neg (nI_ge (by omega) (by omega)), if_pos rfl, chk_t (inb_n (by omega) (by decide)), chk_t (inb_n (by omega) (by decide)), nI_clamp (n := p) (by omega), nI_clamp (n := v) (by omega), g1 p v hp (by omega), nI_1]
        rfl
      rw [e0]
      have gl := g2 p v
      by_cases c : G p v = 0
      · rw [if_pos (by rw [c]; exact Int32.le_refl _)]
        refine ih (v + 1) m false (by omega) (by omega) ⟨fun z => absurd z (by decide), fun ⟨w, w1, w2⟩ => ?_⟩
        by_cases k : w = v
        · rw [k] at w2; exact absurd c w2
        · exact hb.mpr ⟨w, by omega, w2⟩
      · rw [if_neg (show ¬ nI (G p v) ≤ (0 : Int32) from nI_ge (a := 0) (b := G p v) (by omega) (by omega))]
        exact ih (v + 1) m true (by omega) (by omega) ⟨fun _ => ⟨v, by omega, c⟩, fun _ => rfl⟩
theorem gath101 {N P V v r : Nat} {G : Nat → Nat → Nat} {go : Int32 → Int32 → Int32 → St → Option St} {σ : St} (hG : GnX G P V σ) (hv : v < V) (h127 : σ.1 127 0 0 0 = nI r) (hr : r < 24) : ∀ (e p m : Nat) (b : Bool), p + e = P → e < m → (b = true ↔ ∃ w, w < p ∧ G w v ≠ 0) → ∃ b' : Bool, (b' = true ↔ hasV G P v) ∧ fSending_gather_103 N go m (nI P) (nI V) (nI v) (if b then 1 else 0) (nI p) σ = if b' then go (nI P) (nI V) (nI (v + 1)) (sI (sI σ 125 0 0 r (nI v)) 127 0 0 0 (nI (r + 1))) else go (nI P) (nI V) (nI (v + 1)) σ := by
  obtain ⟨g1, g2, g3, g4⟩ := hG
  intro e
  induction e with
  | zero =>
    intro p m b h1 h2 hb
    obtain ⟨m, rfl⟩ : ∃ q, m = q + 1 := ⟨m - 1, by omega⟩
    have : p = P := by omega
    subst this
    refine ⟨b, hb, ?_⟩
    show (if nI p ≤ nI p then if (if b then (1 : Int32) else 0) = 0 then go (nI p) (nI V) (nI v + 1) σ else chk (inb (σ.1 127 0 0 0) 24) <| nm (sI σ 125 0 0 (σ.1 127 0 0 0).toNatClampNeg (nI v)) fun (σ1 : St) => nm (sI σ1 127 0 0 0 ((σ1.1 127 0 0 0) + 1)) fun (σ2 : St) => go (nI p) (nI V) (nI v + 1) σ2 else _) = _
    rw [if_pos (Int32.le_refl _), h127, chk_t (inb_n hr (by decide)), nmx, nmx, nI_clamp (by omega), sI_o (by decide), h127, nI_1, nI_1]
    cases b <;> rfl
  | succ e ih =>
    intro p m b h1 h2 hb
    obtain ⟨m, rfl⟩ : ∃ q, m = q + 1 := ⟨m - 1, by omega⟩
    cases b with
    | true =>
      have e0 : fSending_gather_103 N go (m + 1) (nI P) (nI V) (nI v) (if true then 1 else 0) (nI p) σ = fSending_gather_103 N go m (nI P) (nI V) (nI v) (if true then 1 else 0) (nI (p + 1)) σ := by
        show (if nI P ≤ nI p then _ else if (1 : Int32) = 0 then _ else fSending_gather_103 N go m (nI P) (nI V) (nI v) 1 (nI p + 1) σ) = _
        rw [if_neg (nI_ge (by omega) (by omega)), if_neg (show ¬ (1 : Int32) = 0 by decide), nI_1]
        rfl
      rw [e0]
      obtain ⟨w, w1, w2⟩ := hb.mp rfl
      exact ih (p + 1) m true (by omega) (by omega) ⟨fun _ => ⟨w, by omega, w2⟩, fun _ => rfl⟩
    | false =>
      have e0 : fSending_gather_103 N go (m + 1) (nI P) (nI V) (nI v) (if false then 1 else 0) (nI p) σ = if nI (G p v) ≤ 0 then fSending_gather_103 N go m (nI P) (nI V) (nI v) (if false then 1 else 0) (nI (p + 1)) σ else fSending_gather_103 N go m (nI P) (nI V) (nI v) (if true then 1 else 0) (nI (p + 1)) σ := by
        show (if nI P ≤ nI p then _ else if (0 : Int32) = 0 then (chk (inb (nI p) 20) <| chk (inb (nI v) 24) <| if (σ.1 122 ((nI p).toNatClampNeg) 0 (nI v).toNatClampNeg) ≤ 0 then fSending_gather_103 N go m (nI P) (nI V) (nI v) 0 (nI p + 1) σ else fSending_gather_103 N go m (nI P) (nI V) (nI v) 1 (nI p + 1) σ) else _) = _
        rw [if_neg (nI_ge (by omega) (by omega)), if_pos rfl, chk_t (inb_n (by omega) (by decide)), chk_t (inb_n (by omega) (by decide)), nI_clamp (n := p) (by omega), nI_clamp (n := v) (by omega), g1 p v (by omega) hv, nI_1]
        rfl
      rw [e0]
      have gl := g2 p v
      by_cases c : G p v = 0
      · rw [if_pos (by rw [c]; exact Int32.le_refl _)]
        refine ih (p + 1) m false (by omega) (by omega) ⟨fun z => absurd z (by decide), fun ⟨w, w1, w2⟩ => ?_⟩
        by_cases k : w = p
        · rw [k] at w2; exact absurd c w2
        · exact hb.mpr ⟨w, by omega, w2⟩
      · rw [if_neg (show ¬ nI (G p v) ≤ (0 : Int32) from nI_ge (a := 0) (b := G p v) (by omega) (by omega))]
        exact ih (p + 1) m true (by omega) (by omega) ⟨fun _ => ⟨p, by omega, c⟩, fun _ => rfl⟩
/-- who and where, gathered: unchanging from there on -/
abbrev SC (G : Nat → Nat → Nat) (P V R C : Nat) (wh wr : Nat → Nat) : Prop := (P ≤ 20) ∧ (V ≤ 24) ∧ (R ≤ P) ∧ (C ≤ V) ∧ (∀ i, i < R → wh i < P) ∧ (∀ c, c < C → wr c < V) ∧ (∀ i j, i < j → j < R → wh i < wh j) ∧ (∀ i j, i < j → j < C → wr i < wr j) ∧ (∀ q v, q < P → v < V → G q v ≠ 0 → ∃ i, i < R ∧ wh i = q) ∧ (∀ q v, q < P → v < V → G q v ≠ 0 → ∃ c, c < C ∧ wr c = v) ∧ (∀ p v, G p v ≤ 999)
theorem SC.P2 {G : Nat → Nat → Nat} {P V R C : Nat} {wh wr : Nat → Nat} (h : SC G P V R C wh wr) : P ≤ 20 := h.1
theorem SC.V2 {G : Nat → Nat → Nat} {P V R C : Nat} {wh wr : Nat → Nat} (h : SC G P V R C wh wr) : V ≤ 24 := h.2.1
theorem SC.R2 {G : Nat → Nat → Nat} {P V R C : Nat} {wh wr : Nat → Nat} (h : SC G P V R C wh wr) : R ≤ P := h.2.2.1
theorem SC.C2 {G : Nat → Nat → Nat} {P V R C : Nat} {wh wr : Nat → Nat} (h : SC G P V R C wh wr) : C ≤ V := h.2.2.2.1
theorem SC.a {G : Nat → Nat → Nat} {P V R C : Nat} {wh wr : Nat → Nat} (h : SC G P V R C wh wr) : ∀ i, i < R → wh i < P := h.2.2.2.2.1
theorem SC.b {G : Nat → Nat → Nat} {P V R C : Nat} {wh wr : Nat → Nat} (h : SC G P V R C wh wr) : ∀ c, c < C → wr c < V := h.2.2.2.2.2.1
theorem SC.ma {G : Nat → Nat → Nat} {P V R C : Nat} {wh wr : Nat → Nat} (h : SC G P V R C wh wr) : ∀ i j, i < j → j < R → wh i < wh j := h.2.2.2.2.2.2.1
theorem SC.mb {G : Nat → Nat → Nat} {P V R C : Nat} {wh wr : Nat → Nat} (h : SC G P V R C wh wr) : ∀ i j, i < j → j < C → wr i < wr j := h.2.2.2.2.2.2.2.1
theorem SC.ca {G : Nat → Nat → Nat} {P V R C : Nat} {wh wr : Nat → Nat} (h : SC G P V R C wh wr) : ∀ q v, q < P → v < V → G q v ≠ 0 → ∃ i, i < R ∧ wh i = q := h.2.2.2.2.2.2.2.2.1
theorem SC.cb {G : Nat → Nat → Nat} {P V R C : Nat} {wh wr : Nat → Nat} (h : SC G P V R C wh wr) : ∀ q v, q < P → v < V → G q v ≠ 0 → ∃ c, c < C ∧ wr c = v := h.2.2.2.2.2.2.2.2.2.1
theorem SC.k {G : Nat → Nat → Nat} {P V R C : Nat} {wh wr : Nat → Nat} (h : SC G P V R C wh wr) : ∀ p v, G p v ≤ 999 := h.2.2.2.2.2.2.2.2.2.2
abbrev SX (G : Nat → Nat → Nat) (P V R C : Nat) (wh wr : Nat → Nat) (σ : St) : Prop := (σ.1 126 0 0 0 = nI R) ∧ (σ.1 127 0 0 0 = nI C) ∧ (σ.1 128 0 0 0 = nI (R + C)) ∧ (∀ i, i < R → σ.1 124 0 0 i = nI (wh i)) ∧ (∀ c, c < C → σ.1 125 0 0 c = nI (wr c)) ∧ (∀ p v, p < P → v < V → σ.1 122 p 0 v = nI (G p v)) ∧ (SC G P V R C wh wr)
theorem SX.r {G : Nat → Nat → Nat} {P V R C : Nat} {wh wr : Nat → Nat} {σ : St} (h : SX G P V R C wh wr σ) : σ.1 126 0 0 0 = nI R := h.1
theorem SX.c {G : Nat → Nat → Nat} {P V R C : Nat} {wh wr : Nat → Nat} {σ : St} (h : SX G P V R C wh wr σ) : σ.1 127 0 0 0 = nI C := h.2.1
theorem SX.n {G : Nat → Nat → Nat} {P V R C : Nat} {wh wr : Nat → Nat} {σ : St} (h : SX G P V R C wh wr σ) : σ.1 128 0 0 0 = nI (R + C) := h.2.2.1
theorem SX.a {G : Nat → Nat → Nat} {P V R C : Nat} {wh wr : Nat → Nat} {σ : St} (h : SX G P V R C wh wr σ) : ∀ i, i < R → σ.1 124 0 0 i = nI (wh i) := h.2.2.2.1
theorem SX.b {G : Nat → Nat → Nat} {P V R C : Nat} {wh wr : Nat → Nat} {σ : St} (h : SX G P V R C wh wr σ) : ∀ c, c < C → σ.1 125 0 0 c = nI (wr c) := h.2.2.2.2.1
theorem SX.g {G : Nat → Nat → Nat} {P V R C : Nat} {wh wr : Nat → Nat} {σ : St} (h : SX G P V R C wh wr σ) : ∀ p v, p < P → v < V → σ.1 122 p 0 v = nI (G p v) := h.2.2.2.2.2.1
theorem SX.s {G : Nat → Nat → Nat} {P V R C : Nat} {wh wr : Nat → Nat} {σ : St} (h : SX G P V R C wh wr σ) : SC G P V R C wh wr := h.2.2.2.2.2.2
theorem SX.mv {G : Nat → Nat → Nat} {P V R C : Nat} {wh wr : Nat → Nat} {σ ρ : St} (h : SX G P V R C wh wr σ) (e : ∀ f a b i, (f = 122 ∨ (124 ≤ f ∧ f ≤ 128)) → ρ.1 f a b i = σ.1 f a b i) : SX G P V R C wh wr ρ := ⟨(e _ _ _ _ (by decide)).trans h.r, (e _ _ _ _ (by decide)).trans h.c, (e _ _ _ _ (by decide)).trans h.n, fun i hi => (e _ _ _ _ (by decide)).trans (h.a i hi), fun i hi => (e _ _ _ _ (by decide)).trans (h.b i hi), fun p v a b => (e _ _ _ _ (by decide)).trans (h.g p v a b), h.s⟩
theorem gath90 {N P V R : Nat} {G : Nat → Nat → Nat} (hN : 100 ≤ N) : ∀ (e v m r : Nat) (σ : St), v + e = V → e < m → GnX G P V σ → σ.1 126 0 0 0 = nI R → σ.1 127 0 0 0 = nI r → Lst (fun i => σ.1 125 0 0 i) r v (hasV G P) → Lst (fun i => σ.1 124 0 0 i) R P (hasP G V) → ∃ σ' C wh wr, fSending_gather_92 N m (nI P) (nI V) (nI v) σ = some σ' ∧ gaX σ σ' ∧ SX G P V R C wh wr σ' := by
  intro e
  induction e with
  | zero =>
    intro v m r σ h1 h2 hG h126 h127 hL hR
    obtain ⟨m, rfl⟩ : ∃ q, m = q + 1 := ⟨m - 1, by omega⟩
    have : v = V := by omega
    subst this
    obtain ⟨g1, g2, g3, g4⟩ := hG
    refine ⟨sI σ 128 0 0 0 (nI (R + r)), r, fun i => (σ.1 124 0 0 i).toNatClampNeg, fun i => (σ.1 125 0 0 i).toNatClampNeg, ?_, gaX.rfl'.w (by omega), ⟨by rw [sI_o (by decide), h126], by rw [sI_o (by decide), h127], sI_s _ _ _ _ _ _, fun i hi => by rw [sI_o (by decide)]; exact (hR.a i hi).1, fun i hi => by rw [sI_o (by decide)]; exact (hL.a i hi).1, fun p w a b => by rw [sI_o (by decide)]; exact g1 p w a b, ⟨g3, g4, hR.l, hL.l, fun i hi => (hR.a i hi).2, fun i hi => (hL.a i hi).2, hR.m, hL.m, fun q w a b c => hR.c q a ⟨w, b, c⟩, fun q w a b c => hL.c w b ⟨q, a, c⟩, g2⟩⟩⟩
    show (if nI v ≤ nI v then nm (sI σ 128 0 0 0 ((σ.1 126 0 0 0) + (σ.1 127 0 0 0))) fun (σ1 : St) => some σ1 else _) = _
    rw [if_pos (Int32.le_refl _), nmx, h126, h127, nI_add]
  | succ e ih =>
    intro v m r σ h1 h2 hG h126 h127 hL hR
    obtain ⟨m, rfl⟩ : ∃ q, m = q + 1 := ⟨m - 1, by omega⟩
    have g4 := hG.2.2.2
    have g3 := hG.2.2.1
    have rl := hL.l
    have e0 : fSending_gather_92 N (m + 1) (nI P) (nI V) (nI v) σ = fSending_gather_103 N (fSending_gather_92 N m) N (nI P) (nI V) (nI v) (if false then 1 else 0) (nI 0) σ := by
      show (if nI V ≤ nI v then _ else fSending_gather_103 N (fSending_gather_92 N m) N (nI P) (nI V) (nI v) 0 0 σ) = _
      rw [if_neg (nI_ge (by omega) (by omega))]
      rfl
    obtain ⟨b, b1, b2⟩ := gath101 (N := N) (v := v) (go := fSending_gather_92 N m) hG (by omega) h127 (by omega) P 0 N false (by omega) (by omega) ⟨fun z => absurd z (by decide), fun ⟨w, w1, _⟩ => absurd w1 (by omega)⟩
    rw [e0, b2]
    cases b with
    | false =>
      exact ih (v + 1) m r σ (by omega) (by omega) hG h126 h127 (hL.skip fun z => absurd (b1.mpr z) (by decide)) hR
    | true =>
      obtain ⟨σ', C, wh, wr, c1, c2, c3⟩ := ih (v + 1) m (r + 1) (sI (sI σ 125 0 0 r (nI v)) 127 0 0 0 (nI (r + 1))) (by omega) (by omega) (((gaX.rfl'.w (by omega)).w (by omega)).g hG) (by rw [sI_o (by decide), sI_o (by decide)]; exact h126) (sI_s _ _ _ _ _ _) (hL.add (by omega) (by rw [sI_o (by decide), sI_s]) (fun i hi => by rw [sI_o (by decide), sI_i hi])) (by
        have e : (fun i => (sI (sI σ 125 0 0 r (nI v)) 127 0 0 0 (nI (r + 1))).1 124 0 0 i) = fun i => σ.1 124 0 0 i := funext fun i => by rw [sI_o (by decide), sI_o (by decide)]
        rw [e]
        exact hR)
      exact ⟨σ', C, wh, wr, c1, ((gaX.rfl'.w (by omega)).w (by omega)).tr c2, c3⟩
theorem gath12 {N P V : Nat} {G : Nat → Nat → Nat} (hN : 100 ≤ N) : ∀ (e p m r : Nat) (σ : St), p + e = P → e < m → GnX G P V σ → σ.1 126 0 0 0 = nI r → σ.1 127 0 0 0 = nI 0 → Lst (fun i => σ.1 124 0 0 i) r p (hasP G V) → ∃ σ' R C wh wr, fSending_gather_12 N m (nI P) (nI V) (nI p) σ = some σ' ∧ gaX σ σ' ∧ SX G P V R C wh wr σ' := by
  intro e
  induction e with
  | zero =>
    intro p m r σ h1 h2 hG h126 h127 hL
    obtain ⟨m, rfl⟩ : ∃ q, m = q + 1 := ⟨m - 1, by omega⟩
    have : p = P := by omega
    subst this
    have g4 := hG.2.2.2
    obtain ⟨σ', C, wh, wr, c1, c2, c3⟩ := gath90 (N := N) (R := r) hN V 0 N 0 σ (by omega) (by omega) hG h126 h127 ⟨fun i hi => absurd hi (by omega), fun i j _ hj => absurd hj (by omega), fun q hq => absurd hq (by omega), Nat.le_refl _⟩ hL
    refine ⟨σ', r, C, wh, wr, ?_, c2, c3⟩
    show (if nI p ≤ nI p then fSending_gather_92 N N (nI p) (nI V) (nI 0) σ else _) = _
    rw [if_pos (Int32.le_refl _)]
    exact c1
  | succ e ih =>
    intro p m r σ h1 h2 hG h126 h127 hL
    obtain ⟨m, rfl⟩ : ∃ q, m = q + 1 := ⟨m - 1, by omega⟩
    have g4 := hG.2.2.2
    have g3 := hG.2.2.1
    have rl := hL.l
    have e0 : fSending_gather_12 N (m + 1) (nI P) (nI V) (nI p) σ = fSending_gather_23 N (fSending_gather_12 N m) N (nI P) (nI V) (nI p) (if false then 1 else 0) (nI 0) σ := by
      show (if nI P ≤ nI p then _ else fSending_gather_23 N (fSending_gather_12 N m) N (nI P) (nI V) (nI p) 0 0 σ) = _
      rw [if_neg (nI_ge (by omega) (by omega))]
      rfl
    obtain ⟨b, b1, b2⟩ := gath23 (N := N) (p := p) (go := fSending_gather_12 N m) hG (by omega) h126 (by omega) V 0 N false (by omega) (by omega) ⟨fun z => absurd z (by decide), fun ⟨w, w1, _⟩ => absurd w1 (by omega)⟩
    rw [e0, b2]
    cases b with
    | false =>
      exact ih (p + 1) m r σ (by omega) (by omega) hG h126 h127 (hL.skip fun z => absurd (b1.mpr z) (by decide))
    | true =>
      obtain ⟨σ', R, C, wh, wr, c1, c2, c3⟩ := ih (p + 1) m (r + 1) (sI (sI σ 124 0 0 r (nI p)) 126 0 0 0 (nI (r + 1))) (by omega) (by omega) (((gaX.rfl'.w (by omega)).w (by omega)).g hG) (sI_s _ _ _ _ _ _) (by rw [sI_o (by decide), sI_o (by decide)]; exact h127) (hL.add (by omega) (by rw [sI_o (by decide), sI_s]) (fun i hi => by rw [sI_o (by decide), sI_i hi]))
      exact ⟨σ', R, C, wh, wr, c1, ((gaX.rfl'.w (by omega)).w (by omega)).tr c2, c3⟩
theorem gather_e {N P V : Nat} {G : Nat → Nat → Nat} {σ : St} (hN : 100 ≤ N) (hG : GnX G P V σ) : ∃ σ' R C wh wr, fSending_gather N (nI P) (nI V) σ = some σ' ∧ gaX σ σ' ∧ SX G P V R C wh wr σ' := by
  have g3 := hG.2.2.1
  obtain ⟨σ', R, C, wh, wr, c1, c2, c3⟩ := gath12 (N := N) hN P 0 N 0 (sI (sI σ 126 0 0 0 0) 127 0 0 0 0) (by omega) (by omega) (((gaX.rfl'.w (by omega)).w (by omega)).g hG) (by rw [sI_o (by decide), sI_s]; rfl) (sI_s _ _ _ _ _ _) ⟨fun i hi => absurd hi (by omega), fun i j _ hj => absurd hj (by omega), fun q hq => absurd hq (by omega), Nat.le_refl _⟩
  exact ⟨σ', R, C, wh, wr, c1, ((gaX.rfl'.w (by omega)).w (by omega)).tr c2, c3⟩
/-- what a row at a column costs -/
def cst (G : Nat → Nat → Nat) (R C : Nat) (wh wr : Nat → Nat) (i j : Nat) : Int := if R < i ∨ C < j then 0 else if G (wh (i - 1)) (wr (j - 1)) = 0 then 1 else -(G (wh (i - 1)) (wr (j - 1)) : Int)
def isPr (G : Nat → Nat → Nat) (R C : Nat) (wh wr : Nat → Nat) (i j : Nat) : Bool := decide (i ≤ R ∧ j ≤ C ∧ G (wh (i - 1)) (wr (j - 1)) ≠ 0)
theorem SX.in {P V R C i j : Nat} {G : Nat → Nat → Nat} {wh wr : Nat → Nat} {σ : St} (h : SX G P V R C wh wr σ) (hi : i < R) (hj : j < C) : inb (σ.1 124 0 0 (nI i).toNatClampNeg) 20 ∧ inb (σ.1 125 0 0 (nI j).toNatClampNeg) 24 := by
  have p2 := h.s.P2
  have v2 := h.s.V2
  have r2 := h.s.R2
  have c2 := h.s.C2
  have wa := h.s.a i hi
  have wb := h.s.b j hj
  rw [nI_clamp (n := i) (by omega), nI_clamp (n := j) (by omega), h.a i hi, h.b j hj]
  exact ⟨inb_n (by omega) (by decide), inb_n (by omega) (by decide)⟩
theorem isPair_e {N P V R C i j : Nat} {G : Nat → Nat → Nat} {wh wr : Nat → Nat} {σ : St} (h : SX G P V R C wh wr σ) (hi : 1 ≤ i) (hj : 1 ≤ j) (hi2 : i ≤ 44) (hj2 : j ≤ 44) : fSending_isPair N (nI i) (nI j) σ = some (if isPr G R C wh wr i j then 1 else 0) := by
  have p2 := h.s.P2
  have v2 := h.s.V2
  have r2 := h.s.R2
  have c2 := h.s.C2
  unfold fSending_isPair isPr
  rw [h.r, h.c]
  by_cases k1 : R < i
  · rw [if_pos (nI_lt k1 (by omega)), decide_eq_false (by omega)]
    rfl
  rw [if_neg (fun z => k1 (by
    have := Int32.lt_iff_toInt_lt.mp z
    rw [nI_toInt (by omega), nI_toInt (by omega)] at this
    omega))]
  by_cases k2 : C < j
  · rw [if_pos (nI_lt k2 (by omega)), decide_eq_false (by omega)]
    rfl
  rw [if_neg (fun z => k2 (by
    have := Int32.lt_iff_toInt_lt.mp z
    rw [nI_toInt (by omega), nI_toInt (by omega)] at this
    omega))]
  obtain ⟨i, rfl⟩ : ∃ q, i = q + 1 := ⟨i - 1, by omega⟩
  obtain ⟨j, rfl⟩ : ∃ q, j = q + 1 := ⟨j - 1, by omega⟩
  have wa := h.s.a i (by omega)
  have wb := h.s.b j (by omega)
  have gl := h.s.k (wh i) (wr j)
  obtain ⟨i1, i2⟩ := SX.in h (i := i) (j := j) (by omega) (by omega)
  rw [nI_sub1, nI_sub1, chk_t (inb_n (by omega) (by decide)), chk_t i1, chk_t (inb_n (by omega) (by decide)), chk_t i2, nI_clamp (n := i) (by omega), nI_clamp (n := j) (by omega), h.a i (by omega), h.b j (by omega), nI_clamp (n := wh i) (by omega), nI_clamp (n := wr j) (by omega), h.g _ _ wa wb]
  show _ = some (if decide (i + 1 ≤ R ∧ j + 1 ≤ C ∧ G (wh i) (wr j) ≠ 0) then (1 : Int32) else 0)
  by_cases k3 : G (wh i) (wr j) = 0
  · rw [if_pos (by rw [k3]; exact Int32.le_refl _), decide_eq_false (by omega)]
    rfl
  · rw [if_neg (show ¬ nI (G (wh i) (wr j)) ≤ (0 : Int32) from nI_ge (a := 0) (b := G (wh i) (wr j)) (by omega) (by omega)), decide_eq_true ⟨by omega, by omega, k3⟩]
    rfl
theorem costOf_e {N P V R C i j : Nat} {G : Nat → Nat → Nat} {wh wr : Nat → Nat} {σ : St} (h : SX G P V R C wh wr σ) (hi : 1 ≤ i) (hj : 1 ≤ j) (hi2 : i ≤ 44) (hj2 : j ≤ 44) : ∃ x, fSending_costOf N (nI i) (nI j) σ = some x ∧ x.toInt = cst G R C wh wr i j := by
  have p2 := h.s.P2
  have v2 := h.s.V2
  have r2 := h.s.R2
  have c2 := h.s.C2
  unfold fSending_costOf cst
  rw [h.r, h.c]
  by_cases k1 : R < i
  · rw [if_pos (nI_lt k1 (by omega)), if_pos (Or.inl k1)]
    exact ⟨0, rfl, rfl⟩
  rw [if_neg (fun z => k1 (by
    have := Int32.lt_iff_toInt_lt.mp z
    rw [nI_toInt (by omega), nI_toInt (by omega)] at this
    omega))]
  by_cases k2 : C < j
  · rw [if_neg (nI_ge k2 (by omega)), if_pos (Or.inr k2)]
    exact ⟨0, rfl, rfl⟩
  rw [if_pos (show nI j ≤ nI C from Int32.le_iff_toInt_le.mpr (by rw [nI_toInt (by omega), nI_toInt (by omega)]; omega)), isPair_e h hi hj hi2 hj2, bn1_e, if_neg (show ¬ (R < i ∨ C < j) by omega)]
  obtain ⟨i, rfl⟩ : ∃ q, i = q + 1 := ⟨i - 1, by omega⟩
  obtain ⟨j, rfl⟩ : ∃ q, j = q + 1 := ⟨j - 1, by omega⟩
  have wa := h.s.a i (by omega)
  have wb := h.s.b j (by omega)
  have gl := h.s.k (wh i) (wr j)
  show ∃ x : Int32, (if (if decide (i + 1 ≤ R ∧ j + 1 ≤ C ∧ G (wh i) (wr j) ≠ 0) then (1 : Int32) else 0) = 0 then some 1 else _) = some x ∧ x.toInt = if G (wh i) (wr j) = 0 then 1 else -(G (wh i) (wr j) : Int)
  by_cases k3 : G (wh i) (wr j) = 0
  · rw [decide_eq_false (p := i + 1 ≤ R ∧ j + 1 ≤ C ∧ G (wh i) (wr j) ≠ 0) (by omega), if_pos (show (if false = true then (1 : Int32) else 0) = 0 by decide), if_pos k3]
    exact ⟨1, rfl, rfl⟩
  · obtain ⟨i1, i2⟩ := SX.in h (i := i) (j := j) (by omega) (by omega)
    rw [decide_eq_true (p := i + 1 ≤ R ∧ j + 1 ≤ C ∧ G (wh i) (wr j) ≠ 0) ⟨by omega, by omega, k3⟩, if_neg (by decide), if_neg k3, nI_sub1, nI_sub1, chk_t (inb_n (by omega) (by decide)), chk_t i1, chk_t (inb_n (by omega) (by decide)), chk_t i2, nI_clamp (n := i) (by omega), nI_clamp (n := j) (by omega), h.a i (by omega), h.b j (by omega), nI_clamp (n := wh i) (by omega), nI_clamp (n := wr j) (by omega), h.g _ _ wa wb]
    refine ⟨_, rfl, ?_⟩
    rw [Int32.toInt_neg, nI_toInt (by omega)]
    exact Int.bmod_eq_of_le (by omega) (by omega)
def rpX (σ : St) (i : Nat) : Int := (σ.1 129 0 0 i).toInt
def cpX (σ : St) (j : Nat) : Int := (σ.1 130 0 0 j).toInt
theorem over_e {N P V R C i j : Nat} {G : Nat → Nat → Nat} {wh wr : Nat → Nat} {σ : St} (h : SX G P V R C wh wr σ) (hi : 1 ≤ i) (hj : 1 ≤ j) (hi2 : i ≤ 44) (hj2 : j ≤ 44) (b1 : -100000 ≤ rpX σ i ∧ rpX σ i ≤ 100000) (b2 : -100000 ≤ cpX σ j ∧ cpX σ j ≤ 100000) : ∃ x, fSending_overPrice N (nI i) (nI j) σ = some x ∧ x.toInt = cst G R C wh wr i j - rpX σ i - cpX σ j := by
  obtain ⟨x, x1, x2⟩ := costOf_e (N := N) h hi hj hi2 hj2
  have cb : -999 ≤ cst G R C wh wr i j ∧ cst G R C wh wr i j ≤ 1 := by
    have := h.s.k (wh (i - 1)) (wr (j - 1))
    unfold cst
    split
    · omega
    · split <;> omega
  unfold fSending_overPrice
  rw [x1, bn1_e, chk_t (inb_n (by omega) (by decide)), chk_t (inb_n (by omega) (by decide)), nI_clamp (n := i) (by omega), nI_clamp (n := j) (by omega)]
  refine ⟨_, rfl, ?_⟩
  unfold rpX at b1 ⊢
  unfold cpX at b2 ⊢
  have e1 : (x - σ.1 129 0 0 i).toInt = x.toInt - (σ.1 129 0 0 i).toInt := by
    rw [Int32.toInt_sub]
    exact Int.bmod_eq_of_le (by omega) (by omega)
  rw [Int32.toInt_sub, e1, x2]
  exact Int.bmod_eq_of_le (by omega) (by omega)
