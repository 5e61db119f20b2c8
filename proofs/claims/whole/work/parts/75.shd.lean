/-! the law of a day: which texts are in force, the latest last -/
def insR (fr : Nat → Int32) (t : Nat) : List Nat → List Nat
  | [] => [t]
  | x :: r => if fr x ≤ fr t then x :: insR fr t r else t :: x :: r
def isF (fr to : Nat → Int32) (d : Int32) (t : Nat) : Bool := decide (fr t ≤ d) && decide (d < to t)
def forR (fr to : Nat → Int32) (d : Int32) : Nat → List Nat
  | 0 => []
  | n + 1 => if isF fr to d n = true then insR fr n (forR fr to d n) else forR fr to d n
theorem insR_len (fr : Nat → Int32) (t : Nat) : ∀ r, (insR fr t r).length = r.length + 1
  | [] => rfl
  | x :: r => by
    unfold insR
    split
    · rw [List.length_cons, insR_len fr t r, List.length_cons]
    · rfl
theorem insR_mem (fr : Nat → Int32) (t x : Nat) : ∀ r, x ∈ insR fr t r → x = t ∨ x ∈ r
  | [], h => Or.inl (by simpa [insR] using h)
  | y :: r, h => by
    unfold insR at h
    split at h
    · rcases List.mem_cons.mp h with h | h
      · exact Or.inr (by rw [h]; exact List.mem_cons_self)
      · exact (insR_mem fr t x r h).imp_right (List.mem_cons_of_mem _)
    · rcases List.mem_cons.mp h with h | h
      · exact Or.inl h
      · exact Or.inr h
theorem forR_lt (fr to : Nat → Int32) (d : Int32) : ∀ n x, x ∈ forR fr to d n → x < n
  | 0, x, h => absurd h (by simp [forR])
  | n + 1, x, h => by
    unfold forR at h
    split at h
    · rcases insR_mem _ _ _ _ h with h | h
      · omega
      · have := forR_lt fr to d n x h
        omega
    · have := forR_lt fr to d n x h
      omega
theorem forR_len (fr to : Nat → Int32) (d : Int32) : ∀ n, (forR fr to d n).length ≤ n
  | 0 => Nat.le_refl 0
  | n + 1 => by
    have := forR_len fr to d n
    unfold forR
    split
    · rw [insR_len]
      omega
    · omega
theorem forR_congr {fr to fr' to' : Nat → Int32} {d d' : Int32} : ∀ n, (∀ t, t < n → fr t = fr' t ∧ isF fr to d t = isF fr' to' d' t) → forR fr to d n = forR fr' to' d' n
  | 0, _ => rfl
  | n + 1, h => by
    have ih := forR_congr n (fun t ht => h t (by omega))
    have hi : ∀ r : List Nat, (∀ x ∈ r, x < n + 1) → insR fr n r = insR fr' n r := by
      intro r
      induction r with
      | nil => intro _; rfl
      | cons x r ihr =>
        intro hr
        unfold insR
        rw [(h x (hr x List.mem_cons_self)).1, (h n (by omega)).1, ihr (fun y hy => hr y (List.mem_cons_of_mem _ hy))]
    unfold forR
    rw [(h n (by omega)).2, ← ih, hi _ (fun x hx => by have := forR_lt _ _ _ _ _ hx; omega)]
/-- what an array holds of a list, its last place the list's head -/
def Rep (g : Nat → Int32) : List Nat → Prop
  | [] => True
  | x :: r => g r.length = nI x ∧ Rep g r
theorem Rep.eq {g g' : Nat → Int32} : ∀ r : List Nat, (∀ i, i < r.length → g' i = g i) → Rep g r → Rep g' r
  | [], _, _ => trivial
  | x :: r, h, ⟨h1, h2⟩ => ⟨(h _ (by rw [List.length_cons]; omega)).trans h1, Rep.eq r (fun i hi => h i (by rw [List.length_cons]; omega)) h2⟩
/-! what the texts in force make of the law -/
def lT (TC : Nat → List Cl) (w : Nat) (x : Option (Nat × Cl)) (t : Nat) : Option (Nat × Cl) := match lst (isW w) (TC t) with | some c => some (t, c) | none => x
def pT (TC : Nat → List Cl) (k : Nat) (x : Int32) (t : Nat) : Int32 := match lst (isP k) (TC t) with | some c => nI c.two | none => x
def iT (TC : Nat → List Cl) (x : Int32) (t : Nat) : Int32 := match lst (isW 0) (TC t) with | some c => nI c.one | none => x
def sT (TC : Nat → List Cl) (x : Option Nat) (t : Nat) : Option Nat := if ((TC t).filter (isW 5)).length = 0 then x else some t
/-- a sheet: the texts in force (the latest last), what each of the last clauses is, the parameters, the insured -/
abbrev Sheet : Type := List Nat × (Nat → Option (Nat × Cl)) × (Nat → Int32) × Int32 × Option Nat
def sheetR (TC : Nat → List Cl) (R : List Nat) : Sheet := (R, fun w => R.foldl (lT TC w) none, fun k => R.foldl (pT TC k) (dflts k), R.foldl (iT TC) 0, R.foldl (sT TC) none)
def Sheet.R (s : Sheet) : List Nat := s.1
def Sheet.last (s : Sheet) (w : Nat) : Option (Nat × Cl) := s.2.1 w
def Sheet.par (s : Sheet) (k : Nat) : Int32 := s.2.2.1 k
def Sheet.ins (s : Sheet) : Int32 := s.2.2.2.1
def Sheet.by (s : Sheet) : Option Nat := s.2.2.2.2
/-- the reference's sheet -/
def LCr (TC : Nat → List Cl) (x : Option (Nat × Cl)) (v : Int32) : Prop := (x = none ∧ v = -1) ∨ ∃ t c i, x = some (t, c) ∧ t < 17 ∧ i < 24 ∧ (TC t)[i]? = some c ∧ v = nI (24 * t + i)
def ShM (TC : Nat → List Cl) (s : Sheet) (μ : St) : Prop := Rep (fun i => μ.1 262 0 0 i) s.R ∧ μ.1 263 0 0 0 = nI s.R.length ∧ (∀ w, w < 7 → LCr TC (s.last w) (μ.1 264 0 0 w)) ∧ (∀ k, k < 8 → μ.1 265 0 0 k = s.par k) ∧ (∀ t ∈ s.R, t < 17)
def lawM (f : Nat) : Bool := decide (262 ≤ f) && decide (f ≤ 265)
/-- what the reference knows of its texts -/
def TxM (TC : Nat → List Cl) (n : Nat) (μ : St) : Prop := ∀ t, t < n → μ.1 238 0 0 t = nI (TC t).length ∧ (TC t).length ≤ 24 ∧ ∀ i c, (TC t)[i]? = some c → ClOk c ∧ ClM t 900 i c μ
theorem TxM.mv {TC : Nat → List Cl} {n : Nat} {μ μ' : St} (h : TxM TC n μ) (hm : ∀ f i, 238 ≤ f → f ≤ 245 → μ'.1 f 0 0 i = μ.1 f 0 0 i) : TxM TC n μ' := by
  intro t ht
  obtain ⟨h1, h2, h3⟩ := h t ht
  refine ⟨(hm _ _ (by decide) (by decide)).trans h1, h2, fun i c hc => ?_⟩
  obtain ⟨g1, a1, a2, a3, a4, a5⟩ := h3 i c hc
  refine ⟨g1, (hm _ _ (by decide) (by decide)).trans a1, fun q => (hm _ _ (by decide) (by decide)).trans (a2 q), fun q => ⟨(hm _ _ (by decide) (by decide)).trans (a3 q).1, (hm _ _ (by decide) (by decide)).trans (a3 q).2⟩, fun q => (hm _ _ (by decide) (by decide)).trans (a4 q), fun q => ?_⟩
  obtain ⟨e1, e2, e3, e4, e5, e6⟩ := a5 q
  exact ⟨(hm _ _ (by decide) (by decide)).trans e1, (hm _ _ (by decide) (by decide)).trans e2, (hm _ _ (by decide) (by decide)).trans e3, At_eq _ _ (fun j b1 b2 => hm _ _ (by decide) (by decide)) e4, At_eq _ _ (fun j b1 b2 => hm _ _ (by decide) (by decide)) e5, e6⟩
theorem Fx.law {μ μ' : St} (h : Fx lawM μ μ') {f a b i : Nat} (hf : ¬ (262 ≤ f ∧ f ≤ 265)) : μ'.1 f a b i = μ.1 f a b i := h.1 f a b i (by simp [lawM]; omega)
theorem Fx.ls {μ : St} {f a b i : Nat} {x : Int32} (h : 262 ≤ f ∧ f ≤ 265) : Fx lawM μ (sI μ f a b i x) := Fx.s (by simp [lawM]; omega)
/-- putting a text among those in force -/
theorem mIns {N t : Nat} {x1 x2 : Int32} {go : Int32 → Int32 → Int32 → St → Option St} (ht : t < 17) : ∀ (r : List Nat) (m : Nat) (μ : St), r.length < m → r.length < 17 → (∀ x ∈ r, x < t) → Rep (fun i => μ.1 262 0 0 i) r →
    ∃ μ', fM_tellLaw_97 N go m x1 x2 (nI t) (nI r.length) μ = (nm (sI μ' 263 0 0 0 (μ'.1 263 0 0 0 + 1)) fun μ2 => go x1 x2 (nI t + 1) μ2) ∧ Rep (fun i => μ'.1 262 0 0 i) (insR (fun t => μ.1 235 0 0 t) t r) ∧ (∀ f a b i, f ≠ 262 → μ'.1 f a b i = μ.1 f a b i) ∧ (∀ i, r.length < i → μ'.1 262 0 0 i = μ.1 262 0 0 i) ∧ μ'.2 = μ.2 := by
  intro r
  induction r with
  | nil =>
    intro m μ h1 h2 h3 h4
    obtain ⟨m, rfl⟩ : ∃ q, m = q + 1 := ⟨m - 1, by omega⟩
    refine ⟨sI μ 262 0 0 0 (nI t), ?_, ⟨sI_s .., trivial⟩, fun f a b i q => sI_o q, fun i hi => sI_i (by have : 0 < i := hi; omega), rfl⟩
    show (if nI 0 ≤ 0 then fM_tellLaw_141 N go x1 x2 (nI t) (nI 0) μ else _) = _
    rw [if_pos (by decide)]
    unfold fM_tellLaw_141
    rw [chk_t (inb_n (by decide) (by decide)), nmx]
    rfl
  | cons x r ih =>
    intro m μ h1 h2 h3 h4
    rw [List.length_cons] at h1 h2 ⊢
    obtain ⟨m, rfl⟩ : ∃ q, m = q + 1 := ⟨m - 1, by omega⟩
    have hx := h3 x List.mem_cons_self
    have e0 : fM_tellLaw_97 N go (m + 1) x1 x2 (nI t) (nI (r.length + 1)) μ = bn1 (fM_isLater N (nI t) (nI x) μ) fun r1 => if r1 = 0 then fM_tellLaw_141 N go x1 x2 (nI t) (nI (r.length + 1)) μ else fM_tellLaw_97 N go m x1 x2 (nI t) (nI r.length) (sI μ 262 0 0 (r.length + 1) (nI x)) := by
      show (if nI (r.length + 1) ≤ 0 then _ else chk (inb (nI (r.length + 1) - 1) 17) (bn1 (fM_isLater N (nI t) (μ.1 262 0 0 (nI (r.length + 1) - 1).toNatClampNeg) μ) fun r1 => if r1 = 0 then _ else chk (inb (nI (r.length + 1)) 17) (nm (sI μ 262 0 0 (nI (r.length + 1)).toNatClampNeg (μ.1 262 0 0 (nI (r.length + 1) - 1).toNatClampNeg)) fun (σ2 : St) => fM_tellLaw_97 N go m x1 x2 (nI t) (nI (r.length + 1) + (-1)) σ2))) = _
      rw [if_neg (nI_nle (by omega) (by omega)), nI_sub1, chk_t (inb_n (by omega) (by decide)), nI_clamp (by omega), show μ.1 262 0 0 r.length = nI x from h4.1, chk_t (inb_n (by omega) (by decide)), nmx, nI_clamp (by omega), nI_pred']
    have eL : fM_isLater N (nI t) (nI x) μ = some (if μ.1 235 0 0 x ≤ μ.1 235 0 0 t then 1 else 0) := by
      unfold fM_isLater fM_isLater_35
      rw [chk_t (inb_n ht (by decide)), chk_t (inb_n (by omega) (by decide)), nI_clamp (by omega), nI_clamp (by omega)]
      by_cases c : μ.1 235 0 0 x < μ.1 235 0 0 t
      · rw [if_pos c, if_pos (Int32.le_of_lt c)]
      · rw [if_neg c]
        by_cases c2 : μ.1 235 0 0 t = μ.1 235 0 0 x
        · rw [if_pos c2, if_neg (nI_ge hx (by omega)), if_pos (by rw [c2]; exact Int32.le_refl _)]
        · rw [if_neg c2, if_neg]
          intro q
          rw [Int32.lt_iff_toInt_lt] at c
          rw [Int32.le_iff_toInt_le] at q
          exact c2 (Int32.toInt_inj.mp (by omega))
    rw [e0, eL, bn1_e]
    show ∃ μ', (if (if μ.1 235 0 0 x ≤ μ.1 235 0 0 t then (1 : Int32) else 0) = 0 then _ else _) = _ ∧ Rep _ (if μ.1 235 0 0 x ≤ μ.1 235 0 0 t then x :: insR (fun t => μ.1 235 0 0 t) t r else t :: x :: r) ∧ _
    by_cases c : μ.1 235 0 0 x ≤ μ.1 235 0 0 t
    · rw [if_pos c, if_neg (by decide), if_pos c]
      obtain ⟨μ', i1, i2, i3, i4, i5⟩ := ih m (sI μ 262 0 0 (r.length + 1) (nI x)) (by omega) (by omega) (fun y hy => h3 y (List.mem_cons_of_mem _ hy)) (Rep.eq r (fun i hi => sI_i (by omega)) h4.2)
      refine ⟨μ', i1, ⟨?_, i2⟩, fun f a b i q => (i3 f a b i q).trans (sI_o q), fun i hi => (i4 i (by omega)).trans (sI_i (by omega)), i5⟩
      dsimp only
      rw [insR_len, i4 _ (by omega), sI_s]
    · rw [if_neg c, if_pos rfl, if_neg c]
      refine ⟨sI μ 262 0 0 (r.length + 1) (nI t), ?_, ⟨sI_s .., Rep.eq (x :: r) (fun i hi => sI_i (by rw [List.length_cons] at hi; omega)) h4⟩, fun f a b i q => sI_o q, fun i hi => sI_i (by omega), rfl⟩
      unfold fM_tellLaw_141
      rw [chk_t (inb_n (by omega) (by decide)), nmx, nI_clamp (by omega)]
/-- which texts the reference takes -/
def takes (μ : St) (k : Int32) (n : Nat) : Prop := ∃ n0 : Nat, μ.1 219 0 0 0 = nI n0 ∧ ((μ.1 266 0 0 0 = 0 ∧ n ≤ n0 ∧ n0 ≤ 16 ∧ (∀ t, t < n → μ.1 237 0 0 t ≤ k) ∧ (∀ t, n ≤ t → t < n0 → k < μ.1 237 0 0 t)) ∨ (μ.1 266 0 0 0 ≠ 0 ∧ n = n0 + 1 ∧ n0 ≤ 16 ∧ ∀ t, t < n0 → μ.1 237 0 0 t ≤ k))
