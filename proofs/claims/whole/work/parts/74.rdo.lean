/-! a text read by both -/
theorem fillP {N t : Nat} (ht : t < 17) : ∀ (d i m : Nat) (σ : St), i + d = 8 → d < m → ∃ σ', fArrays_fill_Act_params_5 N t m (-1) (nI i) 8 σ = some σ' ∧ (∀ f a b j, ¬ (f = 3 ∧ a = t) → σ'.1 f a b j = σ.1 f a b j) ∧ σ'.2 = σ.2 ∧ (∀ j, j < i → σ'.1 3 t 0 j = σ.1 3 t 0 j) ∧ (∀ j, i ≤ j → j < 8 → σ'.1 3 t 0 j = -1) := by
  intro d
  induction d with
  | zero =>
    intro i m σ h1 h2
    obtain ⟨m, rfl⟩ : ∃ q, m = q + 1 := ⟨m - 1, by omega⟩
    obtain rfl : i = 8 := by omega
    exact ⟨σ, rfl, fun _ _ _ _ _ => rfl, rfl, fun _ _ => rfl, fun j a b => by omega⟩
  | succ d ih =>
    intro i m σ h1 h2
    obtain ⟨m, rfl⟩ : ∃ q, m = q + 1 := ⟨m - 1, by omega⟩
    obtain ⟨σ', k1, k2, k3, k4, k5⟩ := ih (i + 1) m (sI σ 3 t 0 i (-1)) (by omega) (by omega)
    refine ⟨σ', ?_, fun f a b j q => ?_, k3, fun j hj => ?_, fun j hj hj2 => ?_⟩
    · show (if (8 : Int32) ≤ nI i then _ else chk (inb (nI i) 8) (nm (sI σ 3 t 0 (nI i).toNatClampNeg (-1)) fun (σ1 : St) => fArrays_fill_Act_params_5 N t m (-1) (nI i + 1) 8 σ1)) = _
      rw [if_neg (show ¬ (8 : Int32) ≤ nI i from nI_ge (a := i) (b := 8) (by omega) (by omega)), chk_t (inb_n (by omega) (by decide)), nmx, nI_clamp (by omega), nI_1, k1]
    · rw [k2 f a b j q, sI_1, if_neg (fun z => q ⟨z.1, z.2.1⟩)]
    · rw [k4 j (by omega), sI_i (by omega)]
    · by_cases e : j = i
      · rw [e, k4 i (by omega), sI_s]
      · exact k5 j (by omega) hj2
theorem begin_e {N t : Nat} {σ : St} (hN : 10 ≤ N) (ht : t < 17) : ∃ σ', fAct_begin N t σ = some σ' ∧ (∀ f a b j, ¬ ((1 ≤ f ∧ f ≤ 12) ∧ a = t) → σ'.1 f a b j = σ.1 f a b j) ∧ σ'.2 = σ.2 ∧ σ'.1 2 t 0 0 = 0 ∧ ActX t [] σ' := by
  obtain ⟨σ1, k1, k2, k3, k4, k5⟩ := fillP (N := N) ht 8 0 N (sI σ 2 t 0 0 0) (by omega) (by omega)
  refine ⟨sI (sI (sI (sI (sI (sI σ1 4 t 0 0 0) 5 t 0 0 (-1)) 6 t 0 0 (-1)) 7 t 0 0 (-1)) 9 t 0 0 0) 12 t 0 0 0, ?_, fun f a b j q => ?_, k3, ?_, ?_⟩
  · unfold fAct_begin fArrays_fill_Act_params
    rw [nmx, show fArrays_fill_Act_params_5 N t N (-1) 0 8 _ = some σ1 from k1, bn1_e, nmx, nmx, nmx, nmx, nmx, nmx]
  · rw [sI_1, if_neg (fun z => q ⟨by omega, z.2.1⟩), sI_1, if_neg (fun z => q ⟨by omega, z.2.1⟩), sI_1, if_neg (fun z => q ⟨by omega, z.2.1⟩), sI_1, if_neg (fun z => q ⟨by omega, z.2.1⟩), sI_1, if_neg (fun z => q ⟨by omega, z.2.1⟩), sI_1, if_neg (fun z => q ⟨by omega, z.2.1⟩), k2 f a b j (fun z => q ⟨by omega, z.2⟩), sI_1, if_neg (fun z => q ⟨by omega, z.2.1⟩)]
  · rw [sI_o (by decide), sI_o (by decide), sI_o (by decide), sI_o (by decide), sI_o (by decide), sI_o (by decide), k2 _ _ _ _ (fun z => absurd z.1 (by decide)), sI_s]
  · refine ⟨?_, fun k hk => ?_, ?_, ?_, ?_, ?_, nofun, ?_, nofun⟩
    · rw [sI_o (by decide), sI_o (by decide), sI_o (by decide), sI_o (by decide), sI_o (by decide), sI_s]; rfl
    · rw [sI_o (by decide), sI_o (by decide), sI_o (by decide), sI_o (by decide), sI_o (by decide), sI_o (by decide), k5 k (by omega) hk]; rfl
    · rw [sI_o (by decide), sI_o (by decide), sI_o (by decide), sI_o (by decide), sI_s]; rfl
    · rw [sI_o (by decide), sI_o (by decide), sI_o (by decide), sI_s]; rfl
    · rw [sI_o (by decide), sI_o (by decide), sI_s]; rfl
    · rw [sI_o (by decide), sI_s]; rfl
    · rw [sI_s]; rfl
/-- a text that both have understood -/
def Txd (t : Nat) (σ μ : St) : Prop := ∃ (l : List Cl) (L C : Nat), Txt t l L C σ μ ∧ σ.1 2 t 0 0 = nI L ∧ L ≤ 600 ∧ C ≤ 900 ∧ μ.1 238 0 0 t = nI l.length ∧ l.length ≤ 24
theorem text_loop {N n t k0 : Nat} {tp : Nat → Nat} (hN : 2000 ≤ N) : ∀ (d k m m' : Nat) (σ μ : St) (tk : Tok) (b a L C : Nat) (l : List Cl), k + d = 25 → d < m → d < m' → l.length = k → k ≤ 24 → GS tp n t σ μ tk b a L C → L ≤ b → 2 * C ≤ 3 * b → Txt t l L C σ μ → μ.1 238 0 0 t = nI k →
    ∃ r σ' μ', fReader_read_45 N k0 m (nI k) σ = some (r, sI σ' 111 0 0 0 0) ∧ fM_readText_41 N m' μ = some (r, sI μ' 257 0 0 0 (if r = 0 then -1 else μ'.1 256 0 0 0)) ∧ TFX t σ σ' ∧ TFM t μ μ' ∧ r = μ'.1 255 0 0 0 ∧ ((r = 0 ∧ Txd t σ' μ' ∧ σ'.1 112 0 0 0 = -1) ∨ (1 ≤ r.toInt ∧ r.toInt ≤ 4 ∧ r ≠ 0 ∧ σ'.1 112 0 0 0 = μ'.1 256 0 0 0)) := by
  have e76 : ∀ σ : St, fReader_read_76 N k0 σ = some (σ.1 113 0 0 0, sI σ 111 0 0 0 0) := fun σ => by
    unfold fReader_read_76 fReader_clear
    rw [nmx, bn1_e, sI_o (by decide)]
  have eB : ∀ m m' k σ μ, BS t σ μ → fReader_read_45 N k0 (m + 1) k σ = some (μ.1 255 0 0 0, sI σ 111 0 0 0 0) ∧ fM_readText_41 N (m' + 1) μ = some (μ.1 255 0 0 0, sI μ 257 0 0 0 (if μ.1 255 0 0 0 = 0 then -1 else μ.1 256 0 0 0)) := by
    intro m m' k σ μ h
    constructor
    · show (if 24 < k then fReader_read_76 N k0 σ else if σ.1 113 0 0 0 = 0 then _ else fReader_read_76 N k0 σ) = _
      rw [if_neg h.x, e76, h.xx]
      by_cases c : 24 < k
      · rw [if_pos c]
      · rw [if_neg c]
    · show (if μ.1 255 0 0 0 = 0 then _ else fM_readText_62 N μ) = _
      rw [if_neg h.y, if_neg h.y]
      unfold fM_readText_62 fM_readText_78
      rw [if_neg h.y, nmx, sI_o (by decide)]
  have outB : ∀ σ0 μ0 m m' k σ μ, BS t σ μ → TFX t σ0 σ → TFM t μ0 μ → ∃ r σ' μ', fReader_read_45 N k0 (m + 1) k σ = some (r, sI σ' 111 0 0 0 0) ∧ fM_readText_41 N (m' + 1) μ = some (r, sI μ' 257 0 0 0 (if r = 0 then -1 else μ'.1 256 0 0 0)) ∧ TFX t σ0 σ' ∧ TFM t μ0 μ' ∧ r = μ'.1 255 0 0 0 ∧ ((r = 0 ∧ Txd t σ' μ' ∧ σ'.1 112 0 0 0 = -1) ∨ (1 ≤ r.toInt ∧ r.toInt ≤ 4 ∧ r ≠ 0 ∧ σ'.1 112 0 0 0 = μ'.1 256 0 0 0)) := by
    intro σ0 μ0 m m' k σ μ h q1 q2
    obtain ⟨z1, z2⟩ := eB m m' k σ μ h
    exact ⟨_, σ, μ, z1, z2, q1, q2, rfl, Or.inr ⟨h.xr.1, h.xr.2, h.y, h.xp⟩⟩
  intro d
  induction d with
  | zero => intro k m m' σ μ tk b a L C l h1 h2 h3 h4 h5; omega
  | succ d ih =>
    intro k m m' σ μ tk b a L C l h1 h2 h3 h4 h5 g hL hC hT hcl
    obtain ⟨m, rfl⟩ : ∃ q, m = q + 1 := ⟨m - 1, by omega⟩
    obtain ⟨m', rfl⟩ : ∃ q, m' = q + 1 := ⟨m' - 1, by omega⟩
    obtain ⟨n1, n2, n3⟩ := g.ps.bn
    have k24 : ¬ (24 : Int32) < nI k := fun q => by
      have := (nI_ltI (a := 24) (b := k) (by omega) (by omega)).mp q
      omega
    have eX : fReader_read_45 N k0 (m + 1) (nI k) σ = if σ.1 117 0 0 0 = 0 then some (0, sI σ 111 0 0 0 0) else bn1 (fReader_readClause N (nI k) σ) fun σ1 => fReader_read_45 N k0 m (nI k + 1) σ1 := by
      show (if 24 < nI k then _ else if σ.1 113 0 0 0 = 0 then (if σ.1 117 0 0 0 = 0 then fReader_read_76 N k0 σ else _) else _) = _
      rw [if_neg k24, if_pos g.f0, e76, g.f0]
    have eM : fM_readText_41 N (m' + 1) μ = if μ.1 250 0 0 0 = 0 then some (0, sI μ 257 0 0 0 (-1)) else bn1 (fM_readClause N μ) fun σ1 => fM_readText_41 N m' σ1 := by
      show (if μ.1 255 0 0 0 = 0 then (if μ.1 250 0 0 0 = 0 then fM_readText_62 N μ else _) else _) = _
      rw [if_pos g.g0]
      unfold fM_readText_62 fM_readText_78
      rw [if_pos g.g0, nmx, sI_o (by decide), g.g0]
    have go : tk ≠ .fin → σ.1 117 0 0 0 ≠ 0 → μ.1 250 0 0 0 ≠ 0 → ∃ r σ' μ', fReader_read_45 N k0 (m + 1) (nI k) σ = some (r, sI σ' 111 0 0 0 0) ∧ fM_readText_41 N (m' + 1) μ = some (r, sI μ' 257 0 0 0 (if r = 0 then -1 else μ'.1 256 0 0 0)) ∧ TFX t σ σ' ∧ TFM t μ μ' ∧ r = μ'.1 255 0 0 0 ∧ ((r = 0 ∧ Txd t σ' μ' ∧ σ'.1 112 0 0 0 = -1) ∨ (1 ≤ r.toInt ∧ r.toInt ≤ 4 ∧ r ≠ 0 ∧ σ'.1 112 0 0 0 = μ'.1 256 0 0 0)) := by
      intro _ q1 q2
      obtain ⟨σ1, μ1, i1, i2, i3, i4, i5⟩ := clause_e hN h4 h5 g hL hC hT hcl
      rw [eX, eM, if_neg q1, if_neg q2, i1, i2, bn1_e, bn1_e, nI_1]
      rcases i5 with i5 | ⟨c, tk', b', a', L', C', j1, j2, j3, j4, j5, j6, j7⟩
      · obtain ⟨m, rfl⟩ : ∃ q, m = q + 1 := ⟨m - 1, by omega⟩
        obtain ⟨m', rfl⟩ : ∃ q, m' = q + 1 := ⟨m' - 1, by omega⟩
        exact outB σ μ m m' _ σ1 μ1 i5 i3 i4
      · obtain ⟨r, σ', μ', l1, l2, l3, l4, l5, l6⟩ := ih (k + 1) m m' σ1 μ1 tk' b' a' L' C' (l ++ [c]) (by omega) (by omega) (by omega) (by rw [List.length_append, List.length_singleton, h4]) (by omega) j2 j4 j5 j6 j7
        exact ⟨r, σ', μ', l1, l2, i3.tr l3, i4.tr l4, l5, l6⟩
    have kx := g.ps.kX
    have km := g.ps.kM
    rcases tk.cs with rfl | ⟨w, rfl⟩ | ⟨l', v, rfl⟩ | rfl | ⟨e, rfl⟩
    · rw [eX, eM, if_pos (show σ.1 117 0 0 0 = 0 from kx), if_pos (show μ.1 250 0 0 0 = 0 from km)]
      exact ⟨0, σ, μ, rfl, rfl, TFX.rf, TFM.rf, g.g0.symm, Or.inl ⟨rfl, ⟨l, L, C, hT, g.hL, by omega, by omega, by rw [h4]; exact hcl, by omega⟩, g.p0⟩⟩
    · exact go nofun (by rw [kx.1]; decide) (by rw [km.1]; decide)
    · exact go nofun (by rw [kx.1]; decide) (by rw [km.1]; decide)
    · exact go nofun (by rw [show σ.1 117 0 0 0 = 3 from kx]; decide) (by rw [show μ.1 250 0 0 0 = 4 from km]; decide)
    · have hd := sn_lt kx.1
      exact go nofun (by rw [kx.2]; exact nI_ne0 (by omega) (by omega)) (by rw [km.1]; decide)
/-- what reading leaves alone beside what a text may write -/
def RFX (t : Nat) (σ σ' : St) : Prop := (∀ f a b i, ¬ (112 ≤ f ∧ f ≤ 121) → ¬ ((1 ≤ f ∧ f ≤ 12) ∧ a = t) → σ'.1 f a b i = σ.1 f a b i) ∧ σ'.2 = σ.2
def RFM (t : Nat) (μ μ' : St) : Prop := (∀ f a b i, ¬ (247 ≤ f ∧ f ≤ 259) → ¬ (238 ≤ f ∧ f ≤ 245) → μ'.1 f a b i = μ.1 f a b i) ∧ (∀ i, i ≠ t → μ'.1 238 0 0 i = μ.1 238 0 0 i) ∧ (∀ f i, 239 ≤ f → f ≤ 244 → i < 24 * t → μ'.1 f 0 0 i = μ.1 f 0 0 i) ∧ (∀ j, j < 1000 * t → μ'.1 245 0 0 j = μ.1 245 0 0 j) ∧ μ'.2 = μ.2
theorem read_e {N n t s : Nat} {tp : Nat → Nat} {σ μ : St} (hN : 2000 ≤ N) (ht : t < 17) (hn : n ≤ s) (hs : s ≤ 600) (hsz : σ.1 111 0 0 0 = nI s) (hT : TP tp σ μ) :
    ∃ r σ' μ', fReader_read N t (nI n) σ = some (r, sI σ' 111 0 0 0 0) ∧ fM_readText N (nI t) (nI n) μ = some (r, μ') ∧ RFX t σ σ' ∧ RFM t μ μ' ∧ (∀ f i, (f = 247 ∨ f = 257) → i ≠ 0 → μ'.1 f 0 0 i = μ.1 f 0 0 i) ∧ μ'.1 247 0 0 0 = 0 ∧ r = μ'.1 255 0 0 0 ∧ ((r = 0 ∧ Txd t σ' μ' ∧ μ'.1 257 0 0 0 = -1 ∧ σ'.1 112 0 0 0 = -1) ∨ (1 ≤ r.toInt ∧ r.toInt ≤ 4 ∧ r ≠ 0 ∧ σ'.1 112 0 0 0 = μ'.1 257 0 0 0)) := by
  obtain ⟨σ1, b1, b2, b3, b4, b5⟩ := begin_e (N := N) (t := t) (σ := sI σ 121 0 0 0 (nI t)) (by omega) ht
  have e1 : fReader_read N t (nI n) σ = bn1 (fReader_advance N (sI (sI (sI (sI σ1 114 0 0 0 (nI n)) 116 0 0 0 0) 113 0 0 0 0) 112 0 0 0 (-1))) fun σ8 => fReader_read_45 N t N 0 σ8 := by
    unfold fReader_read
    rw [show Int32.ofNat t = nI t from rfl, nmx, sI_s, chk_t (inb_n ht (by decide)), nI_clamp (by omega), b1, bn1_e, b2 _ _ _ _ (fun z => absurd z.1 (by decide)), sI_o (by decide), hsz]
    have : fMath_min_I N (nI n) (nI s) σ1 = some (nI n) := by
      unfold fMath_min_I
      by_cases c : nI s < nI n
      · have := (nI_ltI (a := s) (b := n) (by omega) (by omega)).mp c
        omega
      · rw [if_neg c]
    rw [this, bn1_e, nmx, nmx, nmx, nmx]
  generalize hσ7 : sI (sI (sI (sI σ1 114 0 0 0 (nI n)) 116 0 0 0 0) 113 0 0 0 0) 112 0 0 0 (-1) = σ7 at e1
  have e2 : fM_readText N (nI t) (nI n) μ = bn1 (fM_step N (sI (sI (sI (sI (sI (sI (sI μ 247 0 0 0 0) 259 0 0 0 (nI t)) 238 0 0 t 0) 258 0 0 0 0) 249 0 0 0 (nI n)) 248 0 0 0 0) 255 0 0 0 0)) fun σ8 => fM_readText_41 N N σ8 := by
    unfold fM_readText
    rw [nmx, nmx, chk_t (inb_n ht (by decide)), nmx, nI_clamp (by omega), nmx, nmx, nmx, nmx]
  generalize hμ7 : sI (sI (sI (sI (sI (sI (sI μ 247 0 0 0 0) 259 0 0 0 (nI t)) 238 0 0 t 0) 258 0 0 0 0) 249 0 0 0 (nI n)) 248 0 0 0 0) 255 0 0 0 0 = μ7 at e2
  have fX7 : ∀ f a b j, ¬ (112 ≤ f ∧ f ≤ 121) → σ7.1 f a b j = σ1.1 f a b j := fun f a b j q => by
    rw [← hσ7, sI_o (by omega), sI_o (by omega), sI_o (by omega), sI_o (by omega)]
  have fM7 : ∀ f a b j, ¬ (247 ≤ f ∧ f ≤ 259) → f ≠ 238 → μ7.1 f a b j = μ.1 f a b j := fun f a b j q q2 => by
    rw [← hμ7, sI_o (by omega), sI_o (by omega), sI_o (by omega), sI_o (by omega), sI_o (by omega), sI_o (by omega), sI_o (by omega)]
  have s7 : σ7.2 = σ.2 := by rw [← hσ7]; exact b3
  have m7 : μ7.2 = μ.2 := by rw [← hμ7]; rfl
  have lx : LX tp n σ7 μ7 0 := by
    refine ⟨by omega, by omega, fun i hi => ⟨(hT i hi).1, ?_, ?_⟩, ?_, ?_, ?_, ?_⟩
    · rw [fX7 _ _ _ _ (by decide), b2 _ _ _ _ (fun z => absurd z.1 (by decide)), sI_o (by decide), (hT i hi).2.1]
    · rw [fM7 _ _ _ _ (by decide) (by decide), (hT i hi).2.2]
    · rw [← hσ7, sI_o (by decide), sI_o (by decide), sI_o (by decide), sI_s]
    · rw [← hμ7, sI_o (by decide), sI_o (by decide), sI_s]
    · rw [← hσ7, sI_o (by decide), sI_o (by decide), sI_s]
      rfl
    · rw [← hμ7, sI_o (by decide), sI_s]
      rfl
  have act7 : σ7.1 121 0 0 0 = nI t := by
    rw [← hσ7, sI_o (by decide), sI_o (by decide), sI_o (by decide), sI_o (by decide), b2 _ _ _ _ (fun z => absurd z.1 (by decide)), sI_s]
  have tn7 : μ7.1 259 0 0 0 = nI t := by
    rw [← hμ7, sI_o (by decide), sI_o (by decide), sI_o (by decide), sI_o (by decide), sI_o (by decide), sI_s]
  obtain ⟨tk, b, a, σ8, μ8, k1, k2, k3, k4, k5, k6⟩ := step0_e (N := N) hN lx ht act7 tn7
  have g : GS tp n t σ8 μ8 tk b a 0 0 := by
    refine ⟨k3, ?_, ?_, ?_, ?_, ?_⟩
    · rw [k5.1 _ _ _ _ (by decide), ← hσ7, sI_o (by decide), sI_s]
    · rw [k6.1 _ _ _ _ (by decide), ← hμ7, sI_s]
    · rw [k5.1 _ _ _ _ (by decide), fX7 _ _ _ _ (by decide), b4]
      rfl
    · rw [k6.1 _ _ _ _ (by decide), ← hμ7, sI_o (by decide), sI_o (by decide), sI_o (by decide), sI_s]
      rfl
    · rw [k5.1 _ _ _ _ (by decide), ← hσ7, sI_s]
  have s8 : ∀ f i, 3 ≤ f → f ≤ 12 → σ8.1 f t 0 i = σ1.1 f t 0 i := fun f i q1 q2 => by
    rw [k5.1 f t 0 i (by simp [lexX]; omega), fX7 f t 0 i (by omega)]
  have hT8 : Txt t [] 0 0 σ8 μ8 := by
    obtain ⟨h1, h2, h3, h4, h5, h6, h7, h8, h9⟩ := b5
    exact ⟨nofun, (s8 _ _ (by decide) (by decide)).trans h1, fun k hk => (s8 _ _ (by decide) (by decide)).trans (h2 k hk), (s8 _ _ (by decide) (by decide)).trans h3, (s8 _ _ (by decide) (by decide)).trans h4, (s8 _ _ (by decide) (by decide)).trans h5, (s8 _ _ (by decide) (by decide)).trans h6, nofun, (s8 _ _ (by decide) (by decide)).trans h8, nofun⟩
  have c8 : μ8.1 238 0 0 t = nI 0 := by
    rw [k6.1 _ _ _ _ (by decide), ← hμ7, sI_o (by decide), sI_o (by decide), sI_o (by decide), sI_o (by decide), sI_s]
    rfl
  obtain ⟨r, σ', μ', i1, i2, i3, i4, i5, i6⟩ := text_loop (n := n) (t := t) (tp := tp) (k0 := t) hN 25 0 N N σ8 μ8 tk b a 0 0 [] (by omega) (by omega) (by omega) rfl (by omega) g (by omega) (by omega) hT8 c8
  refine ⟨r, σ', sI μ' 257 0 0 0 (if r = 0 then -1 else μ'.1 256 0 0 0), ?_, ?_, ⟨fun f a b j q1 q2 => ?_, ?_⟩, ⟨fun f a b j q1 q2 => ?_, fun i hi => ?_, fun f i q1 q2 q3 => ?_, fun j hj => ?_, ?_⟩, fun f i q1 q2 => ?_, ?_, ?_, ?_⟩
  · rw [e1, k1, bn1_e]
    exact i1
  · rw [e2, k2, bn1_e, i2]
  · rw [i3.1 f a b j (by simp [rdX, lexX]; omega) q2, k5.1 f a b j (by simp [lexX]; omega), fX7 f a b j q1, b2 f a b j q2, sI_o (by omega)]
  · rw [i3.2, k5.2, s7]
  · rw [sI_o (by omega), i4.1 f a b j (by simp [rdM, lexM]; omega) q2, k6.1 f a b j (by simp [lexM]; omega), fM7 f a b j q1 (by omega)]
  · rw [sI_o (by decide), i4.2.1 i hi, k6.1 _ _ _ _ (by decide), ← hμ7, sI_o (by decide), sI_o (by decide), sI_o (by decide), sI_o (by decide), sI_i hi, sI_o (by decide), sI_o (by decide)]
  · rw [sI_o (by omega), i4.2.2.1 f i q1 q2 q3, k6.1 f 0 0 i (by simp [lexM]; omega), fM7 f 0 0 i (by omega) (by omega)]
  · rw [sI_o (by decide), i4.2.2.2.1 j hj, k6.1 _ _ _ _ (by decide), fM7 _ _ _ _ (by decide) (by decide)]
  · show μ'.2 = μ.2
    rw [i4.2.2.2.2, k6.2, m7]
  · have r1 : (sI μ' 257 0 0 0 (if r = 0 then -1 else μ'.1 256 0 0 0)).1 f 0 0 i = μ'.1 f 0 0 i := by
      rw [sI_1, if_neg (fun z => q2 z.2.2.2)]
    rw [r1, i4.1 f 0 0 i (by simp [rdM, lexM]; omega) (by omega), k6.1 f 0 0 i (by simp [lexM]; omega), ← hμ7, sI_o (by omega), sI_o (by omega), sI_o (by omega), sI_o (by omega), sI_o (by omega), sI_o (by omega), sI_1, if_neg (fun z => q2 z.2.2.2)]
  · rw [sI_o (by decide), i4.1 _ _ _ _ (by decide) (by decide), k6.1 _ _ _ _ (by decide), ← hμ7, sI_o (by decide), sI_o (by decide), sI_o (by decide), sI_o (by decide), sI_o (by decide), sI_o (by decide), sI_s]
  · rw [sI_o (by decide)]
    exact i5
  · rcases i6 with ⟨i6, ⟨l, L, C, i7, i8, i9, i10, i11, i12⟩, i13⟩ | ⟨i6, i7, i8, i9⟩
    · refine Or.inl ⟨i6, ⟨l, L, C, ⟨fun i c hc => ?_, i7.2⟩, i8, i9, i10, ?_, i12⟩, ?_, i13⟩
      · obtain ⟨z1, z2, z3⟩ := i7.1 i c hc
        exact ⟨z1, z2, z3⟩
      · rw [sI_o (by decide)]
        exact i11
      · rw [sI_s, if_pos i6]
    · refine Or.inr ⟨i6, i7, i8, ?_⟩
      rw [sI_s, if_neg i8]
      exact i9
