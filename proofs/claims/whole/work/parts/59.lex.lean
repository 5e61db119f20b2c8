/-! the words of a text, read by both -/
def Fx (S : Nat → Bool) (σ σ' : St) : Prop := (∀ f a b i, S f = false → σ'.1 f a b i = σ.1 f a b i) ∧ σ'.2 = σ.2
theorem Fx.rf {S : Nat → Bool} {σ : St} : Fx S σ σ := ⟨fun _ _ _ _ _ => rfl, rfl⟩
theorem Fx.tr {S : Nat → Bool} {σ σ' σ'' : St} (h : Fx S σ σ') (h2 : Fx S σ' σ'') : Fx S σ σ'' := ⟨fun f a b i e => (h2.1 f a b i e).trans (h.1 f a b i e), h2.2.trans h.2⟩
theorem Fx.s {S : Nat → Bool} {σ : St} {f a b i : Nat} {x : Int32} (h : S f = true) : Fx S σ (sI σ f a b i x) := ⟨fun f' a' b' i' e => sI_o (fun q => by rw [q, h] at e; exact absurd e (by decide)), rfl⟩
theorem Fx.mono {S T : Nat → Bool} {σ σ' : St} (h : Fx S σ σ') (k : ∀ f, T f = false → S f = false) : Fx T σ σ' := ⟨fun f a b i e => h.1 f a b i (k f e), h.2⟩
def lexX (f : Nat) : Bool := decide (115 ≤ f) && decide (f ≤ 120)
def lexM (f : Nat) : Bool := decide (f = 248) || (decide (250 ≤ f) && decide (f ≤ 254))
def tb (c : Nat) : Int32 := (nI c).toInt8.toInt32
def lt? (c : Nat) : Bool := decide (97 ≤ c) && decide (c ≤ 122)
def dg? (c : Nat) : Bool := decide (48 ≤ c) && decide (c ≤ 57)
def sn? (c : Nat) : Bool := decide (c = 59) || decide (c = 44) || decide (c = 40) || decide (c = 41) || decide (c = 43) || decide (c = 45) || decide (c = 42) || decide (c = 47) || decide (c = 60) || decide (c = 61)
def bl? (c : Nat) : Bool := decide (c = 32) || decide (c = 10)
theorem letX {N c : Nat} {σ : St} (h : c < 256) : fReader_isLetter N (tb c) σ = some (if lt? c = true then 1 else 0) := by
  have : ∀ c, c < 256 → (if tb c < 97 then some (0 : Int32) else if 122 < tb c then some 0 else some 1) = some (if lt? c = true then 1 else 0) := by decide +kernel
  exact this c h
theorem letM {N c : Nat} {σ : St} (h : c < 256) : fM_isLetter N (nI c) σ = some (if lt? c = true then 1 else 0) := by
  have : ∀ c, c < 256 → (if nI c < 97 then some (0 : Int32) else if 122 < nI c then some 0 else some 1) = some (if lt? c = true then 1 else 0) := by decide +kernel
  exact this c h
theorem digX {N c : Nat} {σ : St} (h : c < 256) : fReader_isDigit N (tb c) σ = some (if dg? c = true then 1 else 0) := by
  have : ∀ c, c < 256 → (if tb c < 48 then some (0 : Int32) else if 57 < tb c then some 0 else some 1) = some (if dg? c = true then 1 else 0) := by decide +kernel
  exact this c h
theorem digM {N c : Nat} {σ : St} (h : c < 256) : fM_isDigit N (nI c) σ = some (if dg? c = true then 1 else 0) := by
  have : ∀ c, c < 256 → (if nI c < 48 then some (0 : Int32) else if 57 < nI c then some 0 else some 1) = some (if dg? c = true then 1 else 0) := by decide +kernel
  exact this c h
theorem sgnX {N c : Nat} {σ : St} (h : c < 256) : fReader_isSignByte N (tb c) σ = some (if sn? c = true then 1 else 0) := by
  have : ∀ c, c < 256 → fReader_isSignByte 0 (tb c) (fun _ _ _ _ => 0, fun _ _ _ _ => 0) = some (if sn? c = true then 1 else 0) := by decide +kernel
  exact this c h
theorem tb_n {c k : Nat} (h : c < 256) (hk : k < 128) : tb c = nI k ↔ c = k := by
  constructor
  · intro e
    have : ∀ c, c < 256 → (tb c).toInt = if c < 128 then (c : Int) else (c : Int) - 256 := by decide +kernel
    have h1 := this c h
    rw [e, nI_toInt (by omega)] at h1
    split at h1 <;> omega
  · rintro rfl
    have : ∀ c, c < 128 → tb c = nI c := by decide +kernel
    exact this c hk
theorem sn_cases {c : Nat} : sn? c = true ↔ c = 59 ∨ c = 44 ∨ c = 40 ∨ c = 41 ∨ c = 43 ∨ c = 45 ∨ c = 42 ∨ c = 47 ∨ c = 60 ∨ c = 61 := by
  simp only [sn?, Bool.or_eq_true, decide_eq_true_eq, or_assoc]
theorem chainM {α : Type} {c : Nat} (h : c < 256) (A B : α) : (if nI c = 59 then A else if nI c = 44 then A else if nI c = 40 then A else if nI c = 41 then A else if nI c = 43 then A else if nI c = 45 then A else if nI c = 42 then A else if nI c = 47 then A else if nI c = 60 then A else if nI c = 61 then A else B) = if sn? c = true then A else B := by
  have w : ∀ k, k < 256 → c ≠ k → ¬ nI c = nI k := fun k hk e q => e ((nI_eq (by omega) (by omega)).mp q)
  by_cases hs : sn? c = true
  · rw [if_pos hs]
    rcases sn_cases.mp hs with rfl | rfl | rfl | rfl | rfl | rfl | rfl | rfl | rfl | rfl <;> rfl
  · rw [if_neg hs]
    have hs := fun q => hs (sn_cases.mpr q)
    have hs : ¬ (c = 59 ∨ c = 44 ∨ c = 40 ∨ c = 41 ∨ c = 43 ∨ c = 45 ∨ c = 42 ∨ c = 47 ∨ c = 60 ∨ c = 61) := fun q => hs q
    rw [if_neg (show ¬ nI c = 59 from w 59 (by omega) (by omega)), if_neg (show ¬ nI c = 44 from w 44 (by omega) (by omega)), if_neg (show ¬ nI c = 40 from w 40 (by omega) (by omega)), if_neg (show ¬ nI c = 41 from w 41 (by omega) (by omega)), if_neg (show ¬ nI c = 43 from w 43 (by omega) (by omega)), if_neg (show ¬ nI c = 45 from w 45 (by omega) (by omega)), if_neg (show ¬ nI c = 42 from w 42 (by omega) (by omega)), if_neg (show ¬ nI c = 47 from w 47 (by omega) (by omega)), if_neg (show ¬ nI c = 60 from w 60 (by omega) (by omega)), if_neg (show ¬ nI c = 61 from w 61 (by omega) (by omega))]
def TP (tp : Nat → Nat) (σ μ : St) : Prop := ∀ i, i < 600 → tp i < 256 ∧ σ.1 110 0 0 i = tb (tp i) ∧ μ.1 246 0 0 i = nI (tp i)
/-- the readers stand at a place of the tape -/
abbrev LX (tp : Nat → Nat) (n : Nat) (σ μ : St) (a : Nat) : Prop := (n ≤ 600) ∧ (a ≤ n) ∧ (TP tp σ μ) ∧ (σ.1 114 0 0 0 = nI n) ∧ (μ.1 249 0 0 0 = nI n) ∧ (σ.1 116 0 0 0 = nI a) ∧ (μ.1 248 0 0 0 = nI a)
theorem LX.hn {tp : Nat → Nat} {n : Nat} {σ μ : St} {a : Nat} (h : LX tp n σ μ a) : n ≤ 600 := h.1
theorem LX.ha {tp : Nat → Nat} {n : Nat} {σ μ : St} {a : Nat} (h : LX tp n σ μ a) : a ≤ n := h.2.1
theorem LX.tape {tp : Nat → Nat} {n : Nat} {σ μ : St} {a : Nat} (h : LX tp n σ μ a) : TP tp σ μ := h.2.2.1
theorem LX.lX {tp : Nat → Nat} {n : Nat} {σ μ : St} {a : Nat} (h : LX tp n σ μ a) : σ.1 114 0 0 0 = nI n := h.2.2.2.1
theorem LX.lM {tp : Nat → Nat} {n : Nat} {σ μ : St} {a : Nat} (h : LX tp n σ μ a) : μ.1 249 0 0 0 = nI n := h.2.2.2.2.1
theorem LX.aX {tp : Nat → Nat} {n : Nat} {σ μ : St} {a : Nat} (h : LX tp n σ μ a) : σ.1 116 0 0 0 = nI a := h.2.2.2.2.2.1
theorem LX.aM {tp : Nat → Nat} {n : Nat} {σ μ : St} {a : Nat} (h : LX tp n σ μ a) : μ.1 248 0 0 0 = nI a := h.2.2.2.2.2.2
theorem LX.st {tp : Nat → Nat} {n a a' : Nat} {σ μ σ' μ' : St} (h : LX tp n σ μ a) (hX : Fx lexX σ σ') (hM : Fx lexM μ μ') (ha : a' ≤ n) (aX : σ'.1 116 0 0 0 = nI a') (aM : μ'.1 248 0 0 0 = nI a') : LX tp n σ' μ' a' :=
  ⟨h.hn, ha, fun i hi => ⟨(h.tape i hi).1, (hX.1 _ _ _ _ (by decide)).trans (h.tape i hi).2.1, (hM.1 _ _ _ _ (by decide)).trans (h.tape i hi).2.2⟩, (hX.1 _ _ _ _ (by decide)).trans h.lX, (hM.1 _ _ _ _ (by decide)).trans h.lM, aX, aM⟩
theorem byteAt_e {N : Nat} {tp : Nat → Nat} {n k : Nat} {σ μ : St} (ht : TP tp σ μ) (hl : μ.1 249 0 0 0 = nI n) (hn : n ≤ 600) (hk : k ≤ n) : fM_byteAt N (nI k) μ = some (if k < n then nI (tp k) else -1) := by
  unfold fM_byteAt
  rw [hl]
  by_cases c : k < n
  · rw [if_neg (nI_ge c (by omega)), chk_t (inb_n (by omega) (by decide)), nI_clamp (by omega), (ht k (by omega)).2.2, if_pos c]
  · rw [if_pos (nI_le (by omega) (by omega)), if_neg c]
theorem skip_e {N : Nat} {tp : Nat → Nat} {n : Nat} : ∀ (d a m m' : Nat) (σ μ : St), a + d = n → d < m → d < m' → LX tp n σ μ a → ∃ b k k' σ1 μ1, a ≤ b ∧ LX tp n σ1 μ1 b ∧ Fx lexX σ σ1 ∧ Fx lexM μ μ1 ∧ (b < n → bl? (tp b) = false) ∧ fReader_advance_0 N m σ = fReader_advance_0 N (k + 1) σ1 ∧ fM_step_0 N m' μ = fM_step_0 N (k' + 1) μ1 := by
  intro d
  induction d with
  | zero =>
    intro a m m' σ μ h1 h2 h3 h
    exact ⟨a, m - 1, m' - 1, σ, μ, Nat.le_refl _, h, Fx.rf, Fx.rf, fun q => by omega, by rw [show m - 1 + 1 = m by omega], by rw [show m' - 1 + 1 = m' by omega]⟩
  | succ d ih =>
    intro a m m' σ μ h1 h2 h3 h
    have hn := h.hn
    obtain ⟨t1, t2, t3⟩ := h.tape a (by omega)
    by_cases c : bl? (tp a) = true
    · obtain ⟨m, rfl⟩ : ∃ q, m = q + 1 := ⟨m - 1, by omega⟩
      obtain ⟨m', rfl⟩ : ∃ q, m' = q + 1 := ⟨m' - 1, by omega⟩
      have c := c
      simp only [bl?, Bool.or_eq_true, decide_eq_true_eq] at c
      have eX : fReader_advance_0 N (m + 1) σ = fReader_advance_0 N m (sI σ 116 0 0 0 (nI (a + 1))) := by
        show (if σ.1 114 0 0 0 ≤ σ.1 116 0 0 0 then _ else chk (inb (σ.1 116 0 0 0) 600) (if σ.1 110 0 0 (σ.1 116 0 0 0).toNatClampNeg = 32 then fReader_advance_39 N (fReader_advance_0 N m) σ else if σ.1 110 0 0 (σ.1 116 0 0 0).toNatClampNeg = 10 then fReader_advance_39 N (fReader_advance_0 N m) σ else _)) = _
        have e39 : fReader_advance_39 N (fReader_advance_0 N m) σ = fReader_advance_0 N m (sI σ 116 0 0 0 (nI (a + 1))) := by
          unfold fReader_advance_39
          rw [nmx, h.aX, nI_1]
        rw [h.lX, h.aX, if_neg (nI_ge (by omega) (by omega)), chk_t (inb_n (by omega) (by decide)), nI_clamp (by omega), t2, e39]
        rcases c with c | c
        · rw [if_pos (show tb (tp a) = 32 from (tb_n (k := 32) t1 (by decide)).mpr c)]
        · rw [if_neg (fun q => by have := (tb_n (k := 32) t1 (by decide)).mp q; omega), if_pos (show tb (tp a) = 10 from (tb_n (k := 10) t1 (by decide)).mpr c)]
      have eM : fM_step_0 N (m' + 1) μ = fM_step_0 N m' (sI μ 248 0 0 0 (nI (a + 1))) := by
        show (bn1 (fM_byteAt N (μ.1 248 0 0 0) μ) fun r1 => if r1 = 32 then fM_step_26 N (fM_step_0 N m') μ else bn1 (fM_byteAt N (μ.1 248 0 0 0) μ) fun r2 => if r2 = 10 then fM_step_26 N (fM_step_0 N m') μ else _) = _
        have e26 : fM_step_26 N (fM_step_0 N m') μ = fM_step_0 N m' (sI μ 248 0 0 0 (nI (a + 1))) := by
          unfold fM_step_26
          rw [nmx, h.aM, nI_1]
        rw [h.aM, byteAt_e h.tape h.lM hn (by omega), bn1_e, if_pos (show a < n by omega), e26]
        rcases c with c | c
        · rw [if_pos (by rw [c]; rfl)]
        · rw [if_neg (by rw [c]; decide), bn1_e, if_pos (by rw [c]; rfl)]
      obtain ⟨b, k, k', σ1, μ1, g1, g2, g3, g4, g5, g6, g7⟩ := ih (a + 1) m m' (sI σ 116 0 0 0 (nI (a + 1))) (sI μ 248 0 0 0 (nI (a + 1))) (by omega) (by omega) (by omega) (h.st (Fx.s (by decide)) (Fx.s (by decide)) (by omega) (sI_s ..) (sI_s ..))
      exact ⟨b, k, k', σ1, μ1, by omega, g2, (Fx.s (by decide)).tr g3, (Fx.s (by decide)).tr g4, g5, eX.trans g6, eM.trans g7⟩
    · exact ⟨a, m - 1, m' - 1, σ, μ, Nat.le_refl _, h, Fx.rf, Fx.rf, fun q => by simpa using c, by rw [show m - 1 + 1 = m by omega], by rw [show m' - 1 + 1 = m' by omega]⟩
/-- a run of letters -/
theorem letters_e {N : Nat} {tp : Nat → Nat} {n : Nat} : ∀ (d a m m' : Nat) (σ μ : St), a + d = n → d < m → d < m' → LX tp n σ μ a → ∃ b σ1 μ1, a ≤ b ∧ LX tp n σ1 μ1 b ∧ Fx (fun f => decide (f = 116)) σ σ1 ∧ Fx (fun f => decide (f = 248)) μ μ1 ∧ (∀ j, a ≤ j → j < b → lt? (tp j) = true) ∧ (a < n → lt? (tp a) = true → a < b) ∧ fReader_advance_99 N m σ = fReader_advance_138 N σ1 ∧ fM_step_81 N m' μ = fM_step_286 N (sI μ1 250 0 0 0 1) := by
  intro d
  induction d with
  | zero =>
    intro a m m' σ μ h1 h2 h3 h
    have hn := h.hn
    obtain ⟨m, rfl⟩ : ∃ q, m = q + 1 := ⟨m - 1, by omega⟩
    obtain ⟨m', rfl⟩ : ∃ q, m' = q + 1 := ⟨m' - 1, by omega⟩
    refine ⟨a, σ, μ, Nat.le_refl _, h, Fx.rf, Fx.rf, fun j q q' => by omega, fun q => by omega, ?_, ?_⟩
    · show (if σ.1 114 0 0 0 ≤ σ.1 116 0 0 0 then _ else _) = _
      rw [h.lX, h.aX, if_pos (nI_le (by omega) (by omega))]
    · show (bn1 (fM_byteAt N (μ.1 248 0 0 0) μ) fun r1 => _) = _
      rw [h.aM, byteAt_e h.tape h.lM hn (by omega), bn1_e, if_neg (show ¬ a < n by omega)]
      rfl
  | succ d ih =>
    intro a m m' σ μ h1 h2 h3 h
    have hn := h.hn
    obtain ⟨t1, t2, t3⟩ := h.tape a (by omega)
    obtain ⟨m, rfl⟩ : ∃ q, m = q + 1 := ⟨m - 1, by omega⟩
    obtain ⟨m', rfl⟩ : ∃ q, m' = q + 1 := ⟨m' - 1, by omega⟩
    by_cases c : lt? (tp a) = true
    · have eX : fReader_advance_99 N (m + 1) σ = fReader_advance_99 N m (sI σ 116 0 0 0 (nI (a + 1))) := by
        show (if σ.1 114 0 0 0 ≤ σ.1 116 0 0 0 then _ else chk (inb (σ.1 116 0 0 0) 600) (bn1 (fReader_isLetter N (σ.1 110 0 0 (σ.1 116 0 0 0).toNatClampNeg) σ) fun r1 => if r1 = 0 then _ else nm (sI σ 116 0 0 0 (σ.1 116 0 0 0 + 1)) fun (σ2 : St) => (fReader_advance_99 N m) σ2)) = _
        rw [h.lX, h.aX, if_neg (nI_ge (by omega) (by omega)), chk_t (inb_n (by omega) (by decide)), nI_clamp (by omega), t2, letX t1, bn1_e, if_pos c, if_neg (by decide), nmx, nI_1]
      have eM : fM_step_81 N (m' + 1) μ = fM_step_81 N m' (sI μ 248 0 0 0 (nI (a + 1))) := by
        show (bn1 (fM_byteAt N (μ.1 248 0 0 0) μ) fun r1 => bn1 (fM_isLetter N r1 μ) fun r2 => if r2 = 0 then _ else nm (sI μ 248 0 0 0 (μ.1 248 0 0 0 + 1)) fun (σ4 : St) => (fM_step_81 N m') σ4) = _
        rw [h.aM, byteAt_e h.tape h.lM hn (by omega), bn1_e, if_pos (show a < n by omega), letM t1, bn1_e, if_pos c, if_neg (by decide), nmx, nI_1]
      obtain ⟨b, σ1, μ1, g1, g2, g3, g4, g5, g5', g6, g7⟩ := ih (a + 1) m m' (sI σ 116 0 0 0 (nI (a + 1))) (sI μ 248 0 0 0 (nI (a + 1))) (by omega) (by omega) (by omega) (h.st (Fx.s (by decide)) (Fx.s (by decide)) (by omega) (sI_s ..) (sI_s ..))
      refine ⟨b, σ1, μ1, by omega, g2, (Fx.s (by decide)).tr g3, (Fx.s (by decide)).tr g4, fun j q q' => ?_, fun _ _ => by omega, eX.trans g6, eM.trans g7⟩
      by_cases e : j = a
      · rw [e]; exact c
      · exact g5 j (by omega) q'
    · refine ⟨a, σ, μ, Nat.le_refl _, h, Fx.rf, Fx.rf, fun j q q' => by omega, fun _ q => absurd q c, ?_, ?_⟩
      · show (if σ.1 114 0 0 0 ≤ σ.1 116 0 0 0 then _ else chk (inb (σ.1 116 0 0 0) 600) (bn1 (fReader_isLetter N (σ.1 110 0 0 (σ.1 116 0 0 0).toNatClampNeg) σ) fun r1 => if r1 = 0 then fReader_advance_138 N σ else _)) = _
        rw [h.lX, h.aX, if_neg (nI_ge (by omega) (by omega)), chk_t (inb_n (by omega) (by decide)), nI_clamp (by omega), t2, letX t1, bn1_e, if_neg c, if_pos rfl]
      · show (bn1 (fM_byteAt N (μ.1 248 0 0 0) μ) fun r1 => bn1 (fM_isLetter N r1 μ) fun r2 => if r2 = 0 then nm (sI μ 250 0 0 0 1) fun (σ3 : St) => fM_step_286 N σ3 else _) = _
        rw [h.aM, byteAt_e h.tape h.lM hn (by omega), bn1_e, if_pos (show a < n by omega), letM t1, bn1_e, if_neg c, if_pos rfl, nmx]
/-- a run of digits: its value, and what both keep of it -/
theorem dig_v {c : Nat} (h : dg? c = true) : 48 ≤ c ∧ c ≤ 57 := by
  simpa [dg?] using h
theorem digits_e {N : Nat} {tp : Nat → Nat} {n b : Nat} : ∀ (d a m m' v w : Nat) (σ μ : St), a + d = n → d < m → d < m' → LX tp n σ μ a → b ≤ a → σ.1 115 0 0 0 = nI b → (a - b ≤ 5 → v = w ∧ v < 10 ^ (a - b)) → (5 < a - b → v = 100000 ∧ w ≤ 1000000) → σ.1 120 0 0 0 = nI v → μ.1 252 0 0 0 = nI w →
    ∃ a' v' w' σ1 μ1, a ≤ a' ∧ LX tp n σ1 μ1 a' ∧ Fx (fun f => decide (f = 116) || decide (f = 120)) σ σ1 ∧ Fx (fun f => decide (f = 248) || decide (f = 252)) μ μ1 ∧ (a < n → dg? (tp a) = true → a < a') ∧ (a' - b ≤ 5 → v' = w' ∧ v' < 10 ^ (a' - b)) ∧ (5 < a' - b → v' = 100000 ∧ w' ≤ 1000000) ∧ σ1.1 120 0 0 0 = nI v' ∧ μ1.1 252 0 0 0 = nI w' ∧
      fReader_advance_205 N m σ = some σ1 ∧ fM_step_128 N m' μ = fM_step_286 N (sI μ1 250 0 0 0 2) := by
  intro d
  induction d with
  | zero =>
    intro a m m' v w σ μ h1 h2 h3 h hb hs hv1 hv2 hv hw
    have hn := h.hn
    obtain ⟨m, rfl⟩ : ∃ q, m = q + 1 := ⟨m - 1, by omega⟩
    obtain ⟨m', rfl⟩ : ∃ q, m' = q + 1 := ⟨m' - 1, by omega⟩
    refine ⟨a, v, w, σ, μ, Nat.le_refl _, h, Fx.rf, Fx.rf, fun q => by omega, hv1, hv2, hv, hw, ?_, ?_⟩
    · show (if σ.1 114 0 0 0 ≤ σ.1 116 0 0 0 then _ else _) = _
      rw [h.lX, h.aX, if_pos (nI_le (by omega) (by omega))]
    · show (bn1 (fM_byteAt N (μ.1 248 0 0 0) μ) fun r1 => _) = _
      rw [h.aM, byteAt_e h.tape h.lM hn (by omega), bn1_e, if_neg (show ¬ a < n by omega)]
      rfl
  | succ d ih =>
    intro a m m' v w σ μ h1 h2 h3 h hb hs hv1 hv2 hv hw
    have hn := h.hn
    obtain ⟨t1, t2, t3⟩ := h.tape a (by omega)
    obtain ⟨m, rfl⟩ : ∃ q, m = q + 1 := ⟨m - 1, by omega⟩
    obtain ⟨m', rfl⟩ : ∃ q, m' = q + 1 := ⟨m' - 1, by omega⟩
    by_cases c : dg? (tp a) = true
    · have c2 := dig_v c
      have etb : tb (tp a) = nI (tp a) := (tb_n t1 (by omega)).mpr rfl
      have hp : a - b ≤ 5 → v < 100000 := fun q => by
        have := (hv1 q).2
        have : 10 ^ (a - b) ≤ 10 ^ 5 := Nat.pow_le_pow_right (by decide) q
        omega
      have hw' : w ≤ 1000000 := by
        by_cases q : a - b ≤ 5
        · have := (hv1 q).1
          have := hp q
          omega
        · exact (hv2 (by omega)).2
      have eX : fReader_advance_205 N (m + 1) σ = fReader_advance_205 N m (sI (sI σ 120 0 0 0 (nI (if 5 ≤ a - b then 100000 else v * 10 + tp a - 48))) 116 0 0 0 (nI (a + 1))) := by
        have e270 : ∀ x, fReader_advance_270 N (fReader_advance_205 N m) x σ = fReader_advance_205 N m (sI (sI σ 120 0 0 0 x) 116 0 0 0 (nI (a + 1))) := by
          intro x
          unfold fReader_advance_270
          rw [nmx, nmx, sI_o (by decide), h.aX, nI_1]
        show (if σ.1 114 0 0 0 ≤ σ.1 116 0 0 0 then _ else chk (inb (σ.1 116 0 0 0) 600) (bn1 (fReader_isDigit N (σ.1 110 0 0 (σ.1 116 0 0 0).toNatClampNeg) σ) fun r1 => if r1 = 0 then _ else if 5 ≤ (σ.1 116 0 0 0 - σ.1 115 0 0 0) then fReader_advance_270 N (fReader_advance_205 N m) 100000 σ else fReader_advance_270 N (fReader_advance_205 N m) (((σ.1 120 0 0 0 * 10) + σ.1 110 0 0 (σ.1 116 0 0 0).toNatClampNeg) - 48) σ)) = _
        rw [h.lX, h.aX, if_neg (nI_ge (by omega) (by omega)), chk_t (inb_n (by omega) (by decide)), nI_clamp (by omega), t2, digX t1, bn1_e, if_pos c, if_neg (by decide), hs, hv, etb, e270, e270]
        have es : nI a - nI b = nI (a - b) := by
          rw [show a = b + (a - b) by omega, nI_subl, show b + (a - b) - b = a - b by omega]
        rw [es]
        by_cases q : 5 ≤ a - b
        · rw [if_pos (show (5 : Int32) ≤ nI (a - b) from nI_le q (by omega)), if_pos q]
          rfl
        · rw [if_neg (show ¬ (5 : Int32) ≤ nI (a - b) from nI_ge (a := a - b) (b := 5) (by omega) (by omega)), if_neg q]
          have := hp (by omega)
          have en : nI v * 10 + nI (tp a) - 48 = nI (v * 10 + tp a - 48) := by
            have e1 : nI v * 10 = nI (v * 10) := (Int32.ofNat_mul v 10).symm
            obtain ⟨q, hq⟩ : ∃ q, v * 10 + tp a = 48 + q := ⟨v * 10 + tp a - 48, by omega⟩
            rw [e1, nI_add, hq, Nat.add_sub_cancel_left]
            exact nI_subl
          rw [en]
      have eM : fM_step_128 N (m' + 1) μ = fM_step_128 N m' (sI (sI μ 252 0 0 0 (nI (if 1000000 ≤ 10 * w + tp a - 48 then 1000000 else 10 * w + tp a - 48))) 248 0 0 0 (nI (a + 1))) := by
        show (bn1 (fM_byteAt N (μ.1 248 0 0 0) μ) fun r1 => bn1 (fM_isDigit N r1 μ) fun r2 => if r2 = 0 then _ else bn1 (fM_byteAt N (μ.1 248 0 0 0) μ) fun r4 => bn1 (fMath_min_I N 1000000 (((10 * (μ.1 252 0 0 0)) + r4) - 48) μ) fun r5 => nm (sI μ 252 0 0 0 r5) fun (σ6 : St) => nm (sI σ6 248 0 0 0 ((σ6.1 248 0 0 0) + 1)) fun (σ7 : St) => (fM_step_128 N m') σ7) = _
        rw [h.aM, byteAt_e h.tape h.lM hn (by omega), bn1_e, if_pos (show a < n by omega), digM t1, bn1_e, if_pos c, if_neg (by decide), bn1_e, mn_e, bn1_e, nmx, nmx, sI_o (by decide), h.aM, hw, nI_1]
        have hz : 10 * w + tp a - 48 < 2 ^ 31 := by omega
        have en : 10 * nI w + nI (tp a) - 48 = nI (10 * w + tp a - 48) := by
          have e1 : 10 * nI w = nI (10 * w) := (Int32.ofNat_mul 10 w).symm
          obtain ⟨q, hq⟩ : ∃ q, 10 * w + tp a = 48 + q := ⟨10 * w + tp a - 48, by omega⟩
          rw [e1, nI_add, hq, Nat.add_sub_cancel_left]
          exact nI_subl
        rw [en]
        generalize 10 * w + tp a - 48 = z at *
        have l6 : (1000000 : Int32) = nI 1000000 := fa_lit 1000000
        have hmin : (if nI z < 1000000 then nI z else 1000000) = nI (if 1000000 ≤ z then 1000000 else z) := by
          rw [l6]
          by_cases q : 1000000 ≤ z
          · rw [if_pos q, if_neg (nI_nlt q hz)]
          · rw [if_neg q, if_pos (nI_lt (by omega) (by omega))]
        rw [hmin]
      obtain ⟨a', v', w', σ1, μ1, g1, g2, g3, g4, g5, g6, g7, g8, g9, g10, g11⟩ := ih (a + 1) m m' (if 5 ≤ a - b then 100000 else v * 10 + tp a - 48) (if 1000000 ≤ 10 * w + tp a - 48 then 1000000 else 10 * w + tp a - 48) (sI (sI σ 120 0 0 0 (nI (if 5 ≤ a - b then 100000 else v * 10 + tp a - 48))) 116 0 0 0 (nI (a + 1))) (sI (sI μ 252 0 0 0 (nI (if 1000000 ≤ 10 * w + tp a - 48 then 1000000 else 10 * w + tp a - 48))) 248 0 0 0 (nI (a + 1))) (by omega) (by omega) (by omega) (h.st ((Fx.s (by decide)).tr (Fx.s (by decide))) ((Fx.s (by decide)).tr (Fx.s (by decide))) (by omega) (sI_s ..) (sI_s ..)) (by omega) ((sI_o (by decide)).trans ((sI_o (by decide)).trans hs))
        (fun q => by
          have hq := hv1 (by omega)
          have hq2 := hp (by omega)
          rw [if_neg (by omega)]
          refine ⟨?_, ?_⟩
          · rw [if_neg (by
              have : 10 ^ (a - b) ≤ 10 ^ 4 := Nat.pow_le_pow_right (by decide) (by omega)
              omega)]
            omega
          · rw [show a + 1 - b = a - b + 1 by omega, Nat.pow_succ]
            omega) (fun q => by
          rw [if_pos (by omega)]
          refine ⟨rfl, ?_⟩
          split <;> omega) ((sI_o (by decide)).trans (sI_s ..)) ((sI_o (by decide)).trans (sI_s ..))
      refine ⟨a', v', w', σ1, μ1, by omega, g2, ((Fx.s (by decide)).tr (Fx.s (by decide))).tr g3, ((Fx.s (by decide)).tr (Fx.s (by decide))).tr g4, fun _ _ => by omega, g6, g7, g8, g9, eX.trans g10, eM.trans g11⟩
    · refine ⟨a, v, w, σ, μ, Nat.le_refl _, h, Fx.rf, Fx.rf, fun _ q => absurd q c, hv1, hv2, hv, hw, ?_, ?_⟩
      · show (if σ.1 114 0 0 0 ≤ σ.1 116 0 0 0 then _ else chk (inb (σ.1 116 0 0 0) 600) (bn1 (fReader_isDigit N (σ.1 110 0 0 (σ.1 116 0 0 0).toNatClampNeg) σ) fun r1 => if r1 = 0 then some σ else _)) = _
        rw [h.lX, h.aX, if_neg (nI_ge (by omega) (by omega)), chk_t (inb_n (by omega) (by decide)), nI_clamp (by omega), t2, digX t1, bn1_e, if_neg c, if_pos rfl]
      · show (bn1 (fM_byteAt N (μ.1 248 0 0 0) μ) fun r1 => bn1 (fM_isDigit N r1 μ) fun r2 => if r2 = 0 then nm (sI μ 250 0 0 0 2) fun (σ3 : St) => fM_step_286 N σ3 else _) = _
        rw [h.aM, byteAt_e h.tape h.lM hn (by omega), bn1_e, if_pos (show a < n by omega), digM t1, bn1_e, if_neg c, if_pos rfl, nmx]
