/-! the class' life: what it reads -/
def EX (v p n : Nat) (E : Env) (σ : St) : Prop := (∀ d, d < 936 → ∃ s, s < 35 ∧ σ.1 63 v 0 d = nI s ∧ ShX v s σ (E.sh d)) ∧ (∃ fr to, TxX E.TC fr to n σ ∧ ∀ d, d < 936 → E.sh d = shOf E.TC fr to n d) ∧ n ≤ 17 ∧ p < 20 ∧ σ.1 74 v p 0 = nI p ∧ σ.1 48 0 0 p = E.age ∧ σ.1 47 0 0 p = E.trade ∧ σ.1 50 0 0 p = E.wage ∧ ∀ w, w < 156 → σ.1 80 v p w = E.st w
theorem EX.lf {v p n : Nat} {E : Env} {σ σ' : St} (h : EX v p n E σ) (hf : LfX v p σ σ') : EX v p n E σ' := by
  obtain ⟨h1, ⟨fr, to, h2, h3⟩, h4, h5, h6, h7, h8, h9, h10⟩ := h
  have o : ∀ f a b i, ¬ lfq f → σ'.1 f a b i = σ.1 f a b i := fun f a b i q => hf.1 f a b i (fun z => q z.1)
  have n1 : ∀ f, f < 78 → ¬ lfq f := fun f q z => by have := z.1.1; omega
  refine ⟨fun d hd => ?_, ⟨fr, to, h2.mv (fun f a b i q1 q2 => o f a b i (n1 f (by omega))), h3⟩, h4, h5, ?_, ?_, ?_, ?_, fun w hw => ?_⟩
  · obtain ⟨s, s1, s2, s3⟩ := h1 d hd
    exact ⟨s, s1, (o _ _ _ _ (n1 _ (by decide))).trans s2, s3.mv (fun f b i q1 q2 => o f v b i (n1 f (by omega)))⟩
  · rw [o _ _ _ _ (n1 _ (by decide)), h6]
  · rw [o _ _ _ _ (n1 _ (by decide)), h7]
  · rw [o _ _ _ _ (n1 _ (by decide)), h8]
  · rw [o _ _ _ _ (n1 _ (by decide)), h9]
  · rw [o _ _ _ _ (fun z => z.2.1 rfl), h10 w hw]
theorem and1 (y : Int32) : y &&& 1 = 0 ∨ y &&& 1 = 1 := by
  have h : (y &&& 1).toBitVec.toNat = y.toBitVec.toNat % 2 := by
    rw [Int32.toBitVec_and, BitVec.toNat_and]
    exact Nat.and_one_is_mod _
  rcases Nat.mod_two_eq_zero_or_one y.toBitVec.toNat with e | e
  · exact Or.inl (Int32.toBitVec_inj.mp (BitVec.eq_of_toNat_eq (h.trans e)))
  · exact Or.inr (Int32.toBitVec_inj.mp (BitVec.eq_of_toNat_eq (h.trans e)))
theorem param_e {N v p n k d : Nat} {E : Env} {σ : St} (h : EX v p n E σ) (hk : k < 8) (hd : d < 936) : fLaw_param N v (nI k) (nI d) σ = some ((E.sh d).par k) := by
  obtain ⟨s, s1, s2, s3⟩ := h.1 d hd
  unfold fLaw_param
  rw [chk_t (inb_n hd (by decide)), nI_clamp (by omega), s2, chk_t (inb_n s1 (by decide)), chk_t (inb_n hk (by decide)), nI_clamp (by omega), nI_clamp (by omega), s3.2.2.1 k hk]
theorem insures_e {N v p n d : Nat} {E : Env} {σ : St} (h : EX v p n E σ) (hd : d < 936) : fLaw_insures N v E.trade (nI d) σ = some (if insD E d = true then 1 else 0) := by
  obtain ⟨s, s1, s2, s3⟩ := h.1 d hd
  unfold fLaw_insures insD
  rw [chk_t (inb_n hd (by decide)), nI_clamp (by omega), s2, chk_t (inb_n s1 (by decide)), nI_clamp (by omega), s3.2.2.2.1]
  rcases and1 ((E.sh d).ins >>> (E.trade &&& 31)) with e | e
  · rw [if_pos e, if_neg (by rw [e]; decide)]
  · rw [if_neg (by rw [e]; decide), if_pos (by rw [e]; decide)]
/-- the life's own shape -/
def WL (s : Lfe) : Prop := (∃ c, c ≤ 55 ∧ s 84 0 = nI c ∧ (s 85 0 ≠ 0 → 1 ≤ c)) ∧ (s 85 0 = 0 ∨ s 85 0 = 1) ∧ (s 87 0 = 0 ∨ s 87 0 = 1) ∧ (s 88 0 = 0 ∨ s 88 0 = 1)
theorem mx_n {a : Int32} {σ : St} {N : Nat} : fMath_max_I N 0 a σ = some (mx0 a) := by
  unfold fMath_max_I mx0
  by_cases c : (0 : Int32) < a
  · rw [if_pos c, if_pos c]
  · rw [if_neg c, if_neg c]
theorem mxI_e {a b : Int32} {σ : St} {N : Nat} : fMath_max_I N a b σ = some (mxI a b) := by
  unfold fMath_max_I mxI
  by_cases c : a < b
  · rw [if_pos c, if_pos c]
  · rw [if_neg c, if_neg c]
theorem row_e {N v p : Nat} {σ : St} (h : WL (sl v p σ)) : fLife_rowOfLatest N v p σ = some (nI (rw_ (sl v p σ))) ∧ rw_ (sl v p σ) + 11 ≤ 605 := by
  obtain ⟨⟨c, c1, c2, -⟩, -⟩ := h
  have c2' : σ.1 84 v p 0 = nI c := c2
  have er : rw_ (sl v p σ) = 11 * (c - 1) := by
    unfold rw_
    rw [c2, nI_clamp (by omega)]
  refine ⟨?_, by rw [er]; omega⟩
  unfold fLife_rowOfLatest
  rw [c2', mx_n, bn1_e, er]
  have : mx0 (nI c - 1) = nI (c - 1) := by
    unfold mx0
    cases c with
    | zero => rfl
    | succ c =>
      rw [nI_sub1]
      cases c with
      | zero => rfl
      | succ c => rw [if_pos (show (0 : Int32) < nI (c + 1) from nI_lt (a := 0) (by omega) (by omega))]; rfl
  rw [this, show nI (c - 1) * 11 = nI ((c - 1) * 11) from (Int32.ofNat_mul (c - 1) 11).symm, Nat.mul_comm]
theorem close_e {N v p d : Nat} {σ : St} (h : WL (sl v p σ)) : ∃ σ', fLife_closeClaim N v p (nI d) σ = some σ' ∧ LfX v p σ σ' ∧ sl v p σ' = sClose d (sl v p σ) := by
  obtain ⟨h1, h2⟩ := row_e (N := N) h
  unfold fLife_closeClaim sClose
  by_cases c : σ.1 85 v p 0 = 0
  · rw [if_pos c, if_pos (show sl v p σ 85 0 = 0 from c)]
    exact ⟨σ, rfl, LfX.rf, rfl⟩
  · rw [if_neg c, if_neg (show ¬ sl v p σ 85 0 = 0 from c), nmx, nmx]
    have e1 : fLife_rowOfLatest N v p (sI (sI σ 85 v p 0 0) 86 v p 0 (nI d)) = some (nI (rw_ (sl v p σ))) := h1
    rw [e1, bn1_e, show nI (rw_ (sl v p σ)) + 8 = nI (rw_ (sl v p σ) + 8) from nI_add _ 8, chk_t (inb_n (by omega) (by decide)), nmx, nI_clamp (by omega)]
    refine ⟨_, rfl, ((LfX.s (by decide)).tr (LfX.s (by decide))).tr (LfX.s (by decide)), ?_⟩
    rw [sl_I (by decide), sl_I (by decide), sl_I (by decide)]
theorem st_loop {N v p : Nat} {st : Nat → Int32} : ∀ (m w f : Nat) (x : Int32) (σ : St), w + m ≤ 156 → m < f → (∀ w, w < 156 → σ.1 80 v p w = st w) → fLife_stampsAhead_17 N v p f x (nI (w + m)) (nI w) σ = some (accS st m w x) := by
  intro m
  induction m with
  | zero =>
    intro w f x σ h1 h2 h3
    obtain ⟨f, rfl⟩ : ∃ q, f = q + 1 := ⟨f - 1, by omega⟩
    show (if nI (w + 0) ≤ nI w then _ else _) = _
    rw [Nat.add_zero, if_pos (Int32.le_refl _)]
    rfl
  | succ m ih =>
    intro w f x σ h1 h2 h3
    obtain ⟨f, rfl⟩ : ∃ q, f = q + 1 := ⟨f - 1, by omega⟩
    show (if nI (w + (m + 1)) ≤ nI w then _ else chk (inb (nI w) 156) (bn1 (fMath_max_I N 0 (σ.1 80 v p (nI w).toNatClampNeg) σ) fun r1 => nm (x + r1) fun y2 => fLife_stampsAhead_17 N v p f y2 (nI (w + (m + 1))) (nI w + 1) σ)) = _
    rw [if_neg (nI_ge (by omega) (by omega)), chk_t (inb_n (by omega) (by decide)), nI_clamp (by omega), h3 w (by omega), mx_n, bn1_e, nmx, nI_1, show w + (m + 1) = w + 1 + m by omega, ih (w + 1) f _ σ (by omega) (by omega) h3]
    rfl
theorem un_loop {N v p : Nat} {st : Nat → Int32} : ∀ (m w f : Nat) (x : Int32) (σ : St), w + m ≤ 156 → m < f → (∀ w, w < 156 → σ.1 80 v p w = st w) → fLife_unknownAhead_17 N v p f x (nI (w + m)) (nI w) σ = some (accU st m w x) := by
  intro m
  induction m with
  | zero =>
    intro w f x σ h1 h2 h3
    obtain ⟨f, rfl⟩ : ∃ q, f = q + 1 := ⟨f - 1, by omega⟩
    show (if nI (w + 0) ≤ nI w then _ else _) = _
    rw [Nat.add_zero, if_pos (Int32.le_refl _)]
    rfl
  | succ m ih =>
    intro w f x σ h1 h2 h3
    obtain ⟨f, rfl⟩ : ∃ q, f = q + 1 := ⟨f - 1, by omega⟩
    show (if nI (w + (m + 1)) ≤ nI w then _ else chk (inb (nI w) 156) (if σ.1 80 v p (nI w).toNatClampNeg = -1 then nm (x + 1) fun y1 => fLife_unknownAhead_17 N v p f y1 (nI (w + (m + 1))) (nI w + 1) σ else nm (x + 0) fun y1 => fLife_unknownAhead_17 N v p f y1 (nI (w + (m + 1))) (nI w + 1) σ)) = _
    rw [if_neg (nI_ge (by omega) (by omega)), chk_t (inb_n (by omega) (by decide)), nI_clamp (by omega), h3 w (by omega), nmx, nmx, nI_1, show w + (m + 1) = w + 1 + m by omega, ih (w + 1) f _ σ (by omega) (by omega) h3, ih (w + 1) f _ σ (by omega) (by omega) h3]
    show _ = some (accU st m (w + 1) (x + if st w = -1 then 1 else 0))
    by_cases c : st w = -1
    · rw [if_pos c, if_pos c]
    · rw [if_neg c, if_neg c]
theorem div6 {d : Nat} (hd : d < 936) : nI d / 6 = nI (d / 6) := by
  have : ∀ d, d < 936 → nI d / 6 = nI (d / 6) := by decide +kernel
  exact this d hd
theorem mod6 {d : Nat} (hd : d < 936) : irem (nI d) 6 = nI (d % 6) := by
  have : ∀ d, d < 936 → irem (nI d) 6 = nI (d % 6) := by decide +kernel
  exact this d hd
theorem sub52 {a : Nat} (h : 52 ≤ a) : nI a - 52 = nI (a - 52) := by
  have : nI a - 52 = nI (52 + (a - 52)) - nI 52 := by rw [show 52 + (a - 52) = a by omega]; rfl
  rw [this, nI_subl]
theorem stA_e {N v p n d : Nat} {E : Env} {σ : St} (hN : 200 ≤ N) (h : EX v p n E σ) (h1 : 312 ≤ d) (hd : d < 936) : fLife_stampsAhead N v p (nI d) σ = some (stA E d) ∧ fLife_unknownAhead N v p (nI d) σ = some (unA E d) := by
  obtain ⟨-, -, -, -, -, -, -, -, h10⟩ := h
  have e : mx0 (nI (d / 6) - 52) = nI (d / 6 - 52) := by
    rw [sub52 (by omega)]
    unfold mx0
    rcases Nat.eq_zero_or_pos (d / 6 - 52) with z | z
    · rw [z]; rfl
    · rw [if_pos (show (0 : Int32) < nI (d / 6 - 52) from nI_lt (a := 0) z (by omega))]
  have e2 : d / 6 = d / 6 - 52 + 52 := by omega
  constructor
  · unfold fLife_stampsAhead stA
    rw [div6 hd, nmx, mx_n, bn1_e, e]
    have := st_loop (N := N) (v := v) (p := p) 52 (d / 6 - 52) N 0 σ (by omega) (by omega) h10
    rw [← e2] at this
    exact this
  · unfold fLife_unknownAhead unA
    rw [div6 hd, nmx, mx_n, bn1_e, e]
    have := un_loop (N := N) (v := v) (p := p) 52 (d / 6 - 52) N 0 σ (by omega) (by omega) h10
    rw [← e2] at this
    exact this
