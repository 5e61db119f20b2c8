/-! the class makes its sheets -/
def tI : Option (Nat × Cl) → Int32
  | none => -1
  | some x => nI x.1
def bI : Option Nat → Int32
  | none => -1
  | some t => nI t
def LFx (v : Nat) (σ σ' : St) : Prop := (∀ f a b i, ¬ ((62 ≤ f ∧ f ≤ 71) ∧ a = v) → σ'.1 f a b i = σ.1 f a b i) ∧ σ'.2 = σ.2
theorem LFx.rf {v : Nat} {σ : St} : LFx v σ σ := ⟨fun _ _ _ _ _ => rfl, rfl⟩
theorem LFx.tr {v : Nat} {σ σ' σ'' : St} (h : LFx v σ σ') (h2 : LFx v σ' σ'') : LFx v σ σ'' := ⟨fun f a b i e => (h2.1 f a b i e).trans (h.1 f a b i e), h2.2.trans h.2⟩
theorem LFx.s {v f b i : Nat} {σ : St} {x : Int32} (h : 62 ≤ f ∧ f ≤ 71) : LFx v σ (sI σ f v b i x) := ⟨fun f' a' b' i' e => by rw [sI_1, if_neg (fun q => e ⟨by rw [q.1]; exact h, q.2.1⟩)], rfl⟩
/-- what the class keeps of its texts -/
def TxX (TC : Nat → List Cl) (fr to : Nat → Int32) (n : Nat) (σ : St) : Prop := ∀ t, t < n → ActX t (TC t) σ ∧ (∃ L, L ≤ 600 ∧ σ.1 2 t 0 0 = nI L ∧ ∀ (i : Nat) c, (TC t)[i]? = some c → ClOk c ∧ ClX t L c σ) ∧ (TC t).length ≤ 24 ∧ σ.1 13 t 0 0 = fr t ∧ σ.1 14 t 0 0 = to t ∧ (0 ≤ (fr t).toInt ∧ (fr t).toInt ≤ 935) ∧ (0 ≤ (to t).toInt ∧ (to t).toInt ≤ 935)
theorem TxX.mv {TC : Nat → List Cl} {fr to : Nat → Int32} {n : Nat} {σ σ' : St} (h : TxX TC fr to n σ) (hm : ∀ f a b i, 1 ≤ f → f ≤ 14 → σ'.1 f a b i = σ.1 f a b i) : TxX TC fr to n σ' := by
  intro t ht
  obtain ⟨⟨h1, h2, h3, h4, h5, h6, h7, h8, h9⟩, ⟨L, l1, l2, l3⟩, a1, a2, a3, a4, a5⟩ := h t ht
  have s : ∀ f a b i, 1 ≤ f → f ≤ 14 → σ'.1 f a b i = σ.1 f a b i := hm
  refine ⟨⟨(s _ _ _ _ (by decide) (by decide)).trans h1, fun k hk => (s _ _ _ _ (by decide) (by decide)).trans (h2 k hk), (s _ _ _ _ (by decide) (by decide)).trans h3, (s _ _ _ _ (by decide) (by decide)).trans h4, (s _ _ _ _ (by decide) (by decide)).trans h5, (s _ _ _ _ (by decide) (by decide)).trans h6, fun i c hc => (s _ _ _ _ (by decide) (by decide)).trans (h7 i c hc), (s _ _ _ _ (by decide) (by decide)).trans h8, fun i c hc => ⟨(s _ _ _ _ (by decide) (by decide)).trans (h9 i c hc).1, (s _ _ _ _ (by decide) (by decide)).trans (h9 i c hc).2⟩⟩, ⟨L, l1, (s _ _ _ _ (by decide) (by decide)).trans l2, fun i c hc => ⟨(l3 i c hc).1, fun q => ⟨At_eq _ _ (fun j _ _ => s _ _ _ _ (by decide) (by decide)) ((l3 i c hc).2 q).1, ((l3 i c hc).2 q).2⟩⟩⟩, a1, (s _ _ _ _ (by decide) (by decide)).trans a2, (s _ _ _ _ (by decide) (by decide)).trans a3, a4, a5⟩
def ShX (v s : Nat) (σ : St) (sh : Sheet) : Prop := Rep (fun i => σ.1 65 v s i) sh.R ∧ σ.1 66 v 0 s = nI sh.R.length ∧ (∀ k, k < 8 → σ.1 64 v s k = sh.par k) ∧ σ.1 67 v 0 s = sh.ins ∧ σ.1 68 v 0 s = tI (sh.last 2) ∧ σ.1 69 v 0 s = tI (sh.last 3) ∧ σ.1 70 v 0 s = tI (sh.last 4) ∧ σ.1 71 v 0 s = bI sh.by
theorem xIns {N v s t : Nat} {x1 x2 x4 : Int32} {fr : Nat → Int32} {go : Int32 → Int32 → Nat → Int32 → Int32 → St → Option St} (ht : t < 17) : ∀ (r : List Nat) (m : Nat) (σ : St), r.length < m → r.length < 17 → (∀ x ∈ r, x < t) → (∀ x, x ≤ t → σ.1 13 x 0 0 = fr x) → Rep (fun i => σ.1 65 v s i) r →
    ∃ σ', fLaw_orderActs_54 N v go m x1 x2 s x4 (nI t) (nI r.length) σ = go x1 x2 s (x4 + 1) (nI t + 1) σ' ∧ Rep (fun i => σ'.1 65 v s i) (insR fr t r) ∧ (∀ f a b i, ¬ (f = 65 ∧ a = v ∧ b = s) → σ'.1 f a b i = σ.1 f a b i) ∧ (∀ i, r.length < i → σ'.1 65 v s i = σ.1 65 v s i) ∧ σ'.2 = σ.2 := by
  intro r
  induction r with
  | nil =>
    intro m σ h1 h2 h3 hf h4
    obtain ⟨m, rfl⟩ : ∃ q, m = q + 1 := ⟨m - 1, by omega⟩
    refine ⟨sI σ 65 v s 0 (nI t), ?_, ⟨sI_s .., trivial⟩, fun f a b i q => by rw [sI_1, if_neg (fun z => q ⟨z.1, z.2.1, z.2.2.1⟩)], fun i hi => sI_i (by have : 0 < i := hi; omega), rfl⟩
    show (if nI 0 ≤ 0 then fLaw_orderActs_102 N v go x1 x2 s x4 (nI t) (nI 0) σ else _) = _
    rw [if_pos (by decide)]
    unfold fLaw_orderActs_102
    rw [chk_t (inb_n (by decide) (by decide)), nmx]
    rfl
  | cons x r ih =>
    intro m σ h1 h2 h3 hf h4
    rw [List.length_cons] at h1 h2 ⊢
    obtain ⟨m, rfl⟩ : ∃ q, m = q + 1 := ⟨m - 1, by omega⟩
    have hx := h3 x List.mem_cons_self
    have e0 : fLaw_orderActs_54 N v go (m + 1) x1 x2 s x4 (nI t) (nI (r.length + 1)) σ = if fr t < fr x then fLaw_orderActs_102 N v go x1 x2 s x4 (nI t) (nI (r.length + 1)) σ else fLaw_orderActs_54 N v go m x1 x2 s x4 (nI t) (nI r.length) (sI σ 65 v s (r.length + 1) (nI x)) := by
      show (if nI (r.length + 1) ≤ 0 then _ else chk (inb (nI (r.length + 1) - 1) 17) (chk (inb (σ.1 65 v s (nI (r.length + 1) - 1).toNatClampNeg) 17) (chk (inb (nI t) 17) (if σ.1 13 (nI t).toNatClampNeg 0 0 < σ.1 13 (σ.1 65 v s (nI (r.length + 1) - 1).toNatClampNeg).toNatClampNeg 0 0 then _ else chk (inb (nI (r.length + 1)) 17) (nm (sI σ 65 v s (nI (r.length + 1)).toNatClampNeg (σ.1 65 v s (nI (r.length + 1) - 1).toNatClampNeg)) fun (σ1 : St) => fLaw_orderActs_54 N v go m x1 x2 s x4 (nI t) (nI (r.length + 1) + (-1)) σ1))))) = _
      rw [if_neg (nI_nle (by omega) (by omega)), nI_sub1, chk_t (inb_n (by omega) (by decide)), nI_clamp (by omega), show σ.1 65 v s r.length = nI x from h4.1, chk_t (inb_n (by omega) (by decide)), chk_t (inb_n ht (by decide)), nI_clamp (by omega), nI_clamp (by omega), hf t (Nat.le_refl _), hf x (by omega), chk_t (inb_n (by omega) (by decide)), nmx, nI_clamp (by omega), nI_pred']
    rw [e0]
    show ∃ σ', _ ∧ Rep _ (if fr x ≤ fr t then x :: insR fr t r else t :: x :: r) ∧ _
    by_cases c : fr t < fr x
    · rw [if_pos c, if_neg (Int32.not_le.mpr c)]
      refine ⟨sI σ 65 v s (r.length + 1) (nI t), ?_, ⟨sI_s .., Rep.eq (x :: r) (fun i hi => sI_i (by rw [List.length_cons] at hi; omega)) h4⟩, fun f a b i q => by rw [sI_1, if_neg (fun z => q ⟨z.1, z.2.1, z.2.2.1⟩)], fun i hi => sI_i (by omega), rfl⟩
      unfold fLaw_orderActs_102
      rw [chk_t (inb_n (by omega) (by decide)), nmx, nI_clamp (by omega)]
    · rw [if_neg c, if_pos (Int32.not_lt.mp c)]
      obtain ⟨σ', i1, i2, i3, i4, i5⟩ := ih m (sI σ 65 v s (r.length + 1) (nI x)) (by omega) (by omega) (fun y hy => h3 y (List.mem_cons_of_mem _ hy)) (fun y hy => (sI_o (by decide)).trans (hf y hy)) (Rep.eq r (fun i hi => sI_i (by omega)) h4.2)
      refine ⟨σ', i1, ⟨?_, i2⟩, fun f a b i q => (i3 f a b i q).trans (by rw [sI_1, if_neg (fun z => q ⟨z.1, z.2.1, z.2.2.1⟩)]), fun i hi => (i4 i (by omega)).trans (sI_i (by omega)), i5⟩
      dsimp only
      rw [insR_len, i4 _ (by omega), sI_s]
theorem ord_loop {N v s n : Nat} {fr to : Nat → Int32} {x2 : Int32} (hN : 30 ≤ N) (hn : n ≤ 17) (hs : s < 35) : ∀ (e t m : Nat) (σ : St), t + e = n → e < m → (∀ x, x < n → σ.1 13 x 0 0 = fr x ∧ σ.1 14 x 0 0 = to x) → σ.1 62 v 0 0 = nI n → Rep (fun i => σ.1 65 v s i) (forR fr to x2 t) →
    ∃ σ', fLaw_orderActs_13 N v m (nI s) x2 s (nI (forR fr to x2 t).length) (nI t) σ = some σ' ∧ Rep (fun i => σ'.1 65 v s i) (forR fr to x2 n) ∧ σ'.1 66 v 0 s = nI (forR fr to x2 n).length ∧ (∀ f a b i, ¬ (f = 65 ∧ a = v ∧ b = s) → ¬ (f = 66 ∧ a = v ∧ b = 0 ∧ i = s) → σ'.1 f a b i = σ.1 f a b i) ∧ σ'.2 = σ.2 := by
  intro e
  induction e with
  | zero =>
    intro t m σ h1 h2 h3 h4 h5
    obtain ⟨m, rfl⟩ : ∃ q, m = q + 1 := ⟨m - 1, by omega⟩
    obtain rfl : t = n := by omega
    refine ⟨sI σ 66 v 0 s (nI (forR fr to x2 t).length), ?_, Rep.eq _ (fun i _ => sI_o (by decide)) h5, sI_s .., fun f a b i _ q => by rw [sI_1, if_neg q], rfl⟩
    show (if σ.1 62 v 0 0 ≤ nI t then chk (inb (nI s) 35) (nm (sI σ 66 v 0 (nI s).toNatClampNeg (nI (forR fr to x2 t).length)) fun (σ1 : St) => some σ1) else _) = _
    rw [h4, if_pos (nI_le (by omega) (by omega)), chk_t (inb_n hs (by decide)), nmx, nI_clamp (by omega)]
  | succ e ih =>
    intro t m σ h1 h2 h3 h4 h5
    obtain ⟨m, rfl⟩ : ∃ q, m = q + 1 := ⟨m - 1, by omega⟩
    have e0 : fLaw_orderActs_13 N v (m + 1) (nI s) x2 s (nI (forR fr to x2 t).length) (nI t) σ = if isF fr to x2 t = true then fLaw_orderActs_54 N v (fLaw_orderActs_13 N v m) N (nI s) x2 s (nI (forR fr to x2 t).length) (nI t) (nI (forR fr to x2 t).length) σ else fLaw_orderActs_13 N v m (nI s) x2 s (nI (forR fr to x2 t).length) (nI (t + 1)) σ := by
      show (if σ.1 62 v 0 0 ≤ nI t then _ else chk (inb (nI t) 17) (if x2 < σ.1 13 (nI t).toNatClampNeg 0 0 then fLaw_orderActs_13 N v m (nI s) x2 s (nI (forR fr to x2 t).length) (nI t + 1) σ else if σ.1 14 (nI t).toNatClampNeg 0 0 ≤ x2 then fLaw_orderActs_13 N v m (nI s) x2 s (nI (forR fr to x2 t).length) (nI t + 1) σ else _)) = _
      rw [h4, if_neg (nI_ge (by omega) (by omega)), chk_t (inb_n (by omega) (by decide)), nI_clamp (by omega), (h3 t (by omega)).1, (h3 t (by omega)).2, nI_1]
      unfold isF
      by_cases c1 : x2 < fr t
      · rw [if_pos c1, if_neg (by simp; intro q; exact absurd c1 (Int32.not_lt.mpr q))]
      · rw [if_neg c1]
        by_cases c2 : to t ≤ x2
        · rw [if_pos c2, if_neg (by simp; intro _; exact c2)]
        · rw [if_neg c2, if_pos (by simp; exact ⟨Int32.not_lt.mp c1, Int32.not_le.mp c2⟩)]
    rw [e0]
    have ef : forR fr to x2 (t + 1) = if isF fr to x2 t = true then insR fr t (forR fr to x2 t) else forR fr to x2 t := rfl
    by_cases ci : isF fr to x2 t = true
    · rw [if_pos ci] at ef ⊢
      have hl := forR_len fr to x2 t
      obtain ⟨σ1, a1, a2, a3, a4, a5⟩ := xIns (N := N) (v := v) (s := s) (x1 := nI s) (x2 := x2) (x4 := nI (forR fr to x2 t).length) (fr := fr) (go := fLaw_orderActs_13 N v m) (t := t) (by omega) _ N σ (by omega) (by omega) (fun x hx => forR_lt _ _ _ _ x hx) (fun x hx => (h3 x (by omega)).1) h5
      obtain ⟨σ', b1, b2, b3, b4, b5⟩ := ih (t + 1) m σ1 (by omega) (by omega) (fun x hx => ⟨(a3 _ _ _ _ (fun z => absurd z.1 (by decide))).trans (h3 x hx).1, (a3 _ _ _ _ (fun z => absurd z.1 (by decide))).trans (h3 x hx).2⟩) ((a3 _ _ _ _ (fun z => absurd z.1 (by decide))).trans h4) (by rw [ef]; exact a2)
      refine ⟨σ', ?_, b2, b3, fun f a b i q1 q2 => (b4 f a b i q1 q2).trans (a3 f a b i q1), b5.trans a5⟩
      rw [a1, nI_1, nI_1, ← b1, ef, insR_len]
    · rw [if_neg ci] at ef ⊢
      rw [← ef]
      rw [← ef] at h5
      exact ih (t + 1) m σ (by omega) (by omega) h3 h4 h5
theorem lst_mem {p : Cl → Bool} {l : List Cl} {c : Cl} (h : lst p l = some c) : ∃ i : Nat, l[i]? = some c ∧ p c = true := by
  have h1 : c ∈ l.filter p := List.mem_of_getLast? h
  obtain ⟨h2, h3⟩ := List.mem_filter.mp h1
  obtain ⟨i, hi⟩ := List.getElem?_of_mem h2
  exact ⟨i, hi, h3⟩
/-- one text laid over a sheet -/
theorem ov_par {N v s f : Nat} {TC : Nat → List Cl} (hs : s < 35) {ps : Nat → Int32} {K : St → Option St} : ∀ (d i m : Nat) (σ : St), i + d = 8 → d < m → (∀ k, k < 8 → σ.1 3 f 0 k = twoI (lst (isP k) (TC f))) → (∀ (j : Nat) c, (TC f)[j]? = some c → ClOk c) → (∀ k, k < 8 → σ.1 64 v s k = if k < i then pT TC k (ps k) f else ps k) →
    ∃ σ', fLaw_overlay_10 N v m (nI s) (nI f) f (nI i) σ = (if σ'.1 4 f 0 0 = 0 then fLaw_overlay_67 N v (nI s) (nI f) f σ' else chk (inb (nI s) 35) (nm (sI σ' 67 v 0 (nI s).toNatClampNeg (σ'.1 4 f 0 0)) fun (σ1 : St) => fLaw_overlay_67 N v (nI s) (nI f) f σ1)) ∧ (∀ f' a b j, ¬ (f' = 64 ∧ a = v ∧ b = s) → σ'.1 f' a b j = σ.1 f' a b j) ∧ σ'.2 = σ.2 ∧ (∀ k, k < 8 → σ'.1 64 v s k = pT TC k (ps k) f) := by
  intro d
  induction d with
  | zero =>
    intro i m σ h1 h2 h3 h4 h5
    obtain ⟨m, rfl⟩ : ∃ q, m = q + 1 := ⟨m - 1, by omega⟩
    obtain rfl : i = 8 := by omega
    exact ⟨σ, rfl, fun _ _ _ _ _ => rfl, rfl, fun k hk => by rw [h5 k hk, if_pos hk]⟩
  | succ d ih =>
    intro i m σ h1 h2 h3 h4 h5
    obtain ⟨m, rfl⟩ : ∃ q, m = q + 1 := ⟨m - 1, by omega⟩
    have e0 : fLaw_overlay_10 N v (m + 1) (nI s) (nI f) f (nI i) σ = if twoI (lst (isP i) (TC f)) = -1 then fLaw_overlay_10 N v m (nI s) (nI f) f (nI (i + 1)) σ else fLaw_overlay_10 N v m (nI s) (nI f) f (nI (i + 1)) (sI σ 64 v s i (twoI (lst (isP i) (TC f)))) := by
      show (if (8 : Int32) ≤ nI i then _ else chk (inb (nI i) 8) (if σ.1 3 f 0 (nI i).toNatClampNeg = -1 then fLaw_overlay_10 N v m (nI s) (nI f) f (nI i + 1) σ else chk (inb (nI s) 35) (nm (sI σ 64 v (nI s).toNatClampNeg (nI i).toNatClampNeg (σ.1 3 f 0 (nI i).toNatClampNeg)) fun (σ2 : St) => fLaw_overlay_10 N v m (nI s) (nI f) f (nI i + 1) σ2))) = _
      rw [if_neg (show ¬ (8 : Int32) ≤ nI i from nI_ge (a := i) (b := 8) (by omega) (by omega)), chk_t (inb_n (by omega) (by decide)), nI_clamp (by omega), h3 i (by omega), nI_1, chk_t (inb_n hs (by decide)), nmx, nI_clamp (by omega)]
    rw [e0]
    cases hc : lst (isP i) (TC f) with
    | none =>
      rw [if_pos (show twoI none = -1 from rfl)]
      refine ih (i + 1) m σ (by omega) (by omega) h3 h4 (fun k hk => ?_)
      rw [h5 k hk]
      by_cases z : k = i
      · subst z
        rw [if_neg (by omega), if_pos (by omega)]
        unfold pT
        rw [hc]
      · by_cases z2 : k < i
        · rw [if_pos z2, if_pos (by omega)]
        · rw [if_neg z2, if_neg (by omega)]
    | some c =>
      obtain ⟨j, j1, j2⟩ := lst_mem hc
      have hw : c.wh = 1 ∧ c.one = i := by simpa [isP] using j2
      have h2 := ((h4 j c j1).2.2.1 hw.1).2
      rw [if_neg (show ¬ twoI (some c) = -1 from m1_ne (by omega))]
      obtain ⟨σ', i1, i2, i3, i4⟩ := ih (i + 1) m (sI σ 64 v s i (nI c.two)) (by omega) (by omega) (fun k hk => (sI_o (by decide)).trans (h3 k hk)) h4 (fun k hk => by
        by_cases z : k = i
        · subst z
          rw [sI_s, if_pos (by omega)]
          unfold pT
          rw [hc]
        · rw [sI_i z, h5 k hk]
          by_cases z2 : k < i
          · rw [if_pos z2, if_pos (by omega)]
          · rw [if_neg z2, if_neg (by omega)])
      exact ⟨σ', i1, fun f' a b j q => (i2 f' a b j q).trans (by rw [sI_1, if_neg (fun z => q ⟨z.1, z.2.1, z.2.2.1⟩)]), i3, i4⟩
