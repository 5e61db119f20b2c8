/-! the two views -/
def SvX (v : Nat) (σ σ' : St) : Prop := (∀ f a b i, ¬ (((62 ≤ f ∧ f ≤ 71) ∨ f = 82 ∨ f = 147) ∧ a = v) → σ'.1 f a b i = σ.1 f a b i) ∧ σ'.2 = σ.2
theorem SvX.rf {v : Nat} {σ : St} : SvX v σ σ := ⟨fun _ _ _ _ _ => rfl, rfl⟩
theorem SvX.tr {v : Nat} {σ σ' σ'' : St} (h : SvX v σ σ') (h2 : SvX v σ' σ'') : SvX v σ σ'' := ⟨fun f a b i e => (h2.1 f a b i e).trans (h.1 f a b i e), h2.2.trans h.2⟩
theorem LFx.sv {v : Nat} {σ σ' : St} (h : LFx v σ σ') : SvX v σ σ' := ⟨fun f a b i e => h.1 f a b i (fun q => e ⟨Or.inl q.1, q.2⟩), h.2⟩
theorem SvX.s {v f b i : Nat} {σ : St} {x : Int32} (h : f = 82 ∨ f = 147) : SvX v σ (sI σ f v b i x) := ⟨fun f' a b' i' e => by rw [sI_1, if_neg (fun q => e ⟨Or.inr (by rw [q.1]; exact h), q.2.1⟩)], rfl⟩
theorem SvX.eq {v : Nat} {σ σ' μ : St} (h : SvX v σ σ') (hE : Eq1 σ μ) : Eq1 σ' μ := by
  intro q hq i
  rw [← hE q hq i]
  have : eqF.all (fun q => decide (¬ ((62 ≤ q.1 ∧ q.1 ≤ 71) ∨ q.1 = 82 ∨ q.1 = 147))) = true := by decide
  have := List.all_eq_true.mp this q hq
  simp only [decide_eq_true_eq] at this
  exact h.1 _ _ _ _ (fun z => this z.1)
theorem SvX.tx {v n : Nat} {TC : Nat → List Cl} {fr to : Nat → Int32} {σ σ' : St} (h : SvX v σ σ') (hT : TxX TC fr to n σ) : TxX TC fr to n σ' := hT.mv (fun f a b i q1 q2 => h.1 f a b i (fun z => by rcases z.1 with q | q | q; omega; exact absurd q2 (by rw [q]; decide); exact absurd q2 (by rw [q]; decide)))
theorem seen_loop {N v : Nat} : ∀ (e i m : Nat) (σ : St), i + e = 20 → e < m → ∃ σ', fView_settle_26 N v m (nI i) σ = some σ' ∧ SvX v σ σ' ∧ (∀ f b j, f ≠ 82 → σ'.1 f v b j = σ.1 f v b j) ∧ (∀ p, i ≤ p → p < 20 → σ'.1 82 v p 0 = -1) ∧ ∀ p, p < i → σ'.1 82 v p 0 = σ.1 82 v p 0 := by
  intro e
  induction e with
  | zero =>
    intro i m σ h1 h2
    obtain ⟨m, rfl⟩ : ∃ q, m = q + 1 := ⟨m - 1, by omega⟩
    obtain rfl : i = 20 := by omega
    exact ⟨σ, rfl, SvX.rf, fun _ _ _ _ => rfl, fun p a b => by omega, fun _ _ => rfl⟩
  | succ e ih =>
    intro i m σ h1 h2
    obtain ⟨m, rfl⟩ : ∃ q, m = q + 1 := ⟨m - 1, by omega⟩
    obtain ⟨σ', i1, i2, i3, i4, i5⟩ := ih (i + 1) m (sI σ 82 v i 0 (-1)) (by omega) (by omega)
    refine ⟨σ', ?_, (SvX.s (Or.inl rfl)).tr i2, fun f b j q => (i3 f b j q).trans (sI_o q), fun p a b => ?_, fun p a => ?_⟩
    · show (if (20 : Int32) ≤ nI i then _ else chk (inb (nI i) 20) (nm (sI σ 82 v (nI i).toNatClampNeg 0 (-1)) fun (σ1 : St) => fView_settle_26 N v m (nI i + 1) σ1)) = _
      rw [if_neg (show ¬ (20 : Int32) ≤ nI i from nI_ge (a := i) (b := 20) (by omega) (by omega)), chk_t (inb_n (by omega) (by decide)), nmx, nI_clamp (by omega), nI_1, i1]
    · by_cases c : p = i
      · rw [c, i5 i (by omega), sI_1, if_pos ⟨rfl, rfl, rfl, rfl⟩]
      · exact i4 p (by omega) b
    · rw [i5 p (by omega), sI_1, if_neg (fun q => by have := q.2.2.1; omega)]
theorem settle_x {N v n on : Nat} {TC : Nat → List Cl} {fr to : Nat → Int32} {σ : St} (hN : 2000 ≤ N) (hn : n ≤ 17) (hT : TxX TC fr to n σ) (hL : σ.1 62 v 0 0 = nI n → LawX v TC fr to n σ) :
    ∃ σ', fView_settle N v (nI on) (nI n) σ = some σ' ∧ SvX v σ σ' ∧ σ'.1 62 v 0 0 = nI n ∧ σ'.1 147 v 0 0 = nI on ∧ LawX v TC fr to n σ' ∧ ((∀ p, p < 20 → σ'.1 82 v p 0 = -1) ∨ (σ.1 62 v 0 0 = nI n ∧ ∀ f a b i, f ≠ 147 → σ'.1 f a b i = σ.1 f a b i)) := by
  have s1 : SvX v σ (sI σ 147 v 0 0 (nI on)) := SvX.s (Or.inr rfl)
  have z1 : (sI σ 147 v 0 0 (nI on)).1 62 v 0 0 = σ.1 62 v 0 0 := sI_o (by decide)
  by_cases c : σ.1 62 v 0 0 = nI n
  · refine ⟨sI σ 147 v 0 0 (nI on), ?_, s1, z1.trans c, sI_s .., ?_, Or.inr ⟨c, fun f a b i q => sI_o q⟩⟩
    · unfold fView_settle
      rw [nmx, show (sI σ 147 v 0 0 (nI on)).1 62 v 0 0 = nI n from z1.trans c, if_pos rfl]
    · intro d hd
      obtain ⟨s, q1, q2, q3⟩ := hL c d hd
      exact ⟨s, q1, (sI_o (by decide)).trans q2, q3.mv (fun f b i _ _ => sI_o (by omega))⟩
  · obtain ⟨σ1, a1, a2, a3, a4⟩ := make_e (N := N) (v := v) (n := n) hN hn (s1.tx hT)
    obtain ⟨σ', b1, b2, b3, b4, -⟩ := seen_loop (N := N) (v := v) 20 0 N σ1 (by omega) (by omega)
    refine ⟨σ', ?_, (s1.tr a2.sv).tr b2, ?_, ?_, ?_, Or.inl (fun p hp => b4 p (Nat.zero_le _) hp)⟩
    · unfold fView_settle
      rw [nmx, show (sI σ 147 v 0 0 (nI on)).1 62 v 0 0 = σ.1 62 v 0 0 from z1, if_neg c, show sI σ 147 v 0 0 (nI on) = sI σ 147 v 0 0 (nI on) from rfl, a1, bn1_e]
      exact b1
    · rw [b3 _ _ _ (by decide), a3]
    · rw [b3 _ _ _ (by decide), a2.1 _ _ _ _ (fun q => absurd q.1.2 (by decide)), sI_s]
    · intro d hd
      obtain ⟨s, q1, q2, q3⟩ := a4 d hd
      exact ⟨s, q1, (b3 _ _ _ (by decide)).trans q2, q3.mv (fun f b i _ _ => b3 f b i (by omega))⟩
/-- the last day known to a view's life -/
def kOf (v : Nat) (μ : St) (u : Nat) : Nat := if v = 0 then (μ.1 205 0 0 0).toNatClampNeg else u
def LvI (v p n : Nat) (TC : Nat → List Cl) (σ μ : St) : Prop := ∃ u, 311 ≤ u ∧ u ≤ (μ.1 205 0 0 0).toNatClampNeg ∧ σ.1 83 v p 0 = nI u ∧ LfOK v p u (ENM μ TC p n (kOf v μ u)) μ (evM μ p (kOf v μ u)) σ ∧ (v = 0 → ∀ e, e < cnM μ → peM μ e = p → dyM μ e ≤ u)
def RdV (v n : Nat) (TC : Nat → List Cl) (σ μ : St) : Prop := σ.1 62 v 0 0 = nI n ∧ LawX v (TCn TC n) (frM μ) (toM μ) n σ ∧ ∀ p, p < 20 → σ.1 82 v p 0 = σ.1 53 0 0 p → LvI v p n TC σ μ
def PrV (v : Nat) (σ : St) : Prop := (∀ p, p < 20 → σ.1 74 v p 0 = nI p) ∧ σ.1 142 v 0 0 = (if v = 0 then 1 else 0) ∧ ∀ p, p < 20 → ∃ c : Nat, σ.1 53 0 0 p = nI c ∧ c ≤ 10000 ∧ (σ.1 82 v p 0 = -1 ∨ ∃ s : Nat, s ≤ c ∧ σ.1 82 v p 0 = nI s)
def VwI (v : Nat) (TC : Nat → List Cl) (σ μ : St) : Prop := PrV v σ ∧ (σ.1 62 v 0 0 = -1 ∨ ∃ n : Nat, n ≤ (μ.1 219 0 0 0).toNatClampNeg ∧ RdV v n TC σ μ)
theorem LfOK.mv {v p u : Nat} {E : Env} {μ : St} {ev : Nat → List Ev} {σ σ' : St} (h : LfOK v p u E μ ev σ) (h1 : ∀ f i, slr f → σ'.1 f v p i = σ.1 f v p i) (h2 : ∀ e, e < cnM μ → peM μ e = p → σ'.1 144 v 0 e = σ.1 144 v 0 e) : LfOK v p u E μ ev σ' := by
  obtain ⟨s0, a, b, c⟩ := h
  exact ⟨s0, (sl_c h1).trans a, fun e he hp => (h2 e he hp).trans (b e he hp), fun w hw => (h1 _ _ (by decide)).trans (c w hw)⟩
theorem LvI.mv {v p n : Nat} {TC : Nat → List Cl} {μ σ σ' : St} (h : LvI v p n TC σ μ) (h1 : ∀ f i, slr f → σ'.1 f v p i = σ.1 f v p i) (h2 : ∀ e, e < cnM μ → peM μ e = p → σ'.1 144 v 0 e = σ.1 144 v 0 e) : LvI v p n TC σ' μ := by
  obtain ⟨u, u1, u2, u3, u4, u5⟩ := h
  exact ⟨u, u1, u2, (h1 _ _ (by decide)).trans u3, u4.mv h1 h2, u5⟩
theorem settle_v {N v n on : Nat} {TC : Nat → List Cl} {σ μ : St} (hN : 2000 ≤ N) (hn : n ≤ 17) (hT : TxX (TCn TC n) (frM μ) (toM μ) n σ) (hV : VwI v TC σ μ) (ht : (μ.1 219 0 0 0).toNatClampNeg < 2 ^ 30) :
    ∃ σ', fView_settle N v (nI on) (nI n) σ = some σ' ∧ SvX v σ σ' ∧ σ'.1 147 v 0 0 = nI on ∧ PrV v σ' ∧ RdV v n TC σ' μ ∧ ∀ p, p < 20 → σ'.1 82 v p 0 = -1 ∨ σ'.1 82 v p 0 = σ.1 82 v p 0 := by
  obtain ⟨⟨p1, p2, p3⟩, hV⟩ := hV
  have got : σ.1 62 v 0 0 = nI n → RdV v n TC σ μ := fun z => by
    rcases hV with q | ⟨m, m1, m2⟩
    · exact absurd (z.symm.trans q) (m1_ne (by omega))
    · have : m = n := (nI_eq (by omega) (by omega)).mp (m2.1.symm.trans z)
      rw [← this]
      exact m2
  obtain ⟨σ', a1, a2, a3, a4, a5, a6⟩ := settle_x (N := N) (v := v) (n := n) (on := on) hN hn hT (fun z => (got z).2.1)
  have ch : ∀ p, σ'.1 53 0 0 p = σ.1 53 0 0 p := fun p => a2.1 _ _ _ _ (fun q => absurd q.1 (by decide))
  have pe : ∀ p, σ'.1 74 v p 0 = σ.1 74 v p 0 := fun p => a2.1 _ _ _ _ (fun q => absurd q.1 (by decide))
  refine ⟨σ', a1, a2, a4, ⟨fun p hp => (pe p).trans (p1 p hp), (a2.1 _ _ _ _ (fun q => absurd q.1 (by decide))).trans p2, fun p hp => ?_⟩, ⟨a3, a5, fun p hp hs => ?_⟩, fun p hp => a6.elim (fun q => Or.inl (q p hp)) (fun q => Or.inr (q.2 _ _ _ _ (by decide)))⟩
  · obtain ⟨c, c1, c2, c3⟩ := p3 p hp
    refine ⟨c, (ch p).trans c1, c2, ?_⟩
    rcases a6 with q | q
    · exact Or.inl (q p hp)
    · rw [q.2 _ _ _ _ (by decide)]
      exact c3
  · obtain ⟨c, c1, c2, c3⟩ := p3 p hp
    rcases a6 with q | q
    · rw [q p hp, ch, c1] at hs
      exact absurd hs (m1_ne' (by omega))
    · rw [ch, q.2 _ _ _ _ (by decide)] at hs
      exact ((got q.1).2.2 p hp hs).mv (fun f i z => q.2 _ _ _ _ (by have := z.2; omega)) (fun e _ _ => q.2 _ _ _ _ (by decide))
