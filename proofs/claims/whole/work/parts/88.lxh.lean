/-! the class lists a person's events -/
def inE (dy : Nat → Nat) (e : Nat) : List Nat → List Nat
  | [] => [e]
  | x :: r => if dy x ≤ dy e then e :: x :: r else x :: inE dy e r
theorem inE_len (dy : Nat → Nat) (e : Nat) : ∀ r, (inE dy e r).length = r.length + 1
  | [] => rfl
  | x :: r => by
    unfold inE
    split
    · rfl
    · rw [List.length_cons, inE_len dy e r, List.length_cons]
theorem inE_mem (dy : Nat → Nat) (e x : Nat) : ∀ r, x ∈ inE dy e r → x = e ∨ x ∈ r
  | [], h => Or.inl (by simpa [inE] using h)
  | y :: r, h => by
    unfold inE at h
    split at h
    · rcases List.mem_cons.mp h with h | h
      · exact Or.inl h
      · exact Or.inr h
    · rcases List.mem_cons.mp h with h | h
      · exact Or.inr (by rw [h]; exact List.mem_cons_self)
      · exact (inE_mem dy e x r h).imp_right (List.mem_cons_of_mem _)
theorem inE_fil (dy : Nat → Nat) (e d : Nat) : ∀ r, (inE dy e r).filter (fun x => decide (dy x = d)) = if dy e = d then e :: r.filter (fun x => decide (dy x = d)) else r.filter (fun x => decide (dy x = d))
  | [] => by
    unfold inE
    by_cases c : dy e = d
    · rw [if_pos c, List.filter_cons_of_pos (by simp [c])]
    · rw [if_neg c, List.filter_cons_of_neg (by simp [c])]
  | x :: r => by
    unfold inE
    by_cases c : dy e = d
    · rw [if_pos c]
      split
      · rw [List.filter_cons_of_pos (by simp [c])]
      · rename_i h
        have hx : ¬ dy x = d := by omega
        rw [List.filter_cons_of_neg (by simp [hx]), List.filter_cons_of_neg (by simp [hx]), inE_fil dy e d r, if_pos c]
    · rw [if_neg c]
      split
      · rw [List.filter_cons_of_neg (by simp [c])]
      · by_cases hx : dy x = d
        · rw [List.filter_cons_of_pos (by simp [hx]), List.filter_cons_of_pos (by simp [hx]), inE_fil dy e d r, if_neg c]
        · rw [List.filter_cons_of_neg (by simp [hx]), List.filter_cons_of_neg (by simp [hx]), inE_fil dy e d r, if_neg c]
theorem inE_sort (dy : Nat → Nat) (e : Nat) : ∀ r : List Nat, r.Pairwise (fun a b => dy b ≤ dy a) → (inE dy e r).Pairwise (fun a b => dy b ≤ dy a)
  | [], _ => List.pairwise_singleton _ _
  | x :: r, h => by
    obtain ⟨p1, p2⟩ := List.pairwise_cons.mp h
    unfold inE
    split
    · rename_i c
      refine List.pairwise_cons.mpr ⟨fun y hy => ?_, h⟩
      rcases List.mem_cons.mp hy with z | z
      · rw [z]; exact c
      · have := p1 y z
        omega
    · rename_i c
      refine List.pairwise_cons.mpr ⟨fun y hy => ?_, inE_sort dy e r p2⟩
      rcases inE_mem dy e y r hy with z | z
      · rw [z]; omega
      · exact p1 y z
def LL (sel : Nat → Bool) (dy : Nat → Nat) : Nat → List Nat
  | 0 => []
  | n + 1 => if sel n = true then inE dy n (LL sel dy n) else LL sel dy n
theorem LL_len (sel : Nat → Bool) (dy : Nat → Nat) : ∀ n, (LL sel dy n).length ≤ n
  | 0 => Nat.le_refl 0
  | n + 1 => by
    have := LL_len sel dy n
    unfold LL
    split
    · rw [inE_len]; omega
    · omega
theorem LL_mem (sel : Nat → Bool) (dy : Nat → Nat) : ∀ n x, x ∈ LL sel dy n → x < n ∧ sel x = true
  | 0, x, h => absurd h (by simp [LL])
  | n + 1, x, h => by
    unfold LL at h
    split at h
    · rename_i c
      rcases inE_mem _ _ _ _ h with z | z
      · rw [z]; exact ⟨by omega, c⟩
      · have := LL_mem sel dy n x z
        exact ⟨by omega, this.2⟩
    · have := LL_mem sel dy n x h
      exact ⟨by omega, this.2⟩
theorem LL_sort (sel : Nat → Bool) (dy : Nat → Nat) : ∀ n, (LL sel dy n).Pairwise (fun a b => dy b ≤ dy a)
  | 0 => List.Pairwise.nil
  | n + 1 => by
    unfold LL
    split
    · exact inE_sort dy n _ (LL_sort sel dy n)
    · exact LL_sort sel dy n
theorem LL_fil (sel : Nat → Bool) (dy : Nat → Nat) (d : Nat) : ∀ n, (LL sel dy n).reverse.filter (fun x => decide (dy x = d)) = (List.range n).filter (fun x => sel x && decide (dy x = d))
  | 0 => rfl
  | n + 1 => by
    have ih := LL_fil sel dy d n
    rw [List.filter_reverse] at ih ⊢
    rw [List.range_succ, List.filter_append, ← ih, show LL sel dy (n + 1) = if sel n = true then inE dy n (LL sel dy n) else LL sel dy n from rfl]
    by_cases c : sel n = true
    · rw [if_pos c, inE_fil]
      by_cases c2 : dy n = d
      · rw [if_pos c2, List.reverse_cons, List.filter_cons_of_pos (by simp [c, c2]), List.filter_nil]
      · rw [if_neg c2, List.filter_cons_of_neg (by simp [c2]), List.filter_nil, List.append_nil]
    · rw [if_neg c, List.filter_cons_of_neg (by simp [c]), List.filter_nil, List.append_nil]
/-- what the class has of its events -/
def knw (told tb on : Int32) : Bool := decide (told ≤ on) && (decide (tb = -1) || decide (on < tb))
def BX (cnt on : Nat) (pe dy : Nat → Nat) (kd nu : Nat → Int32) (kw : Nat → Bool) (σ : St) : Prop := σ.1 43 0 0 0 = nI cnt ∧ cnt ≤ 160 ∧ ∀ e, e < cnt → σ.1 38 0 0 e = nI (pe e) ∧ pe e < 20 ∧ σ.1 37 0 0 e = kd e ∧ σ.1 39 0 0 e = nu e ∧ σ.1 40 0 0 e = nI (dy e) ∧ dy e < 936 ∧ kw e = knw (σ.1 41 0 0 e) (σ.1 42 0 0 e) (nI on)
theorem BX.mv {cnt on : Nat} {pe dy : Nat → Nat} {kd nu : Nat → Int32} {kw : Nat → Bool} {σ σ' : St} (h : BX cnt on pe dy kd nu kw σ) (hm : ∀ f a b i, 37 ≤ f → f ≤ 43 → σ'.1 f a b i = σ.1 f a b i) : BX cnt on pe dy kd nu kw σ' := by
  obtain ⟨h1, h2, h3⟩ := h
  refine ⟨(hm _ _ _ _ (by decide) (by decide)).trans h1, h2, fun e he => ?_⟩
  obtain ⟨a1, a2, a3, a4, a5, a6, a7⟩ := h3 e he
  exact ⟨(hm _ _ _ _ (by decide) (by decide)).trans a1, a2, (hm _ _ _ _ (by decide) (by decide)).trans a3, (hm _ _ _ _ (by decide) (by decide)).trans a4, (hm _ _ _ _ (by decide) (by decide)).trans a5, a6, by rw [hm _ _ _ _ (by decide) (by decide), hm _ _ _ _ (by decide) (by decide)]; exact a7⟩
theorem isKn_e {N e : Nat} {on : Int32} {σ : St} (he : e < 160) : fEvents_isKnown N (nI e) on σ = some (if knw (σ.1 41 0 0 e) (σ.1 42 0 0 e) on = true then 1 else 0) := by
  unfold fEvents_isKnown fEvents_isKnown_30 knw
  rw [chk_t (inb_n he (by decide)), nI_clamp (by omega)]
  by_cases c1 : on < σ.1 41 0 0 e
  · rw [if_pos c1, if_neg (by simp; intro q; exact absurd c1 (Int32.not_lt.mpr q))]
  · have c1' := Int32.not_lt.mp c1
    rw [if_neg c1]
    by_cases c2 : σ.1 42 0 0 e = -1
    · rw [if_pos c2, if_pos (by simp [c1', c2])]
    · rw [if_neg c2]
      by_cases c3 : σ.1 42 0 0 e ≤ on
      · rw [if_pos c3, if_neg (by simp [c2]; intro _; exact c3)]
      · rw [if_neg c3, if_pos (by simp [c1']; exact Or.inr (Int32.not_le.mp c3))]
theorem ins_e2 {N v e : Nat} {dy : Nat → Nat} (he : e < 160) : ∀ (r : List Nat) (m : Nat) (σ : St), r.length < m → r.length < 160 → (∀ x ∈ r, x < 160 ∧ dy x < 936 ∧ σ.1 40 0 0 x = nI (dy x)) → dy e < 936 → σ.1 40 0 0 e = nI (dy e) → Rep (fun i => σ.1 146 v 0 i) r →
    ∃ σ', fView_insert_2 N v m (nI e) (nI r.length) σ = some σ' ∧ Rep (fun i => σ'.1 146 v 0 i) (inE dy e r) ∧ (∀ f a b i, ¬ (f = 146 ∧ a = v ∧ b = 0) → σ'.1 f a b i = σ.1 f a b i) ∧ (∀ i, r.length < i → σ'.1 146 v 0 i = σ.1 146 v 0 i) ∧ σ'.2 = σ.2 := by
  intro r
  induction r with
  | nil =>
    intro m σ h1 h2 h3 h4 h5 h6
    obtain ⟨m, rfl⟩ : ∃ q, m = q + 1 := ⟨m - 1, by omega⟩
    refine ⟨sI σ 146 v 0 0 (nI e), ?_, ⟨sI_s .., trivial⟩, fun f a b i q => by rw [sI_1, if_neg (fun z => q ⟨z.1, z.2.1, z.2.2.1⟩)], fun i hi => sI_i (by have : 0 < i := hi; omega), rfl⟩
    show (if nI 0 ≤ 0 then fView_insert_54 N v (nI e) (nI 0) σ else _) = _
    rw [if_pos (by decide)]
    unfold fView_insert_54
    rw [chk_t (inb_n (by decide) (by decide)), nmx]
    rfl
  | cons x r ih =>
    intro m σ h1 h2 h3 h4 h5 h6
    rw [List.length_cons] at h1 h2 ⊢
    obtain ⟨m, rfl⟩ : ∃ q, m = q + 1 := ⟨m - 1, by omega⟩
    obtain ⟨x1, x2, x3⟩ := h3 x List.mem_cons_self
    have e0 : fView_insert_2 N v (m + 1) (nI e) (nI (r.length + 1)) σ = if dy x ≤ dy e then fView_insert_54 N v (nI e) (nI (r.length + 1)) σ else fView_insert_2 N v m (nI e) (nI r.length) (sI σ 146 v 0 (r.length + 1) (nI x)) := by
      show (if nI (r.length + 1) ≤ 0 then _ else chk (inb (nI (r.length + 1) - 1) 160) (chk (inb (σ.1 146 v 0 (nI (r.length + 1) - 1).toNatClampNeg) 160) (chk (inb (nI e) 160) (if σ.1 40 0 0 (σ.1 146 v 0 (nI (r.length + 1) - 1).toNatClampNeg).toNatClampNeg ≤ σ.1 40 0 0 (nI e).toNatClampNeg then fView_insert_54 N v (nI e) (nI (r.length + 1)) σ else chk (inb (nI (r.length + 1)) 160) (nm (sI σ 146 v 0 (nI (r.length + 1)).toNatClampNeg (σ.1 146 v 0 (nI (r.length + 1) - 1).toNatClampNeg)) fun (σ1 : St) => fView_insert_2 N v m (nI e) (nI (r.length + 1) + (-1)) σ1))))) = _
      rw [if_neg (nI_nle (by omega) (by omega)), nI_sub1, chk_t (inb_n (by omega) (by decide)), nI_clamp (by omega), show σ.1 146 v 0 r.length = nI x from h6.1, chk_t (inb_n x1 (by decide)), chk_t (inb_n he (by decide)), nI_clamp (by omega), nI_clamp (by omega), x3, h5, chk_t (inb_n (by omega) (by decide)), nmx, nI_clamp (by omega), nI_pred']
      by_cases c : dy x ≤ dy e
      · rw [if_pos c, if_pos (nI_le c (by omega))]
      · rw [if_neg c, if_neg (nI_ge (by omega) (by omega))]
    rw [e0]
    show ∃ σ', _ ∧ Rep _ (if dy x ≤ dy e then e :: x :: r else x :: inE dy e r) ∧ _
    by_cases c : dy x ≤ dy e
    · rw [if_pos c, if_pos c]
      refine ⟨sI σ 146 v 0 (r.length + 1) (nI e), ?_, ⟨sI_s .., Rep.eq (x :: r) (fun i hi => sI_i (by rw [List.length_cons] at hi; omega)) h6⟩, fun f a b i q => by rw [sI_1, if_neg (fun z => q ⟨z.1, z.2.1, z.2.2.1⟩)], fun i hi => sI_i (by omega), rfl⟩
      unfold fView_insert_54
      rw [chk_t (inb_n (by omega) (by decide)), nmx, nI_clamp (by omega)]
    · rw [if_neg c, if_neg c]
      obtain ⟨σ', i1, i2, i3, i4, i5⟩ := ih m (sI σ 146 v 0 (r.length + 1) (nI x)) (by omega) (by omega) (fun y hy => by
        obtain ⟨y1, y2, y3⟩ := h3 y (List.mem_cons_of_mem _ hy)
        exact ⟨y1, y2, (sI_o (by decide)).trans y3⟩) h4 ((sI_o (by decide)).trans h5) (Rep.eq r (fun i hi => sI_i (by omega)) h6.2)
      refine ⟨σ', i1, ⟨?_, i2⟩, fun f a b i q => (i3 f a b i q).trans (by rw [sI_1, if_neg (fun z => q ⟨z.1, z.2.1, z.2.2.1⟩)]), fun i hi => (i4 i (by omega)).trans (sI_i (by omega)), i5⟩
      dsimp only
      rw [inE_len, i4 _ (by omega), sI_s]
/-- is an event cleared, by what is known -/
def clr (cnt : Nat) (pe : Nat → Nat) (kd nu : Nat → Int32) (kw : Nat → Bool) (p q : Nat) : Int32 := if (List.range cnt).any (fun e => decide (pe e = p) && kw e && decide (kd e = 8) && decide (nu e = nI q)) = true then 1 else 0
theorem clr_succ {cnt : Nat} {pe : Nat → Nat} {kd nu : Nat → Int32} {kw : Nat → Bool} {p q : Nat} : clr (cnt + 1) pe kd nu kw p q = if pe cnt = p ∧ kw cnt = true ∧ kd cnt = 8 ∧ nu cnt = nI q then 1 else clr cnt pe kd nu kw p q := by
  unfold clr
  rw [List.range_succ, List.any_append]
  by_cases c : pe cnt = p ∧ kw cnt = true ∧ kd cnt = 8 ∧ nu cnt = nI q
  · rw [if_pos c, if_pos]
    simp [c.1, c.2.1, c.2.2.1, c.2.2.2]
  · rw [if_neg c]
    have : (List.any [cnt] fun e => decide (pe e = p) && kw e && decide (kd e = 8) && decide (nu e = nI q)) = false := by
      rw [List.any_cons, List.any_nil, Bool.or_false]
      cases h : (decide (pe cnt = p) && kw cnt && decide (kd cnt = 8) && decide (nu cnt = nI q)) with
      | false => rfl
      | true =>
        simp only [Bool.and_eq_true, decide_eq_true_eq] at h
        exact absurd ⟨h.1.1.1, h.1.1.2, h.1.2, h.2⟩ c
    rw [this, Bool.or_false]
def VlX (v : Nat) (σ σ' : St) : Prop := (∀ f a b i, ¬ (144 ≤ f ∧ f ≤ 146 ∧ a = v ∧ b = 0) → σ'.1 f a b i = σ.1 f a b i) ∧ σ'.2 = σ.2
theorem list_loop {N v p cnt on : Nat} {pe dy : Nat → Nat} {kd nu : Nat → Int32} {kw : Nat → Bool} (hN : 200 ≤ N) (hp : p < 20) (hC : ∀ e, e < cnt → kd e = 8 → ∃ q, q < e ∧ nu e = nI q ∧ pe q = pe e) : ∀ (g e m : Nat) (σ : St), e + g = cnt → g < m → BX cnt on pe dy kd nu kw σ → σ.1 147 v 0 0 = nI on → Rep (fun i => σ.1 146 v 0 i) (LL (fun e => decide (pe e = p) && kw e && !decide (kd e = 8)) dy e) → (∀ q, q < e → pe q = p → σ.1 144 v 0 q = 0 ∧ σ.1 145 v 0 q = clr e pe kd nu kw p q) →
    ∃ σ', fView_listEvents_4 N v m (nI p) (nI (LL (fun e => decide (pe e = p) && kw e && !decide (kd e = 8)) dy e).length) (nI e) σ = some (nI (LL (fun e => decide (pe e = p) && kw e && !decide (kd e = 8)) dy cnt).length, σ') ∧ VlX v σ σ' ∧ Rep (fun i => σ'.1 146 v 0 i) (LL (fun e => decide (pe e = p) && kw e && !decide (kd e = 8)) dy cnt) ∧ (∀ q, q < cnt → pe q = p → σ'.1 144 v 0 q = 0 ∧ σ'.1 145 v 0 q = clr cnt pe kd nu kw p q) ∧ (∀ q, (cnt ≤ q ∨ pe q ≠ p) → σ'.1 144 v 0 q = σ.1 144 v 0 q) := by
  intro g
  induction g with
  | zero =>
    intro e m σ h1 h2 hB ho hR hF
    obtain ⟨m, rfl⟩ : ∃ q, m = q + 1 := ⟨m - 1, by omega⟩
    obtain rfl : e = cnt := by omega
    refine ⟨σ, ?_, ⟨fun _ _ _ _ _ => rfl, rfl⟩, hR, hF, fun _ _ => rfl⟩
    have hc := hB.2.1
    show (if σ.1 43 0 0 0 ≤ nI e then _ else _) = _
    rw [hB.1, if_pos (nI_le (Nat.le_refl _) (by omega))]
  | succ g ih =>
    intro e m σ h1 h2 hB ho hR hF
    obtain ⟨m, rfl⟩ : ∃ q, m = q + 1 := ⟨m - 1, by omega⟩
    have hc := hB.2.1
    obtain ⟨a1, a2, a3, a4, a5, a6, a7⟩ := hB.2.2 e (by omega)
    have e0 : fView_listEvents_4 N v (m + 1) (nI p) (nI (LL (fun e => decide (pe e = p) && kw e && !decide (kd e = 8)) dy e).length) (nI e) σ = if pe e = p then (fun σ2 : St => if kw e = true then (if kd e = 8 then chk (inb (nu e) 160) (nm (sI σ2 145 v 0 (nu e).toNatClampNeg 1) fun (σ5 : St) => fView_listEvents_4 N v m (nI p) (nI (LL (fun e => decide (pe e = p) && kw e && !decide (kd e = 8)) dy e).length) (nI (e + 1)) σ5) else bn1 (fView_insert N v (nI e) (nI (LL (fun e => decide (pe e = p) && kw e && !decide (kd e = 8)) dy e).length) σ2) fun σ4 => fView_listEvents_4 N v m (nI p) (nI ((LL (fun e => decide (pe e = p) && kw e && !decide (kd e = 8)) dy e).length + 1)) (nI (e + 1)) σ4) else fView_listEvents_4 N v m (nI p) (nI (LL (fun e => decide (pe e = p) && kw e && !decide (kd e = 8)) dy e).length) (nI (e + 1)) σ2) (sI (sI σ 144 v 0 e 0) 145 v 0 e 0) else fView_listEvents_4 N v m (nI p) (nI (LL (fun e => decide (pe e = p) && kw e && !decide (kd e = 8)) dy e).length) (nI (e + 1)) σ := by
      generalize (LL (fun e => decide (pe e = p) && kw e && !decide (kd e = 8)) dy e).length = ln
      show (if σ.1 43 0 0 0 ≤ nI e then _ else chk (inb (nI e) 160) (if σ.1 38 0 0 (nI e).toNatClampNeg = nI p then nm (sI σ 144 v 0 (nI e).toNatClampNeg (0 &&& 1)) fun (σ1 : St) => nm (sI σ1 145 v 0 (nI e).toNatClampNeg (0 &&& 1)) fun (σ2 : St) => bn1 (fEvents_isKnown N (nI e) (σ2.1 147 v 0 0) σ2) fun r3 => if r3 = 0 then fView_listEvents_4 N v m (nI p) (nI ln) (nI e + 1) σ2 else if σ2.1 37 0 0 (nI e).toNatClampNeg = 8 then chk (inb (σ2.1 39 0 0 (nI e).toNatClampNeg) 160) (nm (sI σ2 145 v 0 (σ2.1 39 0 0 (nI e).toNatClampNeg).toNatClampNeg (1 &&& 1)) fun (σ5 : St) => fView_listEvents_4 N v m (nI p) (nI ln) (nI e + 1) σ5) else bn1 (fView_insert N v (nI e) (nI ln) σ2) fun σ4 => fView_listEvents_4 N v m (nI p) (nI ln + 1) (nI e + 1) σ4 else fView_listEvents_4 N v m (nI p) (nI ln) (nI e + 1) σ)) = _
      rw [hB.1, if_neg (nI_ge (by omega) (by omega)), chk_t (inb_n (by omega) (by decide)), nI_clamp (by omega), a1, nI_1, nI_1]
      by_cases c : pe e = p
      · have B3 : BX cnt on pe dy kd nu kw (sI (sI σ 144 v 0 e (0 &&& 1)) 145 v 0 e (0 &&& 1)) := hB.mv (fun f a b i q1 q2 => by rw [sI_o (by omega), sI_o (by omega)])
        have o3 : (sI (sI σ 144 v 0 e (0 &&& 1)) 145 v 0 e (0 &&& 1)).1 147 v 0 0 = nI on := by rw [sI_o (by decide), sI_o (by decide), ho]
        obtain ⟨-, -, b3, b4, -, -, b7⟩ := B3.2.2 e (by omega)
        rw [if_pos c, if_pos (by rw [c]), nmx, nmx, isKn_e (by omega), bn1_e, o3, ← b7, b3, b4]
        dsimp only
        by_cases ck : kw e = true
        · rw [if_pos ck, if_neg (by decide), if_pos ck]
          rfl
        · rw [if_neg ck, if_pos rfl, if_neg ck]
          rfl
      · rw [if_neg c, if_neg (fun q => c ((nI_eq (by omega) (by omega)).mp q))]
    rw [e0]
    have eLL : LL (fun e => decide (pe e = p) && kw e && !decide (kd e = 8)) dy (e + 1) = if (decide (pe e = p) && kw e && !decide (kd e = 8)) = true then inE dy e (LL (fun e => decide (pe e = p) && kw e && !decide (kd e = 8)) dy e) else LL (fun e => decide (pe e = p) && kw e && !decide (kd e = 8)) dy e := rfl
    by_cases c : pe e = p
    · rw [if_pos c]
      dsimp only
      have B2 : BX cnt on pe dy kd nu kw (sI (sI σ 144 v 0 e 0) 145 v 0 e 0) := hB.mv (fun f a b i q1 q2 => by rw [sI_o (by omega), sI_o (by omega)])
      have o2 : (sI (sI σ 144 v 0 e 0) 145 v 0 e 0).1 147 v 0 0 = nI on := by rw [sI_o (by decide), sI_o (by decide), ho]
      have R2 : Rep (fun i => (sI (sI σ 144 v 0 e 0) 145 v 0 e 0).1 146 v 0 i) (LL (fun e => decide (pe e = p) && kw e && !decide (kd e = 8)) dy e) := Rep.eq _ (fun i _ => by rw [sI_o (by decide), sI_o (by decide)]) hR
      have V2 : VlX v σ (sI (sI σ 144 v 0 e 0) 145 v 0 e 0) := ⟨fun f a b i q => by rw [sI_1, if_neg (fun z => q ⟨by omega, by omega, z.2.1, z.2.2.1⟩), sI_1, if_neg (fun z => q ⟨by omega, by omega, z.2.1, z.2.2.1⟩)], rfl⟩
      have z0 : clr e pe kd nu kw p e = 0 := by
        unfold clr
        rw [if_neg]
        intro q
        rw [List.any_eq_true] at q
        obtain ⟨e', e1, e2⟩ := q
        simp only [Bool.and_eq_true, decide_eq_true_eq] at e2
        have e3 : e' < e := List.mem_range.mp e1
        obtain ⟨q, q1, q2, -⟩ := hC e' (by omega) e2.1.2
        rw [q2] at e2
        have := (nI_eq (by omega) (by omega)).mp e2.2
        omega
      have F2 : ∀ q, q < e + 1 → pe q = p → (sI (sI σ 144 v 0 e 0) 145 v 0 e 0).1 144 v 0 q = 0 ∧ (sI (sI σ 144 v 0 e 0) 145 v 0 e 0).1 145 v 0 q = clr e pe kd nu kw p q := by
        intro q q1 q2
        by_cases z : q = e
        · rw [z, sI_o (by decide), sI_s, sI_s, z0]
          exact ⟨rfl, rfl⟩
        · obtain ⟨y1, y2⟩ := hF q (by omega) q2
          rw [sI_o (by decide), sI_i z, sI_i z, sI_o (by decide)]
          exact ⟨y1, y2⟩
      have D2 : ∀ q, (cnt ≤ q ∨ pe q ≠ p) → (sI (sI σ 144 v 0 e 0) 145 v 0 e 0).1 144 v 0 q = σ.1 144 v 0 q := by
        intro q hq
        rw [sI_o (by decide), sI_i (fun z => by rcases hq with y | y; omega; exact y (by rw [z]; exact c))]
      generalize sI (sI σ 144 v 0 e 0) 145 v 0 e 0 = σ2 at B2 o2 R2 V2 F2 D2
      by_cases ck : kw e = true
      · rw [if_pos ck]
        by_cases c8 : kd e = 8
        · rw [if_pos c8]
          obtain ⟨q0, q1, q2, q3⟩ := hC e (by omega) c8
          rw [q2, chk_t (inb_n (by omega) (by decide)), nmx, nI_clamp (by omega)]
          rw [if_neg (by simp [c8])] at eLL
          rw [← eLL]
          rw [← eLL] at R2
          obtain ⟨σ', i1, i2, i3, i4, i5⟩ := ih (e + 1) m (sI σ2 145 v 0 q0 1) (by omega) (by omega) (B2.mv (fun f a b i q1 q2 => sI_o (by omega))) ((sI_o (by decide)).trans o2) (Rep.eq _ (fun i _ => sI_o (by decide)) R2) (fun q y1 y2 => by
            obtain ⟨w1, w2⟩ := F2 q y1 y2
            refine ⟨(sI_o (by decide)).trans w1, ?_⟩
            rw [clr_succ]
            by_cases z : q = q0
            · rw [z, sI_s, if_pos ⟨c, ck, c8, q2⟩]
            · rw [sI_i z, w2, if_neg (fun y => z ((nI_eq (by omega) (by omega)).mp (q2.symm.trans y.2.2.2)).symm)])
          exact ⟨σ', i1, ⟨fun f a b i q => by rw [i2.1 f a b i q, sI_1, if_neg (fun z => q ⟨by omega, by omega, z.2.1, z.2.2.1⟩), V2.1 f a b i q], i2.2.trans V2.2⟩, i3, i4, fun q hq => by rw [i5 q hq, sI_o (by decide), D2 q hq]⟩
        · rw [if_neg c8]
          have hl := LL_len (fun e => decide (pe e = p) && kw e && !decide (kd e = 8)) dy e
          obtain ⟨σ3, j1, j2, j3, j4, j5⟩ := ins_e2 (N := N) (v := v) (e := e) (dy := dy) (by omega) _ N σ2 (by omega) (by omega) (fun x hx => by
            obtain ⟨x1, -⟩ := LL_mem _ _ _ _ hx
            obtain ⟨-, -, -, -, b5, b6, -⟩ := B2.2.2 x (by omega)
            exact ⟨by omega, b6, b5⟩) a6 (B2.2.2 e (by omega)).2.2.2.2.1 R2
          rw [if_pos (by simp [c, ck, c8])] at eLL
          unfold fView_insert
          rw [j1, bn1_e, ← inE_len dy e, ← eLL]
          rw [← eLL] at j2
          obtain ⟨σ', i1, i2, i3, i4, i5⟩ := ih (e + 1) m σ3 (by omega) (by omega) (B2.mv (fun f a b i q1 q2 => j3 f a b i (fun z => by omega))) ((j3 _ _ _ _ (fun z => absurd z.1 (by decide))).trans o2) j2 (fun q y1 y2 => by
            obtain ⟨w1, w2⟩ := F2 q y1 y2
            refine ⟨(j3 _ _ _ _ (fun z => absurd z.1 (by decide))).trans w1, ?_⟩
            rw [clr_succ, if_neg (fun y => c8 y.2.2.1), j3 _ _ _ _ (fun z => absurd z.1 (by decide)), w2])
          exact ⟨σ', i1, ⟨fun f a b i q => by rw [i2.1 f a b i q, j3 f a b i (fun z => q ⟨by omega, by omega, z.2.1, z.2.2⟩), V2.1 f a b i q], (i2.2.trans j5).trans V2.2⟩, i3, i4, fun q hq => by rw [i5 q hq, j3 _ _ _ _ (fun z => absurd z.1 (by decide)), D2 q hq]⟩
      · rw [if_neg ck]
        rw [if_neg (by simp [ck])] at eLL
        rw [← eLL]
        rw [← eLL] at R2
        obtain ⟨σ', i1, i2, i3, i4, i5⟩ := ih (e + 1) m σ2 (by omega) (by omega) B2 o2 R2 (fun q y1 y2 => by
          obtain ⟨w1, w2⟩ := F2 q y1 y2
          refine ⟨w1, ?_⟩
          rw [clr_succ, if_neg (fun y => ck y.2.1), w2])
        exact ⟨σ', i1, ⟨fun f a b i q => by rw [i2.1 f a b i q, V2.1 f a b i q], i2.2.trans V2.2⟩, i3, i4, fun q hq => by rw [i5 q hq, D2 q hq]⟩
    · rw [if_neg c]
      rw [if_neg (by simp [c])] at eLL
      rw [← eLL]
      rw [← eLL] at hR
      exact ih (e + 1) m σ (by omega) (by omega) hB ho hR (fun q y1 y2 => by
        obtain ⟨w1, w2⟩ := hF q (by rcases Nat.lt_or_ge q e with z | z; exact z; exact absurd (by rw [← y2]; congr 1; omega) c) y2
        refine ⟨w1, ?_⟩
        rw [clr_succ, if_neg (fun y => c y.1), w2])
