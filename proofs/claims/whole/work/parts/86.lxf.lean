/-! a life over days -/
def sEvs (E : Env) (d : Nat) : List Ev → Lfe → Lfe
  | [], s => s
  | e :: l, s => sEvs E d l (sMeet E d e s).2
def sDo (E : Env) (d : Nat) : List Ev → Lfe → (Nat → Int32) → (Nat → Int32)
  | [], _, g => g
  | e :: l, s, g => sDo E d l (sMeet E d e s).2 (fun j => if j = e.1 then (sMeet E d e s).1 else g j)
def LRun (E : Env) (ev : Nat → List Ev) (s0 : Lfe) : Nat → Lfe
  | 0 => sBegin E s0
  | n + 1 => sPass E (312 + n) (sEvs E (312 + n) (ev (312 + n)) (LRun E ev s0 n))
def LDo (E : Env) (ev : Nat → List Ev) (s0 : Lfe) (D : Nat → Int32) : Nat → (Nat → Int32)
  | 0 => D
  | n + 1 => sDo E (312 + n) (ev (312 + n)) (LRun E ev s0 n) (LDo E ev s0 D n)
theorem sDo_at (E : Env) (d j : Nat) : ∀ (l : List Ev) (s : Lfe) (g g' : Nat → Int32), g j = g' j → sDo E d l s g j = sDo E d l s g' j
  | [], _, _, _, h => h
  | e :: l, s, g, g', h => sDo_at E d j l _ _ _ (by
    show (if j = e.1 then _ else g j) = (if j = e.1 then _ else g' j)
    rw [h])
theorem sDo_out (E : Env) (d j : Nat) : ∀ (l : List Ev) (s : Lfe) (g : Nat → Int32), (∀ e ∈ l, e.1 ≠ j) → sDo E d l s g j = g j
  | [], _, _, _ => rfl
  | e :: l, s, g, h => by
    show sDo E d l _ _ j = g j
    rw [sDo_out E d j l _ _ (fun x hx => h x (List.mem_cons_of_mem _ hx))]
    exact if_neg (fun q => h e List.mem_cons_self q.symm)
theorem LDo_at {E : Env} {ev : Nat → List Ev} {s0 : Lfe} {D D' : Nat → Int32} {j : Nat} (h : D j = D' j) : ∀ n, LDo E ev s0 D n j = LDo E ev s0 D' n j
  | 0 => h
  | n + 1 => sDo_at E _ j _ _ _ _ (LDo_at h n)
theorem LDo_out {E : Env} {ev : Nat → List Ev} {s0 : Lfe} {D : Nat → Int32} {j : Nat} (h : ∀ d, ∀ e ∈ ev d, e.1 ≠ j) : ∀ n, LDo E ev s0 D n j = D j
  | 0 => rfl
  | n + 1 => (sDo_out E _ j _ _ _ (h _)).trans (LDo_out h n)
def evN (ev : Nat → List Ev) : Nat → Nat
  | 0 => 0
  | n + 1 => evN ev n + (ev (312 + n)).length
theorem evN_mono (ev : Nat → List Ev) {a b : Nat} (h : a ≤ b) : evN ev a ≤ evN ev b := by
  induction b with
  | zero =>
    have : a = 0 := by omega
    rw [this]
    exact Nat.le_refl _
  | succ b ih =>
    by_cases c : a = b + 1
    · rw [c]
      exact Nat.le_refl _
    · have := ih (by omega)
      show evN ev a ≤ evN ev b + _
      omega
/-- how many claims so many events can make -/
def PT (s : Lfe) (m : Nat) : Prop := (∃ c, s 84 0 = nI c ∧ ((s 85 0 = 0 ∧ 3 * c ≤ m ∧ ((s 87 0 = 0 ∨ s 89 0 ≠ 0) → s 88 0 = 0 → 3 * c + 1 ≤ m)) ∨ (s 85 0 ≠ 0 ∧ 3 * c ≤ m + 1))) ∧ (s 87 0 = 0 → s 89 0 = 0)
def ptF (f : Nat) : Prop := f ≠ 84 ∧ f ≠ 85 ∧ f ≠ 87 ∧ f ≠ 89 ∧ f ≠ 88
theorem PT.u {s : Lfe} {f i m : Nat} {x : Int32} (h : PT s m) (hf : f ≠ 84 ∧ f ≠ 85 ∧ f ≠ 87 ∧ f ≠ 89 ∧ f ≠ 88) : PT (uL s f i x) m := by
  have o : ∀ f' i', f' ≠ f → uL s f i x f' i' = s f' i' := fun f' i' q => uL_o q
  unfold PT
  rw [o _ _ (fun q => hf.1 q.symm), o _ _ (fun q => hf.2.1 q.symm), o _ _ (fun q => hf.2.2.1 q.symm), o _ _ (fun q => hf.2.2.2.1 q.symm), o _ _ (fun q => hf.2.2.2.2 q.symm)]
  exact h
theorem PT.up {s : Lfe} {m : Nat} (h : PT s m) : PT s (m + 1) := by
  obtain ⟨⟨c, c1, c2⟩, h2⟩ := h
  refine ⟨⟨c, c1, ?_⟩, h2⟩
  rcases c2 with ⟨a, b, e⟩ | ⟨a, b⟩
  · exact Or.inl ⟨a, by omega, fun _ _ => by omega⟩
  · exact Or.inr ⟨a, by omega⟩
theorem PT.any {s : Lfe} {m : Nat} (h : PT s m) : ∃ c, s 84 0 = nI c ∧ 3 * c ≤ m + 1 := by
  obtain ⟨⟨c, c1, c2⟩, -⟩ := h
  refine ⟨c, c1, ?_⟩
  rcases c2 with ⟨a, b, -⟩ | ⟨a, b⟩ <;> omega
theorem PT.mk' {s : Lfe} {m c : Nat} (h1 : s 84 0 = nI c) (h2 : 3 * c ≤ m) (h3 : s 87 0 = 0 → s 89 0 = 0) : PT s (m + 1) := by
  refine ⟨⟨c, h1, ?_⟩, h3⟩
  by_cases z : s 85 0 = 0
  · exact Or.inl ⟨z, by omega, fun _ _ => by omega⟩
  · exact Or.inr ⟨z, by omega⟩
theorem sClose_o {d : Nat} {s : Lfe} {f i : Nat} (h : f ≠ 85) (h2 : f ≠ 86) (h3 : f ≠ 79) : sClose d s f i = s f i := by
  unfold sClose
  split
  · rfl
  · rw [uL_o h3, uL_o h2, uL_o h]
theorem PT.meet {E : Env} {d m : Nat} {e : Ev} {s : Lfe} (h : PT s m) (hm : m < 160) : PT (sMeet E d e s).2 (m + 1) := by
  obtain ⟨⟨c, c1, c2⟩, h3⟩ := id h
  have bar : ∀ vs s', PT s' (m + 1) → PT (sBar E d vs s') (m + 1) := fun vs s' q => q.u (by decide)
  -- a claim that is closed, and nobody can sign now
  have clo : ∀ s' : Lfe, s' 84 0 = nI c → (s' 87 0 = 0 → s' 89 0 = 0) → (¬ (s' 87 0 = 0 ∨ s' 89 0 ≠ 0) ∨ s' 88 0 ≠ 0) → PT (sClose d s') (m + 1) := by
    intro s' q1 q2 q3
    refine ⟨⟨c, (sClose_o (by decide) (by decide) (by decide)).trans q1, Or.inl ⟨?_, by rcases c2 with ⟨_, b, _⟩ | ⟨_, b⟩ <;> omega, fun z1 z2 => ?_⟩⟩, fun z => ?_⟩
    · unfold sClose
      split
      · assumption
      · rw [uL_o (by decide), uL_o (by decide), uL_s]
    · rw [sClose_o (by decide) (by decide) (by decide), sClose_o (by decide) (by decide) (by decide)] at z1
      rw [sClose_o (by decide) (by decide) (by decide)] at z2
      exact absurd z1 (q3.resolve_right (fun w => w z2))
    · rw [sClose_o (by decide) (by decide) (by decide)] at z ⊢
      exact q2 z
  by_cases k0 : e.k = 0
  · rw [sM_0 k0]
    split
    · exact h.up
    · have h4 : PT (uL (uL (uL (uL s 87 0 0) 89 0 0) 91 0 (nI d)) 92 0 e.n) (m + 1) := by
        refine PT.u (PT.u ?_ (by decide)) (by decide)
        refine ⟨⟨c, c1, ?_⟩, fun _ => uL_s ..⟩
        rcases c2 with ⟨a, b, -⟩ | ⟨a, b⟩
        · exact Or.inl ⟨a, by omega, fun _ _ => by omega⟩
        · exact Or.inr ⟨a, by omega⟩
      dsimp only
      split
      · exact bar _ _ h4
      · exact h4
  by_cases k1 : e.k = 1
  · rw [sM_1 k1]
    split
    · rename_i w0
      split
      · refine clo _ c1 (fun q => absurd q (by rw [uL_o (by decide), uL_s]; decide)) (Or.inl ?_)
        rw [uL_o (by decide), uL_s, uL_o (by decide), uL_o (by decide)]
        rintro (q | q)
        · exact absurd q (by decide)
        · exact q (h3 w0)
      · exact h.up
    · exact h.up
  by_cases k2 : e.k = 2
  · rw [sM_2 k2]
    split
    · rename_i w
      have h3c : 3 * c + 1 ≤ m := by
        rcases c2 with ⟨_, _, b⟩ | ⟨a, _⟩
        · exact b w.1 w.2.1
        · exact absurd w.2.2.1 a
      have hnew : PT (sNew E d s) (m + 1) := by
        unfold sNew
        rw [c1, nI_clamp (by omega)]
        refine ⟨⟨c + 1, ?_, Or.inr ⟨?_, by omega⟩⟩, ?_⟩
        · rw [uL_o (by decide), uL_s]
        · rw [uL_s]; decide
        · rw [uL_o (by decide), uL_o (by decide), uL_o (by decide), uL_o (by decide)]
          exact h3
      dsimp only
      unfold sSign
      split
      · exact hnew
      · split
        · exact hnew
        · refine PT.u ?_ (by decide)
          refine ⟨⟨c, c1, Or.inr ⟨by rw [uL_s]; decide, by omega⟩⟩, h3⟩
    · exact h.up
  by_cases k3 : e.k = 3
  · rw [sM_3 k3]
    split
    · dsimp only
      -- the claim closes first, then the person is away
      refine ⟨⟨c, ?_, Or.inl ⟨?_, by rcases c2 with ⟨_, b, _⟩ | ⟨_, b⟩ <;> omega, fun _ z2 => absurd z2 (by rw [uL_s]; decide)⟩⟩, fun z => ?_⟩
      · rw [uL_o (by decide), sClose_o (by decide) (by decide) (by decide), c1]
      · rw [uL_o (by decide)]
        unfold sClose
        split
        · assumption
        · rw [uL_o (by decide), uL_o (by decide), uL_s]
      · rw [uL_o (by decide), sClose_o (by decide) (by decide) (by decide)] at z ⊢
        exact h3 z
    · exact h.up
  by_cases k4 : e.k = 4
  · rw [sM_4 k4]
    split
    · exact h.up
    · dsimp only
      refine ⟨⟨c, c1, ?_⟩, h3⟩
      rcases c2 with ⟨a, b, -⟩ | ⟨a, b⟩
      · exact Or.inl ⟨a, by omega, fun _ _ => by omega⟩
      · exact Or.inr ⟨a, by omega⟩
  by_cases k5 : e.k = 5
  · rw [sM_5 k5]
    exact (h.u (by decide)).up
  by_cases k6 : e.k = 6
  · rw [sM_6 k6]
    split
    · exact h.up
    · rename_i w0
      split
      · split
        · exact h.up
        · refine clo _ c1 (fun _ => uL_s ..) (Or.inl ?_)
          rw [uL_o (by decide), uL_s]
          rintro (q | q)
          · exact w0 q
          · exact q rfl
      · dsimp only
        refine ⟨⟨c, c1, ?_⟩, fun q => absurd q (by rw [uL_o (by decide)]; exact w0)⟩
        rcases c2 with ⟨a, b, -⟩ | ⟨a, b⟩
        · exact Or.inl ⟨a, by omega, fun _ _ => by omega⟩
        · exact Or.inr ⟨a, by omega⟩
  by_cases k7 : e.k = 7
  · rw [sM_7 k7]
    split
    · exact h.up
    · split
      · exact h.up
      · dsimp only
        split
        · exact bar _ _ h.up
        · exact h.up
  · unfold sMeet
    rw [if_neg k0, if_neg k1, if_neg k2, if_neg k3, if_neg k4, if_neg k5, if_neg k6, if_neg k7]
    exact h.up
theorem PT.pass {E : Env} {d m : Nat} {s : Lfe} (h : PT s m) : PT (sPass E d s) m := by
  have hc : ∀ k y, PT (sCount k y s) m := fun k y => by
    unfold sCount
    dsimp only
    (repeat' split) <;> first | exact (((h.u (by decide)).u (by decide)).u (by decide)) | exact ((h.u (by decide)).u (by decide)) | exact ((((h.u (by decide)).u (by decide)).u (by decide)).u (by decide))
  unfold sPass
  dsimp only
  refine PT.u (PT.u ?_ (by decide)) (by decide)
  split
  · exact h
  · exact hc _ _
theorem WP.meet {E : Env} {d m : Nat} {e : Ev} {s : Lfe} (h : WL s ∧ PT s m) (hm : m < 160) : WL (sMeet E d e s).2 ∧ PT (sMeet E d e s).2 (m + 1) := by
  obtain ⟨c, c1, c2⟩ := h.2.any
  exact ⟨h.1.meet c1 (by omega), h.2.meet hm⟩
theorem WP.evs {E : Env} {d : Nat} : ∀ (l : List Ev) (m : Nat) (s : Lfe), WL s ∧ PT s m → m + l.length ≤ 160 → WL (sEvs E d l s) ∧ PT (sEvs E d l s) (m + l.length)
  | [], m, s, h, _ => h
  | e :: l, m, s, h, hm => by
    rw [List.length_cons] at hm ⊢
    have := WP.evs (E := E) (d := d) l (m + 1) _ (WP.meet (E := E) (d := d) (e := e) h (by omega)) (by omega)
    rw [show m + (l.length + 1) = m + 1 + l.length by omega]
    exact this
theorem WP.begin (E : Env) (s0 : Lfe) : WL (sBegin E s0) ∧ PT (sBegin E s0) 0 :=
  ⟨⟨⟨0, by decide, rfl, fun q => absurd rfl q⟩, Or.inl rfl, Or.inr rfl, Or.inl rfl⟩, ⟨0, rfl, Or.inl ⟨rfl, by decide, fun q => absurd q (by rintro (z | z); exact absurd (show (1 : Int32) = 0 from z) (by decide); exact absurd rfl z)⟩⟩, fun _ => rfl⟩
theorem WP.run {E : Env} {ev : Nat → List Ev} {s0 : Lfe} : ∀ n, evN ev n ≤ 160 → WL (LRun E ev s0 n) ∧ PT (LRun E ev s0 n) (evN ev n)
  | 0, _ => WP.begin E s0
  | n + 1, h => by
    have h' : evN ev n + (ev (312 + n)).length ≤ 160 := h
    have ih := WP.run (E := E) (ev := ev) (s0 := s0) n (by omega)
    have := WP.evs (E := E) (d := 312 + n) _ _ _ ih h'
    exact ⟨this.1.pass, this.2.pass⟩
