/-! the class works a life up to a day -/
def DoX (v : Nat) (σ : St) : Nat → Int32 := fun e => σ.1 144 v 0 e
/-- what a step of lifeOf may write -/
def VfX (v p : Nat) (σ σ' : St) : Prop := (∀ f a b i, ¬ (lfq f ∧ a = v ∧ b = p) → ¬ (f = 144 ∧ a = v ∧ b = 0) → σ'.1 f a b i = σ.1 f a b i) ∧ (∀ f a b i, f ≠ 73 → ¬ (f = 72 ∧ a = v) → σ'.2 f a b i = σ.2 f a b i)
theorem VfX.rf {v p : Nat} {σ : St} : VfX v p σ σ := ⟨fun _ _ _ _ _ _ => rfl, fun _ _ _ _ _ _ => rfl⟩
theorem VfX.tr {v p : Nat} {σ σ' σ'' : St} (h : VfX v p σ σ') (h2 : VfX v p σ' σ'') : VfX v p σ σ'' := ⟨fun f a b i e e2 => (h2.1 f a b i e e2).trans (h.1 f a b i e e2), fun f a b i e e2 => (h2.2 f a b i e e2).trans (h.2 f a b i e e2)⟩
theorem LfX.vf {v p : Nat} {σ σ' : St} (h : LfX v p σ σ') : VfX v p σ σ' := ⟨fun f a b i e _ => h.1 f a b i e, h.2⟩
theorem VfX.s {v p e : Nat} {σ : St} {x : Int32} : VfX v p σ (sI σ 144 v 0 e x) := ⟨fun f a b i _ e2 => by rw [sI_1, if_neg (fun q => e2 ⟨q.1, q.2.1, q.2.2.1⟩)], fun _ _ _ _ _ _ => rfl⟩
/-- an event as the class has it -/
def EvX (N v p : Nat) (EV : Nat → Ev) (dy : Nat → Nat) (e : Nat) (σ : St) : Prop := e < 160 ∧ (EV e).1 = e ∧ σ.1 37 0 0 e = (EV e).k ∧ σ.1 39 0 0 e = (EV e).n ∧ σ.1 145 v 0 e = (EV e).cl ∧ σ.1 40 0 0 e = nI (dy e) ∧ dy e < 936 ∧ (∃ k : Nat, k ≤ 7 ∧ (EV e).k = nI k) ∧ ((EV e).k = 7 → OfX N p (EV e) σ)
theorem EvX.mv {N v p : Nat} {EV : Nat → Ev} {dy : Nat → Nat} {e : Nat} {σ σ' : St} (h : EvX N v p EV dy e σ) (hf : VfX v p σ σ') : EvX N v p EV dy e σ' := by
  obtain ⟨h1, h2, h3, h4, h5, h6, h7, h8, h9⟩ := h
  have o : ∀ f a b i, ¬ lfq f → f ≠ 144 → σ'.1 f a b i = σ.1 f a b i := fun f a b i q q2 => hf.1 f a b i (fun z => q z.1) (fun z => q2 z.1)
  have n1 : ∀ f, f < 78 ∨ 95 ≤ f → ¬ lfq f := fun f q z => by have := z.1; omega
  refine ⟨h1, h2, ?_, ?_, ?_, ?_, h7, h8, fun k => (h9 k).mv (fun f a b i q => o f a b i (n1 f (by omega)) (by omega))⟩
  · rw [o _ _ _ _ (n1 _ (by decide)) (by decide), h3]
  · rw [o _ _ _ _ (n1 _ (by decide)) (by decide), h4]
  · rw [o _ _ _ _ (n1 _ (by decide)) (by decide), h5]
  · rw [o _ _ _ _ (n1 _ (by decide)) (by decide), h6]
theorem EX.vf {v p n : Nat} {E : Env} {σ σ' : St} (h : EX v p n E σ) (hf : VfX v p σ σ') : EX v p n E σ' := by
  obtain ⟨h1, ⟨fr, to, h2, h3⟩, h4, h5, h6, h7, h8, h9, h10⟩ := h
  have o : ∀ f a b i, ¬ lfq f → f ≠ 144 → σ'.1 f a b i = σ.1 f a b i := fun f a b i q q2 => hf.1 f a b i (fun z => q z.1) (fun z => q2 z.1)
  have n1 : ∀ f, f < 78 → ¬ lfq f := fun f q z => by have := z.1.1; omega
  refine ⟨fun d hd => ?_, ⟨fr, to, h2.mv (fun f a b i q1 q2 => o f a b i (n1 f (by omega)) (by omega)), h3⟩, h4, h5, ?_, ?_, ?_, ?_, fun w hw => ?_⟩
  · obtain ⟨s, s1, s2, s3⟩ := h1 d hd
    exact ⟨s, s1, (o _ _ _ _ (n1 _ (by decide)) (by decide)).trans s2, s3.mv (fun f b i q1 q2 => o f v b i (n1 f (by omega)) (by omega))⟩
  · rw [o _ _ _ _ (n1 _ (by decide)) (by decide), h6]
  · rw [o _ _ _ _ (n1 _ (by decide)) (by decide), h7]
  · rw [o _ _ _ _ (n1 _ (by decide)) (by decide), h8]
  · rw [o _ _ _ _ (n1 _ (by decide)) (by decide), h9]
  · rw [o _ _ _ _ (fun z => z.2.1 rfl) (by decide), h10 w hw]
theorem evs_loop {N v p n d : Nat} {E : Env} {EV : Nat → Ev} {dy : Nat → Nat} {go : Nat → Int32 → Int32 → Int32 → St → Option ((Nat × Nat) × St)} (hN : 700 ≤ N) (h1 : 312 ≤ d) (hd : d < 936) (b : List Nat) (hb : ∀ e ∈ b, dy e ≠ d) : ∀ (a : List Nat) (i m k0 : Nat) (σ : St), (∀ e ∈ a, dy e = d) → a.length < m → i + (a ++ b).length ≤ 160 → EX v p n E σ → WL (sl v p σ) → PT (sl v p σ) k0 → k0 + a.length ≤ 160 → (∀ e ∈ a ++ b, EvX N v p EV dy e σ) → (∀ (j e : Nat), (a ++ b)[j]? = some e → σ.1 146 v 0 (i + j) = nI e) →
    ∃ σ', fView_lifeOf_102 N v go m p (nI (i + (a ++ b).length)) (nI i) (nI d) σ = fView_lifeOf_183 N v go p (nI (i + (a ++ b).length)) (nI (i + a.length)) (nI d) σ' ∧ VfX v p σ σ' ∧ sl v p σ' = sEvs E d (a.map EV) (sl v p σ) ∧ DoX v σ' = sDo E d (a.map EV) (sl v p σ) (DoX v σ) ∧ WL (sl v p σ') ∧ PT (sl v p σ') (k0 + a.length) := by
  intro a
  induction a with
  | nil =>
    intro i m k0 σ ha hm hl hE hW hP hk hX hA
    obtain ⟨m, rfl⟩ : ∃ q, m = q + 1 := ⟨m - 1, by omega⟩
    refine ⟨σ, ?_, VfX.rf, rfl, rfl, hW, hP⟩
    rw [List.nil_append] at hl hA hX ⊢
    show (if nI (i + b.length) ≤ nI i then fView_lifeOf_183 N v go p (nI (i + b.length)) (nI i) (nI d) σ else _) = _
    cases b with
    | nil =>
      rw [List.length_nil, Nat.add_zero, if_pos (Int32.le_refl _)]
    | cons e b =>
      have he := hA 0 e rfl
      obtain ⟨x1, -, -, -, -, x6, x7, -⟩ := hX e List.mem_cons_self
      rw [Nat.add_zero] at he
      rw [List.length_cons] at hl
      rw [if_neg (nI_ge (by rw [List.length_cons]; omega) (by rw [List.length_cons]; omega)), chk_t (inb_n (by omega) (by decide)), nI_clamp (by omega), he, chk_t (inb_n x1 (by decide)), nI_clamp (by omega), x6, if_neg (fun q => hb e List.mem_cons_self ((nI_eq (by omega) (by omega)).mp q))]
      rfl
  | cons e a ih =>
    intro i m k0 σ ha hm hl hE hW hP hk hX hA
    obtain ⟨m, rfl⟩ : ∃ q, m = q + 1 := ⟨m - 1, by omega⟩
    rw [List.length_cons] at hm hk
    rw [List.cons_append, List.length_cons] at hl
    have he := hA 0 e rfl
    rw [Nat.add_zero] at he
    obtain ⟨x1, x2, x3, x4, x5, x6, x7, x8, x9⟩ := hX e List.mem_cons_self
    have hde := ha e List.mem_cons_self
    obtain ⟨c, c1, c2⟩ := hP.any
    obtain ⟨σ1, i1, i2, i3⟩ := meets_e (N := N) (e := EV e) hN hE hW c1 (by omega) h1 hd x8 x9
    have wp := WP.meet (E := E) (d := d) (e := EV e) ⟨hW, hP⟩ (by omega)
    obtain ⟨σ2, h2⟩ : ∃ σ2, σ2 = sI σ1 144 v 0 e (sMeet E d (EV e) (sl v p σ)).1 := ⟨_, rfl⟩
    have f2 : VfX v p σ σ2 := by rw [h2]; exact i2.vf.tr VfX.s
    have s2 : sl v p σ2 = (sMeet E d (EV e) (sl v p σ)).2 := by rw [h2, sl_d, i3]
    have d2 : DoX v σ2 = fun j => if j = (EV e).1 then (sMeet E d (EV e) (sl v p σ)).1 else DoX v σ j := by
      funext j
      rw [x2]
      unfold DoX
      rw [h2, sI_1]
      by_cases z : j = e
      · rw [if_pos ⟨rfl, rfl, rfl, z⟩, if_pos z]
      · rw [if_neg (fun q => z q.2.2.2), if_neg z]
        exact i2.1 _ _ _ _ (fun q => absurd q.1.1 (by decide))
    have e0 : fView_lifeOf_102 N v go (m + 1) p (nI (i + (e :: a ++ b).length)) (nI i) (nI d) σ = fView_lifeOf_102 N v go m p (nI (i + 1 + (a ++ b).length)) (nI (i + 1)) (nI d) σ2 := by
      show (if nI (i + (e :: a ++ b).length) ≤ nI i then _ else chk (inb (nI i) 160) (chk (inb (σ.1 146 v 0 (nI i).toNatClampNeg) 160) (if σ.1 40 0 0 (σ.1 146 v 0 (nI i).toNatClampNeg).toNatClampNeg = nI d then nm (σ.1 146 v 0 (nI i).toNatClampNeg) fun y1 => chk (inb y1 160) (bnd (fLife_meets N v p (σ.1 37 0 0 y1.toNatClampNeg) (σ.1 39 0 0 y1.toNatClampNeg) (nI d) (σ.1 145 v 0 y1.toNatClampNeg) σ) fun r2 σ3 => nm (sI σ3 144 v 0 y1.toNatClampNeg (r2 &&& 1)) fun (σ4 : St) => fView_lifeOf_102 N v go m p (nI (i + (e :: a ++ b).length)) (nI i + 1) (nI d) σ4) else _))) = _
      have an : (sMeet E d (EV e) (sl v p σ)).1 &&& 1 = (sMeet E d (EV e) (sl v p σ)).1 := by
        rcases sM_01 (E := E) (d := d) (e := EV e) (s := sl v p σ) with q | q <;> rw [q] <;> decide
      rw [List.cons_append, List.length_cons, if_neg (nI_ge (by omega) (by omega)), chk_t (inb_n (by omega) (by decide)), nI_clamp (by omega), he, chk_t (inb_n x1 (by decide)), nI_clamp (by omega), x6, hde, if_pos rfl, nmx, chk_t (inb_n x1 (by decide)), nI_clamp (by omega), x3, x4, x5, i1, bnd_e, nmx, nI_1, an, ← h2, show i + 1 + (a ++ b).length = i + ((a ++ b).length + 1) by omega]
    obtain ⟨σ', j1, j2, j3, j4, j5, j6⟩ := ih (i + 1) m (k0 + 1) σ2 (fun x hx => ha x (List.mem_cons_of_mem _ hx)) (by omega) (by omega) (hE.vf f2) (by rw [s2]; exact wp.1) (by rw [s2]; exact wp.2) (by omega) (fun x hx => (hX x (List.mem_cons_of_mem _ hx)).mv f2) (fun j x hx => by
      rw [f2.1 _ _ _ _ (fun q => absurd q.1.1.2 (by decide)) (fun q => absurd q.1 (by decide)), show i + 1 + j = i + (j + 1) by omega]
      exact hA (j + 1) x hx)
    refine ⟨σ', ?_, f2.tr j2, ?_, ?_, j5, ?_⟩
    · rw [e0, j1, List.cons_append, List.length_cons, List.length_cons, show i + 1 + (a ++ b).length = i + ((a ++ b).length + 1) by omega, show i + 1 + a.length = i + (a.length + 1) by omega]
    · rw [j3, s2]
      rfl
    · rw [j4, s2, d2]
      rfl
    · rw [List.length_cons, show k0 + (a.length + 1) = k0 + 1 + a.length by omega]
      exact j6
/-- a list sorted by days, cut at a day -/
theorem day_cut {dy : Nat → Nat} {d : Nat} : ∀ l : List Nat, l.Pairwise (fun a b => dy a ≤ dy b) → (∀ e ∈ l, d ≤ dy e) → ∃ a b, l = a ++ b ∧ (∀ e ∈ a, dy e = d) ∧ (∀ e ∈ b, d + 1 ≤ dy e) ∧ b.Pairwise (fun a b => dy a ≤ dy b)
  | [], _, _ => ⟨[], [], rfl, by simp, by simp, List.Pairwise.nil⟩
  | x :: l, h, h2 => by
    obtain ⟨p1, p2⟩ := List.pairwise_cons.mp h
    by_cases c : dy x = d
    · obtain ⟨a, b, q1, q2, q3, q4⟩ := day_cut l p2 (fun e he => h2 e (List.mem_cons_of_mem _ he))
      refine ⟨x :: a, b, by rw [q1]; rfl, fun e he => ?_, q3, q4⟩
      rcases List.mem_cons.mp he with z | z
      · rw [z, c]
      · exact q2 e z
    · have := h2 x List.mem_cons_self
      refine ⟨[], x :: l, rfl, by simp, fun e he => ?_, h⟩
      rcases List.mem_cons.mp he with z | z
      · rw [z]; omega
      · have := p1 e z
        omega
theorem fil_all {p : Nat → Bool} : ∀ l : List Nat, (∀ e ∈ l, p e = true) → l.filter p = l
  | [], _ => rfl
  | x :: l, h => by rw [List.filter_cons_of_pos (h x List.mem_cons_self), fil_all l (fun e he => h e (List.mem_cons_of_mem _ he))]
theorem fil_none {p : Nat → Bool} : ∀ l : List Nat, (∀ e ∈ l, p e = false) → l.filter p = []
  | [], _ => rfl
  | x :: l, h => by rw [List.filter_cons_of_neg (by rw [h x List.mem_cons_self]; decide), fil_none l (fun e he => h e (List.mem_cons_of_mem _ he))]
theorem days_loop {N v p n on : Nat} {E : Env} {EV : Nat → Ev} {dy : Nat → Nat} {ev : Nat → List Ev} {s0 : Lfe} {D : Nat → Int32} (hN : 700 ≤ N) (hon : on < 936) : ∀ (g d i m : Nat) (l : List Nat) (σ : St), d + g = on + 1 → g < m → 312 ≤ d → l.Pairwise (fun a b => dy a ≤ dy b) → (∀ e ∈ l, d ≤ dy e) → i + l.length ≤ 160 → EX v p n E σ → (∀ e ∈ l, EvX N v p EV dy e σ) → (∀ (j e : Nat), l[j]? = some e → σ.1 146 v 0 (i + j) = nI e) → (∀ d', d ≤ d' → d' ≤ on → ev d' = (l.filter (fun e => decide (dy e = d'))).map EV) → σ.1 147 v 0 0 = nI on → sl v p σ = LRun E ev s0 (d - 312) → DoX v σ = LDo E ev s0 D (d - 312) → evN ev (on + 1 - 312) ≤ 160 →
    ∃ σ', fView_lifeOf_93 N v m p (nI (i + l.length)) (nI i) (nI d) σ = some ((v, p), σ') ∧ VfX v p σ σ' ∧ sl v p σ' = LRun E ev s0 (on + 1 - 312) ∧ DoX v σ' = LDo E ev s0 D (on + 1 - 312) := by
  intro g
  induction g with
  | zero =>
    intro d i m l σ h1 h2 h3 hs hl hlen hE hX hA hev ho hS hD hq
    obtain ⟨m, rfl⟩ : ∃ q, m = q + 1 := ⟨m - 1, by omega⟩
    obtain rfl : d = on + 1 := by omega
    refine ⟨σ, ?_, VfX.rf, hS, hD⟩
    show (if σ.1 147 v 0 0 < nI (on + 1) then some ((v, p), σ) else _) = _
    rw [ho, if_pos (nI_lt (by omega) (by omega))]
  | succ g ih =>
    intro d i m l σ h1 h2 h3 hs hl hlen hE hX hA hev ho hS hD hq
    obtain ⟨m, rfl⟩ : ∃ q, m = q + 1 := ⟨m - 1, by omega⟩
    obtain ⟨a, b, rfl, a1, b1, b2⟩ := day_cut l hs hl
    have hn : evN ev (d - 312) + (ev d).length ≤ 160 := by
      have := evN_mono ev (a := d - 312 + 1) (b := on + 1 - 312) (by omega)
      have e : evN ev (d - 312 + 1) = evN ev (d - 312) + (ev (312 + (d - 312))).length := rfl
      rw [show 312 + (d - 312) = d by omega] at e
      omega
    have wp := WP.run (E := E) (ev := ev) (s0 := s0) (d - 312) (Nat.le_trans (Nat.le_add_right _ _) hn)
    have fa : (a ++ b).filter (fun e => decide (dy e = d)) = a := by
      rw [List.filter_append, fil_all a (fun e he => by simp [a1 e he]), fil_none b (fun e he => by have := b1 e he; simp; omega), List.append_nil]
    have eva : ev d = a.map EV := by rw [hev d (Nat.le_refl _) (by omega), fa]
    have la : (ev d).length = a.length := by rw [eva, List.length_map]
    have hn' : evN ev (d - 312) + a.length ≤ 160 := by rw [← la]; exact hn
    have hm : a.length < N := by have := Nat.le_trans (Nat.le_add_left a.length _) hn'; exact Nat.lt_of_le_of_lt this (by clear hq hn hn' wp; omega)
    rw [List.length_append] at hlen
    clear hn
    obtain ⟨σ1, i1, i2, i3, i4, i5, i6⟩ := evs_loop (N := N) (go := fView_lifeOf_93 N v m) (EV := EV) (dy := dy) (d := d) hN h3 (by omega) b (fun e he => by have := b1 e he; omega) a i N (evN ev (d - 312)) σ a1 hm (by rw [List.length_append]; clear hq hn' wp; omega) hE (by rw [hS]; exact wp.1) (by rw [hS]; exact wp.2) hn' hX hA
    obtain ⟨σ2, j1, j2, j3⟩ := pass_e (N := N) (d := d) hN (hE.vf i2) i5 h3 (by omega)
    have f2 : VfX v p σ σ2 := i2.tr j2.vf
    have hS2 : sl v p σ2 = LRun E ev s0 (d + 1 - 312) := by
      rw [j3, i3, hS, show d + 1 - 312 = d - 312 + 1 by omega]
      show _ = sPass E (312 + (d - 312)) (sEvs E (312 + (d - 312)) (ev (312 + (d - 312))) (LRun E ev s0 (d - 312)))
      rw [show 312 + (d - 312) = d by omega, eva]
    have hD2 : DoX v σ2 = LDo E ev s0 D (d + 1 - 312) := by
      have : DoX v σ2 = DoX v σ1 := funext fun e => j2.1 _ _ _ _ (fun q => absurd q.1.1 (by decide))
      rw [this, i4, hS, hD, show d + 1 - 312 = d - 312 + 1 by omega]
      show _ = sDo E (312 + (d - 312)) (ev (312 + (d - 312))) (LRun E ev s0 (d - 312)) (LDo E ev s0 D (d - 312))
      rw [show 312 + (d - 312) = d by omega, eva]
    obtain ⟨σ', k1, k2, k3, k4⟩ := ih (d + 1) (i + a.length) m b σ2 (by omega) (by omega) (by omega) b2 b1 (by omega) (hE.vf f2) (fun e he => (hX e (List.mem_append_right _ he)).mv f2) (fun j e he => by
      rw [f2.1 _ _ _ _ (fun q => absurd q.1.1.2 (by decide)) (fun q => absurd q.1 (by decide)), show i + a.length + j = i + (a.length + j) by omega]
      refine hA (a.length + j) e ?_
      rw [List.getElem?_append_right (by omega), show a.length + j - a.length = j by omega]
      exact he) (fun d' q1 q2 => by
      rw [hev d' (by omega) q2, List.filter_append, fil_none a (fun e he => by rw [a1 e he]; simp; omega), List.nil_append]) (by rw [f2.1 _ _ _ _ (fun q => absurd q.1.1.2 (by decide)) (fun q => absurd q.1 (by decide)), ho]) hS2 hD2 hq
    refine ⟨σ', ?_, f2.tr k2, k3, k4⟩
    show (if σ.1 147 v 0 0 < nI d then _ else fView_lifeOf_102 N v (fView_lifeOf_93 N v m) N p (nI (i + (a ++ b).length)) (nI i) (nI d) σ) = _
    rw [ho, if_neg (nI_nlt (by omega) (by omega)), i1]
    unfold fView_lifeOf_183
    rw [j1, bn1_e, nI_1, ← k1, List.length_append, show i + a.length + b.length = i + (a.length + b.length) by omega]
