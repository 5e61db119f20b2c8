/-! which of the tests an offer fails -/
def fst0 (vs : Nat → Int64) : List Cl → Nat → Int32
  | [], _ => -1
  | c :: l, i => if cv vs c = 0 then nI i else fst0 vs l (i + 1)
def suitsOf (TC : Nat → List Cl) (t : Nat) : List Cl := (TC t).filter (isW 5)
def fstBy (TC : Nat → List Cl) : List Nat → Option Nat
  | [] => none
  | t :: l => if (suitsOf TC t).length = 0 then fstBy TC l else some t
theorem fstBy_app (TC : Nat → List Cl) : ∀ (l m : List Nat), fstBy TC (l ++ m) = match fstBy TC l with | some t => some t | none => fstBy TC m
  | [], _ => rfl
  | t :: l, m => by
    show (if (suitsOf TC t).length = 0 then fstBy TC (l ++ m) else some t) = match (if (suitsOf TC t).length = 0 then fstBy TC l else some t) with | some t => some t | none => fstBy TC m
    by_cases c : (suitsOf TC t).length = 0
    · rw [if_pos c, if_pos c]
      exact fstBy_app TC l m
    · rw [if_neg c, if_neg c]
theorem by_foldl (TC : Nat → List Cl) : ∀ (R : List Nat) (x : Option Nat), R.foldl (sT TC) x = match fstBy TC R.reverse with | some t => some t | none => x
  | [], _ => rfl
  | a :: r, x => by
    rw [List.foldl_cons, by_foldl TC r, List.reverse_cons, fstBy_app]
    cases fstBy TC r.reverse with
    | some t => rfl
    | none =>
      show sT TC x a = match fstBy TC [a] with | some t => some t | none => x
      show (if (suitsOf TC a).length = 0 then x else some a) = match (if (suitsOf TC a).length = 0 then none else some a) with | some t => some t | none => x
      by_cases c : (suitsOf TC a).length = 0
      · rw [if_pos c, if_pos c]
      · rw [if_neg c, if_neg c]
theorem fstBy_mem (TC : Nat → List Cl) : ∀ (l : List Nat) (t : Nat), fstBy TC l = some t → t ∈ l
  | [], _, h => absurd h (by simp [fstBy])
  | a :: l, t, h => by
    unfold fstBy at h
    by_cases c : (suitsOf TC a).length = 0
    · rw [if_pos c] at h
      exact List.mem_cons_of_mem _ (fstBy_mem TC l t h)
    · rw [if_neg c] at h
      rw [Option.some.inj h]
      exact List.mem_cons_self
/-- the first test that is nought -/
def objS (TC : Nat → List Cl) (vs : Nat → Int64) (sh : Sheet) : Int32 := match sh.by with
  | none => -1
  | some t => fst0 vs (suitsOf TC t) 0
theorem fst0_r (vs : Nat → Int64) : ∀ (l : List Cl) (i : Nat), fst0 vs l i = -1 ∨ ∃ j, j < i + l.length ∧ fst0 vs l i = nI j
  | [], _ => Or.inl rfl
  | c :: l, i => by
    unfold fst0
    by_cases z : cv vs c = 0
    · rw [if_pos z]
      exact Or.inr ⟨i, by rw [List.length_cons]; omega, rfl⟩
    · rw [if_neg z]
      rcases fst0_r vs l (i + 1) with q | ⟨j, j1, j2⟩
      · exact Or.inl q
      · exact Or.inr ⟨j, by rw [List.length_cons]; omega, j2⟩
theorem suits_len {TC : Nat → List Cl} {t : Nat} (h : (TC t).length ≤ 24) : (suitsOf TC t).length ≤ 24 := Nat.le_trans (List.length_filter_le _ _) h
/-- the class looks for it -/
theorem obj_loop {N v t n L : Nat} {TC : Nat → List Cl} {fr to : Nat → Int32} {vs : Nat → Int64} (hN : 700 ≤ N) (ht : t < n) (hn : n ≤ 17) : ∀ (e i m : Nat) (σ : St), i + e = (suitsOf TC t).length → e < m → TxX TC fr to n σ → VX v σ vs → ∃ σ', fLaw_firstObjection_34 N v m (nI t) (nI (suitsOf TC t).length) (nI i) σ = some (fst0 vs ((suitsOf TC t).drop i) i, σ') ∧ Sk 73 σ σ' := by
  intro e
  induction e with
  | zero =>
    intro i m σ h1 h2 hT hv
    obtain ⟨m, rfl⟩ : ∃ q, m = q + 1 := ⟨m - 1, by omega⟩
    refine ⟨σ, ?_, Sk.rfl'⟩
    rw [List.drop_eq_nil_of_le (by omega)]
    have hl := suits_len (hT t ht).2.2.1
    show (if nI (suitsOf TC t).length ≤ nI i then some ((-1 : Int32), σ) else _) = some ((-1 : Int32), σ)
    rw [if_pos (nI_le (by omega) (by omega))]
  | succ e ih =>
    intro i m σ h1 h2 hT hv
    obtain ⟨m, rfl⟩ : ∃ q, m = q + 1 := ⟨m - 1, by omega⟩
    obtain ⟨a1, a2, a3, -⟩ := hT t ht
    have hl := suits_len a3
    obtain ⟨c, hc⟩ : ∃ c, (suitsOf TC t)[i]? = some c := ⟨(suitsOf TC t)[i], List.getElem?_eq_getElem (by omega)⟩
    have ed : (suitsOf TC t).drop i = c :: (suitsOf TC t).drop (i + 1) := by
      rw [List.drop_eq_getElem_cons (by omega)]
      congr 1
      have := List.getElem?_eq_getElem (l := suitsOf TC t) (i := i) (by omega)
      rw [this] at hc
      exact Option.some.inj hc
    obtain ⟨-, -, -, -, -, -, s7, -, -⟩ := a1
    have hs := s7 i c hc
    have hm : c ∈ suitsOf TC t := List.mem_of_getElem? hc
    obtain ⟨m1, m2⟩ := List.mem_filter.mp hm
    obtain ⟨q, hq⟩ := List.getElem?_of_mem m1
    have hw : c.wh = 5 := of_decide_eq_true m2
    obtain ⟨σ2, w2, w1⟩ := wk_e (N := N) (v := v) hN hT ht hq (by omega) hv
    have hcl : nI (suitsOf TC t).length = nI (suitsOf TC t).length := rfl
    have e0 : fLaw_firstObjection_34 N v (m + 1) (nI t) (nI (suitsOf TC t).length) (nI i) σ = if lg_cmp (cv vs c) 0 = 0 then some (nI i, σ2) else fLaw_firstObjection_34 N v m (nI t) (nI (suitsOf TC t).length) (nI (i + 1)) σ2 := by
      show (if nI (suitsOf TC t).length ≤ nI i then _ else chk (inb (nI t) 17) (chk (inb (nI i) 24) (bnd (fAct_work N (nI t).toNatClampNeg v v (σ.1 8 (nI t).toNatClampNeg 0 (nI i).toNatClampNeg) σ) fun r1 σ2 => if lg_cmp r1 0 = 0 then some (nI i, σ2) else fLaw_firstObjection_34 N v m (nI t) (nI (suitsOf TC t).length) (nI i + 1) σ2))) = _
      rw [if_neg (nI_ge (by omega) (by omega)), chk_t (inb_n (by omega) (by decide)), chk_t (inb_n (by omega) (by decide)), nI_clamp (n := t) (by omega), nI_clamp (n := i) (by omega), show σ.1 8 t 0 i = nI c.pX from hs, w1, bnd_e, nI_1]
    rw [e0, ed]
    show ∃ σ', _ = some ((if cv vs c = 0 then nI i else fst0 vs ((suitsOf TC t).drop (i + 1)) (i + 1)), σ') ∧ _
    by_cases z : cv vs c = 0
    · rw [if_pos (czp z), if_pos z]
      exact ⟨σ2, rfl, w2⟩
    · rw [if_neg (czn z), if_neg z]
      obtain ⟨σ3, g1, g2⟩ := ih (i + 1) m σ2 (by omega) (by omega) (hT.mv (fun f a b i _ _ => by rw [w2.1])) (fun k hk => (w2.2 _ _ _ _ (by decide)).trans (hv k hk))
      exact ⟨σ3, g1, w2.tr g2⟩
theorem objX {N v p n d : Nat} {E : Env} {σ : St} {vs : Nat → Int64} (hN : 700 ≤ N) (hE : EX v p n E σ) (hd : d < 936) (hv : VX v σ vs) : ∃ σ', fLaw_firstObjection N v (nI d) σ = some (objS E.TC vs (E.sh d), σ') ∧ Sk 73 σ σ' := by
  obtain ⟨h1, ⟨fr, to, h2, h3⟩, h4, -⟩ := hE
  obtain ⟨s, s1, s2, s3⟩ := h1 d hd
  have eby : (E.sh d).by = fstBy E.TC (E.sh d).R.reverse := by
    rw [h3 d hd]
    show (forR fr to (nI d) n).foldl (sT E.TC) none = fstBy E.TC (forR fr to (nI d) n).reverse
    rw [by_foldl]
    cases fstBy E.TC (forR fr to (nI d) n).reverse <;> rfl
  have hby : σ.1 71 v 0 s = bI (E.sh d).by := s3.2.2.2.2.2.2.2
  unfold fLaw_firstObjection fLaw_firstObjection_30 objS
  rw [chk_t (inb_n hd (by decide)), nI_clamp (n := d) (by omega), show σ.1 63 v 0 d = nI s from s2, chk_t (inb_n s1 (by decide)), nI_clamp (n := s) (by omega), nmx, hby]
  cases e : (E.sh d).by with
  | none =>
    refine ⟨σ, ?_, Sk.rfl'⟩
    obtain ⟨m, rfl⟩ : ∃ q, N = q + 1 := ⟨N - 1, by omega⟩
    rfl
  | some t =>
    have htm : t ∈ (E.sh d).R.reverse := fstBy_mem _ _ _ (eby ▸ e)
    have ht : t < n := by
      rw [h3 d hd] at htm
      exact forR_lt _ _ _ _ _ (List.mem_reverse.mp htm)
    obtain ⟨a1, a2, a3, -⟩ := h2 t ht
    obtain ⟨-, -, -, -, -, s6, -⟩ := a1
    show ∃ σ', (if nI t = -1 then _ else chk (inb (nI t) 17) (fLaw_firstObjection_34 N v N (nI t) (σ.1 9 (nI t).toNatClampNeg 0 0) 0 σ)) = some (fst0 vs (suitsOf E.TC t) 0, σ') ∧ _
    rw [if_neg (m1_ne (by omega)), chk_t (inb_n (by omega) (by decide)), nI_clamp (by omega), show σ.1 9 t 0 0 = nI (suitsOf E.TC t).length from s6]
    have hl := suits_len a3
    exact obj_loop (N := N) (L := 0) hN ht h4 (suitsOf E.TC t).length 0 N σ (by omega) (by omega) h2 hv
/-- the reference looks for it -/
theorem failM_in {N n t j : Nat} {TC : Nat → List Cl} {vs : Nat → Int64} {μ : St} {go : Int32 → Int32 → Int32 → St → Option (Int32 × St)} (hN : 1000 ≤ N) (hT : TxM TC n μ) (ht : t < n) (hn : n ≤ 17) (hf : μ.1 262 0 0 j = nI t) (hj : j < 17) (hv : VM N μ vs) : ∀ (e i m cn : Nat) (x3 x4 : Int32) (μ1 : St), i + e = (TC t).length → e < m → cn ≤ i → Sk 267 μ μ1 → ∃ μ', Sk 267 μ μ' ∧ fM_failing_39 N go m x3 x4 (nI j) (nI cn) (nI i) μ1 = go (if x3 = -1 then fst0 vs (((TC t).drop i).filter (isW 5)) cn else x3) (if (((TC t).drop i).filter (isW 5)).length = 0 then x4 else 1) (nI (j + 1)) μ' := by
  obtain ⟨h1, h2, h3⟩ := hT t ht
  intro e
  induction e with
  | zero =>
    intro i m cn x3 x4 μ1 a b hcn hs
    obtain ⟨m, rfl⟩ : ∃ q, m = q + 1 := ⟨m - 1, by omega⟩
    refine ⟨μ1, hs, ?_⟩
    rw [List.drop_eq_nil_of_le (by omega), List.filter_nil, if_pos (show ([] : List Cl).length = 0 from rfl), show (if x3 = -1 then fst0 vs [] cn else x3) = x3 from by
      by_cases z : x3 = -1
      · rw [if_pos z, z]
        rfl
      · rw [if_neg z]]
    show chk (inb (nI j) 17) (chk (inb (μ1.1 262 0 0 (nI j).toNatClampNeg) 17) (if μ1.1 238 0 0 (μ1.1 262 0 0 (nI j).toNatClampNeg).toNatClampNeg ≤ nI i then go x3 x4 (nI j + 1) μ1 else _)) = go x3 x4 (nI (j + 1)) μ1
    rw [chk_t (inb_n hj (by decide)), nI_clamp (by omega), hs.1, hf, chk_t (inb_n (by omega) (by decide)), nI_clamp (by omega), h1, if_pos (nI_le (by omega) (by omega)), nI_1]
  | succ e ih =>
    intro i m cn x3 x4 μ1 a b hcn hs
    obtain ⟨m, rfl⟩ : ∃ q, m = q + 1 := ⟨m - 1, by omega⟩
    obtain ⟨c, hc⟩ : ∃ c, (TC t)[i]? = some c := ⟨(TC t)[i], List.getElem?_eq_getElem (by omega)⟩
    obtain ⟨k1, k2⟩ := h3 i c hc
    have ed : (TC t).drop i = c :: (TC t).drop (i + 1) := by
      rw [List.drop_eq_getElem_cons (by omega)]
      congr 1
      have := List.getElem?_eq_getElem (l := TC t) (i := i) (by omega)
      rw [this] at hc
      exact Option.some.inj hc
    have e1 : (24 : Int32) * nI t + nI i = nI (24 * t + i) := by rw [show (24 : Int32) * nI t = nI (24 * t) from (Int32.ofNat_mul 24 t).symm, nI_add]
    have e0 : fM_failing_39 N go (m + 1) x3 x4 (nI j) (nI cn) (nI i) μ1 = if nI c.wh = 5 then (if x3 = -1 then bnd (fM_told0 N (nI (24 * t + i)) μ1) fun r2 σ3 => if lg_cmp r2 0 = 0 then fM_failing_39 N go m (nI cn) 1 (nI j) (nI (cn + 1)) (nI (i + 1)) σ3 else fM_failing_39 N go m x3 1 (nI j) (nI (cn + 1)) (nI (i + 1)) σ3 else fM_failing_39 N go m x3 1 (nI j) (nI (cn + 1)) (nI (i + 1)) μ1) else fM_failing_39 N go m x3 x4 (nI j) (nI cn) (nI (i + 1)) μ1 := by
      show chk (inb (nI j) 17) (chk (inb (μ1.1 262 0 0 (nI j).toNatClampNeg) 17) (if μ1.1 238 0 0 (μ1.1 262 0 0 (nI j).toNatClampNeg).toNatClampNeg ≤ nI i then go x3 x4 (nI j + 1) μ1 else nm ((24 : Int32) * μ1.1 262 0 0 (nI j).toNatClampNeg + nI i) fun (y1 : Int32) => chk (inb y1 408) (if μ1.1 239 0 0 y1.toNatClampNeg = 5 then (if x3 = -1 then bnd (fM_told0 N y1 μ1) fun r2 σ3 => if lg_cmp r2 0 = 0 then fM_failing_39 N go m (nI cn) 1 (nI j) (nI cn + 1) (nI i + 1) σ3 else fM_failing_39 N go m x3 1 (nI j) (nI cn + 1) (nI i + 1) σ3 else fM_failing_39 N go m x3 1 (nI j) (nI cn + 1) (nI i + 1) μ1) else fM_failing_39 N go m x3 x4 (nI j) (nI cn) (nI i + 1) μ1))) = _
      rw [chk_t (inb_n hj (by decide)), nI_clamp (by omega), hs.1, hf, chk_t (inb_n (by omega) (by decide)), nI_clamp (by omega), h1, if_neg (nI_ge (by omega) (by omega)), nmx, e1, chk_t (inb_n (by omega) (by decide)), nI_clamp (by omega), nI_1, nI_1, k2.1]
    rw [e0, ed]
    by_cases c6 : c.wh = 5
    · rw [if_pos (show nI c.wh = 5 by rw [c6]; rfl), List.filter_cons_of_pos (show isW 5 c = true from decide_eq_true c6), if_neg (show ¬ (c :: ((TC t).drop (i + 1)).filter (isW 5)).length = 0 by rw [List.length_cons]; omega)]
      have one : ∀ y : Int32, (if (((TC t).drop (i + 1)).filter (isW 5)).length = 0 then (1 : Int32) else 1) = 1 := fun _ => by split <;> rfl
      by_cases z3 : x3 = -1
      · obtain ⟨μ2, t1, t2⟩ := told0_e (N := N) (t := t) (i := i) (vs := vs) (c := c) (μ := μ1) hN (by omega) (by omega) k1 (k2.sk hs) (by omega) (hv.sk hs)
        rw [if_pos z3, if_pos z3, t1, bnd_e]
        show ∃ μ', _ ∧ _ = go (if cv vs c = 0 then nI cn else fst0 vs (((TC t).drop (i + 1)).filter (isW 5)) (cn + 1)) 1 (nI (j + 1)) μ'
        by_cases z : cv vs c = 0
        · rw [if_pos (czp z), if_pos z]
          obtain ⟨μ', g1, g2⟩ := ih (i + 1) m (cn + 1) (nI cn) 1 μ2 (by omega) (by omega) (by omega) (hs.tr t2)
          rw [if_neg (m1_ne (by omega)), one 0] at g2
          exact ⟨μ', g1, g2⟩
        · rw [if_neg (czn z), if_neg z]
          obtain ⟨μ', g1, g2⟩ := ih (i + 1) m (cn + 1) x3 1 μ2 (by omega) (by omega) (by omega) (hs.tr t2)
          rw [if_pos z3, one 0] at g2
          exact ⟨μ', g1, g2⟩
      · rw [if_neg z3, if_neg z3]
        obtain ⟨μ', g1, g2⟩ := ih (i + 1) m (cn + 1) x3 1 μ1 (by omega) (by omega) (by omega) hs
        rw [if_neg z3, one 0] at g2
        exact ⟨μ', g1, g2⟩
    · rw [if_neg (show ¬ nI c.wh = 5 from fun q => c6 ((nI_eq (b := 5) (by have := k1.1; omega) (by decide)).mp q)), List.filter_cons_of_neg (show ¬ isW 5 c = true from fun q => c6 (of_decide_eq_true q))]
      exact ih (i + 1) m cn x3 x4 μ1 (by omega) (by omega) (by omega) hs
def noOff (μ : St) : St := sI (sI (sI μ 270 0 0 0 0) 271 0 0 0 0) 272 0 0 0 0
theorem failM_out {N n : Nat} {TC : Nat → List Cl} {vs : Nat → Int64} {μ : St} {R : List Nat} (hN : 1000 ≤ N) (hT : TxM TC n μ) (hn : n ≤ 17) (hR : Rep (fun i => μ.1 262 0 0 i) R) (hl : μ.1 263 0 0 0 = nI R.length) (hl2 : R.length ≤ 17) (ht : ∀ t ∈ R, t < n) (hv : VM N μ vs) : ∀ (e j m : Nat) (μ1 : St), j + e = R.length → e + 1 < m → Sk 267 μ μ1 → ∃ μ', Sk 267 μ μ' ∧ fM_failing_19 N m (-1) 0 (nI j) μ1 = some ((match fstBy TC (R.reverse.drop j) with | none => -1 | some t => fst0 vs (suitsOf TC t) 0), noOff μ') := by
  intro e
  induction e with
  | zero =>
    intro j m μ1 a b hs
    obtain ⟨m, rfl⟩ : ∃ q, m = q + 1 := ⟨m - 1, by omega⟩
    refine ⟨μ1, hs, ?_⟩
    rw [List.drop_eq_nil_of_le (by rw [List.length_reverse]; omega)]
    show (if μ1.1 263 0 0 0 ≤ nI j then fM_failing_122 N (-1) μ1 else _) = some (-1, noOff μ1)
    rw [hs.1, hl, if_pos (nI_le (by omega) (by omega))]
    rfl
  | succ e ih =>
    intro j m μ1 a b hs
    obtain ⟨m, rfl⟩ : ∃ q, m = q + 1 := ⟨m - 1, by omega⟩
    have hlr : R.reverse.length = R.length := List.length_reverse
    obtain ⟨t, h1⟩ : ∃ t, R.reverse[j]? = some t := ⟨R.reverse[j]'(by omega), List.getElem?_eq_getElem (by omega)⟩
    have hf := Rep_get R hR j t h1
    have htn : t < n := ht t (List.mem_reverse.mp (List.mem_of_getElem? h1))
    have ed : R.reverse.drop j = t :: R.reverse.drop (j + 1) := by
      rw [List.drop_eq_getElem_cons (by omega)]
      congr 1
      have := List.getElem?_eq_getElem (l := R.reverse) (i := j) (by omega)
      rw [this] at h1
      exact Option.some.inj h1
    obtain ⟨h0, h2, -⟩ := hT t htn
    obtain ⟨μ2, i1, i2⟩ := failM_in (N := N) (j := j) (go := fM_failing_19 N m) hN hT htn hn hf (by omega) hv (TC t).length 0 N 0 (-1) 0 μ1 (by omega) (by omega) (by omega) hs
    have e0 : fM_failing_19 N (m + 1) (-1) 0 (nI j) μ1 = fM_failing_39 N (fM_failing_19 N m) N (-1) 0 (nI j) 0 0 μ1 := by
      show (if μ1.1 263 0 0 0 ≤ nI j then _ else if (0 : Int32) = 0 then fM_failing_39 N (fM_failing_19 N m) N (-1) 0 (nI j) 0 0 μ1 else _) = _
      rw [hs.1, hl, if_neg (nI_ge (by omega) (by omega)), if_pos rfl]
    rw [e0, show fM_failing_39 N (fM_failing_19 N m) N (-1) 0 (nI j) 0 0 μ1 = _ from i2, List.drop_zero, if_pos rfl, ed]
    show ∃ μ', _ ∧ fM_failing_19 N m (fst0 vs (suitsOf TC t) 0) (if (suitsOf TC t).length = 0 then 0 else 1) (nI (j + 1)) μ2 = some ((match (if (suitsOf TC t).length = 0 then fstBy TC (R.reverse.drop (j + 1)) else some t) with | none => -1 | some t => fst0 vs (suitsOf TC t) 0), noOff μ')
    by_cases z : (suitsOf TC t).length = 0
    · rw [if_pos z, if_pos z, show suitsOf TC t = [] from List.eq_nil_of_length_eq_zero z]
      exact ih (j + 1) m μ2 (by omega) (by omega) i1
    · rw [if_neg z, if_neg z]
      refine ⟨μ2, i1, ?_⟩
      obtain ⟨m, rfl⟩ : ∃ q, m = q + 1 := ⟨m - 1, by omega⟩
      show (if μ2.1 263 0 0 0 ≤ nI (j + 1) then fM_failing_122 N (fst0 vs (suitsOf TC t) 0) μ2 else if (1 : Int32) = 0 then _ else fM_failing_122 N (fst0 vs (suitsOf TC t) 0) μ2) = some (fst0 vs (suitsOf TC t) 0, noOff μ2)
      rw [if_neg (show ¬ (1 : Int32) = 0 by decide)]
      split <;> rfl
