/-! a run of the reference: what is counted, what is said of events so far -/
theorem cnt_le (p : Nat → Bool) : ∀ m, cnt p m ≤ m
  | 0 => Nat.le_refl 0
  | m + 1 => by
    have := cnt_le p m
    unfold cnt
    split <;> omega
theorem cnt_cg {p q : Nat → Bool} : ∀ m, (∀ x, x < m → p x = q x) → cnt p m = cnt q m
  | 0, _ => rfl
  | m + 1, h => by
    unfold cnt
    rw [cnt_cg m (fun x hx => h x (by omega)), h m (by omega)]
theorem cnt_add {p q : Nat → Bool} {i : Nat} (hp : p i = false) (hq : q i = true) (h : ∀ x, x ≠ i → q x = p x) : ∀ m, i < m → cnt q m = cnt p m + 1
  | 0, hi => by omega
  | m + 1, hi => by
    unfold cnt
    by_cases c : i = m
    · rw [← c, hp, hq, cnt_cg i (fun x hx => h x (by omega))]
      simp
    · rw [cnt_add hp hq h m (by omega), h m (fun e => c e.symm)]
      omega
theorem sEvs_app (E : Env) (d : Nat) (e : Ev) : ∀ (l : List Ev) (s : Lfe), sEvs E d (l ++ [e]) s = (sMeet E d e (sEvs E d l s)).2
  | [], _ => rfl
  | _ :: l, _ => sEvs_app E d e l _
theorem sDo_app (E : Env) (d : Nat) (e : Ev) (j : Nat) : ∀ (l : List Ev) (s : Lfe) (g : Nat → Int32), sDo E d (l ++ [e]) s g j = if j = e.1 then (sMeet E d e (sEvs E d l s)).1 else sDo E d l s g j
  | [], _, _ => rfl
  | _ :: l, _, _ => sDo_app E d e j l _ _
/-- a person's events of a day, the first of them -/
def evI (μ : St) (p k d i : Nat) : List Ev := ((List.range i).filter (fun e => slM μ p k e && decide (dyM μ e = d))).map (EVM μ p k)
theorem evI_t {μ : St} {p k d i : Nat} (h1 : slM μ p k i = true) (h2 : dyM μ i = d) : evI μ p k d (i + 1) = evI μ p k d i ++ [EVM μ p k i] := by
  unfold evI
  rw [List.range_succ, List.filter_append, List.map_append, List.filter_cons_of_pos (by rw [h1, h2]; simp)]
  rfl
theorem evI_f {μ : St} {p k d i : Nat} (h : slM μ p k i = false ∨ dyM μ i ≠ d) : evI μ p k d (i + 1) = evI μ p k d i := by
  unfold evI
  rw [List.range_succ, List.filter_append, List.filter_cons_of_neg (by rcases h with h | h <;> simp [h]), List.filter_nil, List.append_nil]
theorem takes.mv {μ μ' : St} {k : Int32} {n : Nat} (h : takes μ k n) (hm : ∀ f i, f < 260 ∨ f = 266 → μ'.1 f 0 0 i = μ.1 f 0 0 i) : takes μ' k n := by
  unfold takes at h ⊢
  have e1 : ∀ t, μ'.1 237 0 0 t = μ.1 237 0 0 t := fun t => hm _ _ (by decide)
  rw [hm 219 _ (by decide), hm 266 _ (by decide)]
  simp only [e1]
  exact h
theorem Rng.mv {μ μ' : St} (h : Rng μ) (hm : ∀ f i, f < 260 ∨ 308 < f → μ'.1 f 0 0 i = μ.1 f 0 0 i) : Rng μ' := by
  intro q hq i
  have h1 : rngF.all (fun q => decide (q.1 < 260 ∨ 308 < q.1)) = true := by decide
  rw [hm _ _ (by simpa using List.all_eq_true.mp h1 q hq)]
  exact h q hq i
/-- the trades insured on a day -/
theorem ins_M {n d : Nat} {TC : Nat → List Cl} {fr to : Nat → Int32} {μ : St} (hT : TxM TC n μ) (hn : n ≤ 17) (hS : ShM TC (shOf TC fr to n d) μ) : (μ.1 264 0 0 0 = -1 ∧ (shOf TC fr to n d).ins = 0) ∨ ∃ j, j < 408 ∧ μ.1 264 0 0 0 = nI j ∧ μ.1 240 0 0 j = (shOf TC fr to n d).ins := by
  have hi : (shOf TC fr to n d).ins = (match (shOf TC fr to n d).last 0 with | none => 0 | some y => nI y.2.one) := ins_last TC (forR fr to (nI d) n) none
  rcases lawC_e rfl hS (show 0 < 7 by decide) with ⟨a, b⟩ | ⟨t, c, i, a, b0, b1, b2, b3, b4, b5⟩
  · exact Or.inl ⟨b, by rw [hi, a]⟩
  · obtain ⟨k1, k2⟩ := (hT t b0).2.2 i c b3
    exact Or.inr ⟨24 * t + i, by omega, b4, by rw [hi, a]; exact k2.2.1 b5⟩
/-- what holds of the state that a run begins with -/
abbrev RnH (N P n k : Nat) (TC : Nat → List Cl) (μ0 : St) : Prop := (Rng μ0) ∧ (EvI μ0) ∧ (TxM (TCn TC n) n μ0) ∧ (∀ k, k < 8 → μ0.1 203 0 0 k = dflts k) ∧ (takes μ0 (nI k) n) ∧ (n ≤ 17) ∧ (μ0.1 208 0 0 0 = nI P) ∧ (P ≤ 20) ∧ (∀ e, e < cnM μ0 → peM μ0 e < P) ∧ (∀ o, o < 60 → (μ0.1 324 0 0 o = 0 ↔ μ0.1 327 0 0 o ≠ -1)) ∧ (4000 ≤ N) ∧ (312 ≤ k) ∧ (k < 936)
theorem RnH.r {N P n k : Nat} {TC : Nat → List Cl} {μ0 : St} (h : RnH N P n k TC μ0) : Rng μ0 := h.1
theorem RnH.e {N P n k : Nat} {TC : Nat → List Cl} {μ0 : St} (h : RnH N P n k TC μ0) : EvI μ0 := h.2.1
theorem RnH.t {N P n k : Nat} {TC : Nat → List Cl} {μ0 : St} (h : RnH N P n k TC μ0) : TxM (TCn TC n) n μ0 := h.2.2.1
theorem RnH.d {N P n k : Nat} {TC : Nat → List Cl} {μ0 : St} (h : RnH N P n k TC μ0) : ∀ k, k < 8 → μ0.1 203 0 0 k = dflts k := h.2.2.2.1
theorem RnH.tk {N P n k : Nat} {TC : Nat → List Cl} {μ0 : St} (h : RnH N P n k TC μ0) : takes μ0 (nI k) n := h.2.2.2.2.1
theorem RnH.n {N P n k : Nat} {TC : Nat → List Cl} {μ0 : St} (h : RnH N P n k TC μ0) : n ≤ 17 := h.2.2.2.2.2.1
theorem RnH.p {N P n k : Nat} {TC : Nat → List Cl} {μ0 : St} (h : RnH N P n k TC μ0) : μ0.1 208 0 0 0 = nI P := h.2.2.2.2.2.2.1
theorem RnH.pl {N P n k : Nat} {TC : Nat → List Cl} {μ0 : St} (h : RnH N P n k TC μ0) : P ≤ 20 := h.2.2.2.2.2.2.2.1
theorem RnH.ep {N P n k : Nat} {TC : Nat → List Cl} {μ0 : St} (h : RnH N P n k TC μ0) : ∀ e, e < cnM μ0 → peM μ0 e < P := h.2.2.2.2.2.2.2.2.1
theorem RnH.su {N P n k : Nat} {TC : Nat → List Cl} {μ0 : St} (h : RnH N P n k TC μ0) : ∀ o, o < 60 → (μ0.1 324 0 0 o = 0 ↔ μ0.1 327 0 0 o ≠ -1) := h.2.2.2.2.2.2.2.2.2.1
theorem RnH.N {N P n k : Nat} {TC : Nat → List Cl} {μ0 : St} (h : RnH N P n k TC μ0) : 4000 ≤ N := h.2.2.2.2.2.2.2.2.2.2.1
theorem RnH.k1 {N P n k : Nat} {TC : Nat → List Cl} {μ0 : St} (h : RnH N P n k TC μ0) : 312 ≤ k := h.2.2.2.2.2.2.2.2.2.2.2.1
theorem RnH.k2 {N P n k : Nat} {TC : Nat → List Cl} {μ0 : St} (h : RnH N P n k TC μ0) : k < 936 := h.2.2.2.2.2.2.2.2.2.2.2.2
/-- what holds all along a run -/
abbrev RnI (k : Nat) (μ0 μ : St) : Prop := (RnX μ0 μ) ∧ (BkM k μ0 μ) ∧ (∀ q, q < cnM μ0 → μ.1 278 0 0 q = clr (cnM μ0) (peM μ0) (kdM μ0) (nuM μ0) (kwM μ0 k) (peM μ0 q) q)
theorem RnI.x {k : Nat} {μ0 μ : St} (h : RnI k μ0 μ) : RnX μ0 μ := h.1
theorem RnI.b {k : Nat} {μ0 μ : St} (h : RnI k μ0 μ) : BkM k μ0 μ := h.2.1
theorem RnI.c {k : Nat} {μ0 μ : St} (h : RnI k μ0 μ) : ∀ q, q < cnM μ0 → μ.1 278 0 0 q = clr (cnM μ0) (peM μ0) (kdM μ0) (nuM μ0) (kwM μ0 k) (peM μ0 q) q := h.2.2
theorem RnI.lo {k : Nat} {μ0 μ : St} (h : RnI k μ0 μ) {f i : Nat} (hf : f < 260 ∨ 308 < f ∨ f = 266) : μ.1 f 0 0 i = μ0.1 f 0 0 i := h.x.at hf
theorem RnI.mv {k : Nat} {μ0 μ μ' : St} (h : RnI k μ0 μ) (hx : RnX μ μ') (hm : ∀ f i, f = 260 ∨ f = 261 ∨ f = 278 → μ'.1 f 0 0 i = μ.1 f 0 0 i) : RnI k μ0 μ' := by
  refine ⟨h.x.tr hx, ⟨fun p y hp hy => ?_, fun p w hp hw => ?_⟩, fun q hq => ?_⟩
  · rw [hm _ _ (by decide)]
    exact h.b.1 p y hp hy
  · rw [hm _ _ (by decide)]
    exact h.b.2 p w hp hw
  · rw [hm _ _ (by decide)]
    exact h.c q hq
theorem PnX.rn {p nc nc' nb nb' : Nat} {μ μ' : St} (h : PnX p nc nc' nb nb' μ μ') : RnX μ μ' := ⟨fun f a b i q => h.o f a b i (by omega), fun f a b i q1 q2 q3 => h.j f a b i q1 q2 q3⟩
theorem RnI.pn {k p nc nc' nb nb' : Nat} {μ0 μ μ' : St} (h : RnI k μ0 μ) (hx : PnX p nc nc' nb nb' μ μ') : RnI k μ0 μ' := h.mv hx.rn (fun f i q => hx.o f 0 0 i (by omega))
theorem RnI.cx {N P n k d p : Nat} {TC : Nat → List Cl} {μ0 μ : St} (H : RnH N P n k TC μ0) (h : RnI k μ0 μ) (hp : p < 20) (hd1 : 312 ≤ d) (hd : d < 936) (hn : μ.1 269 0 0 0 = nI d) (hS : ShM (TCn TC n) (shOf (TCn TC n) (frM μ0) (toM μ0) n d) μ) : Cx N n p d (ENM μ0 TC p n k) (frM μ0) (toM μ0) μ := by
  refine ⟨H.t.mv (fun f i q1 q2 => h.lo (by omega)), H.n, rfl, hS, hp, hd1, hd, hn, fun μ' hμ w hw => ?_, ?_, ?_⟩
  · refine (stAt_e (N := N) (k := k) H.r (fun f i q => (hμ f i (by omega)).trans (h.lo (by omega))) ⟨fun p y hp hy => ?_, fun p w hp hw => ?_⟩ hp hw).2
    · rw [hμ _ _ (by decide)]
      exact h.b.1 p y hp hy
    · rw [hμ _ _ (by decide)]
      exact h.b.2 p w hp hw
  · exact h.lo (by decide)
  · exact h.lo (by decide)
theorem RnH.of {N P n k p e : Nat} {TC : Nat → List Cl} {μ0 : St} (H : RnH N P n k TC μ0) (he : e < cnM μ0) (h7 : (EVM μ0 p k e).k = 7) : OfM N p (EVM μ0 p k e) μ0 := by
  have hR := H.r
  obtain ⟨-, -, -, -, i7⟩ := H.e e he
  obtain ⟨o, o1, o2⟩ := i7 h7
  obtain ⟨m, m1, m2, m3, m4, m5⟩ := hR.n (g := 317) (lo := 0) (hi := 60) 0 (by decide) (by decide)
  obtain ⟨w, w1, w2, w3, w4, w5⟩ := hR.n (g := 326) (lo := 0) (hi := 23) o (by decide) (by decide)
  obtain ⟨a, a1, a2, a3, a4, a5⟩ := hR.n (g := 213) (lo := 0) (hi := 7) p (by decide) (by decide)
  obtain ⟨b, b1, b2, b3, b4, b5⟩ := hR.n (g := 318) (lo := 0) (hi := 7) w (by decide) (by decide)
  rw [m1, m3] at o2
  have eo : ofM μ0 p e = ofW μ0 p o w := by
    unfold ofM
    rw [if_pos (show kdM μ0 e = 7 from h7), o1, nI_clamp (by omega), w1, w3]
  have hs := H.su o (by omega)
  refine ⟨o, w, by omega, by omega, o1, ?_, w1, fun μ' hμ => ?_, ?_, ?_⟩
  · show (ofM μ0 p e).1 = _
    rw [eo]
    unfold ofW
    dsimp only
    by_cases z : μ0.1 324 0 0 o = 0
    · rw [if_pos z, if_neg (hs.mp z)]
    · rw [if_neg z, if_pos (Classical.byContradiction fun q => z (hs.mpr q))]
  · obtain ⟨x, x1, x2, x3⟩ := e_milesM (N := N) (hR.mv hμ) (show a < 8 by omega) (show b < 8 by omega)
    rw [a1, b1, x3]
    show _ = some (ofM μ0 p e).2.1
    rw [eo]
    unfold ofW
    dsimp only
    rw [a1, b1, a3, b3, show mi μ0 a b = mi μ' a b from by unfold mi; rw [hμ 209 _ (by decide), hμ 209 _ (by decide), hμ 210 _ (by decide), hμ 210 _ (by decide)], ← x1]
    rfl
  · show _ = (ofM μ0 p e).2.2.1
    rw [eo]
    rfl
  · show (ofM μ0 p e).2.2.2 = _
    rw [eo]
    rfl
