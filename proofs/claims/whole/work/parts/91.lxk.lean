/-! what is told, as a life needs it -/
def cnM (μ : St) : Nat := (μ.1 218 0 0 0).toNatClampNeg
def peM (μ : St) (e : Nat) : Nat := (μ.1 230 0 0 e).toNatClampNeg
def dyM (μ : St) (e : Nat) : Nat := (μ.1 232 0 0 e).toNatClampNeg
def kdM (μ : St) (e : Nat) : Int32 := μ.1 229 0 0 e
def nuM (μ : St) (e : Nat) : Int32 := μ.1 231 0 0 e
def kwM (μ : St) (k e : Nat) : Bool := knw (μ.1 233 0 0 e) (μ.1 234 0 0 e) (nI k)
def ofW (μ : St) (p o w : Nat) : Int32 × Ofr := (if μ.1 325 0 0 o = nI p then (if μ.1 327 0 0 o = -1 then 1 else 0) else 0, nI (mi μ (μ.1 213 0 0 p).toNatClampNeg (μ.1 318 0 0 w).toNatClampNeg).toNat, μ.1 320 0 0 w, if μ.1 319 0 0 w = μ.1 211 0 0 p then 1 else 0)
def ofM (μ : St) (p e : Nat) : Int32 × Ofr := if kdM μ e = 7 then ofW μ p (nuM μ e).toNatClampNeg (μ.1 326 0 0 (nuM μ e).toNatClampNeg).toNatClampNeg else (0, 0, 0, 0)
def EVM (μ : St) (p k e : Nat) : Ev := (e, kdM μ e, nuM μ e, clr (cnM μ) (peM μ) (kdM μ) (nuM μ) (kwM μ k) p e, ofM μ p e)
def slM (μ : St) (p k e : Nat) : Bool := decide (peM μ e = p) && kwM μ k e && !decide (kdM μ e = 8)
def evM (μ : St) (p k d : Nat) : List Ev := ((List.range (cnM μ)).filter (fun e => slM μ p k e && decide (dyM μ e = d))).map (EVM μ p k)
def TCn (TC : Nat → List Cl) (n t : Nat) : List Cl := if t < n then TC t else []
def frM (μ : St) (t : Nat) : Int32 := μ.1 235 0 0 t
def toM (μ : St) (t : Nat) : Int32 := μ.1 236 0 0 t
def ENM (μ : St) (TC : Nat → List Cl) (p n k : Nat) : Env := (fun d => shOf (TCn TC n) (frM μ) (toM μ) n d, TCn TC n, stOf μ p k, fun j => if j = 0 then μ.1 212 0 0 p else if j = 1 then μ.1 211 0 0 p else μ.1 214 0 0 p)
/-- what holds of the events told -/
def EvI (μ : St) : Prop := ∀ e, e < cnM μ → 312 ≤ dyM μ e ∧ (∃ t : Nat, μ.1 233 0 0 e = nI t ∧ dyM μ e ≤ t ∧ t ≤ (μ.1 205 0 0 0).toNatClampNeg) ∧ μ.1 234 0 0 e ≤ μ.1 205 0 0 0 ∧ (kdM μ e = 8 → ∃ q, q < e ∧ nuM μ e = nI q ∧ peM μ q = peM μ e) ∧ (kdM μ e = 7 → ∃ o, nuM μ e = nI o ∧ o < (μ.1 317 0 0 0).toNatClampNeg)
/-- a life that is worked up to a day -/
def LfOK (v p u : Nat) (E : Env) (μ : St) (ev : Nat → List Ev) (σ : St) : Prop := ∃ s0, sl v p σ = LRun E ev s0 (u - 311) ∧ (∀ e, e < cnM μ → peM μ e = p → σ.1 144 v 0 e = LDo E ev s0 (fun _ => 0) (u - 311) e) ∧ ∀ w, w < 156 → σ.1 80 v p w = E.st w
def WfX (v p : Nat) (σ σ' : St) : Prop := (∀ f a b i, ¬ (78 ≤ f ∧ f ≤ 94 ∧ a = v ∧ b = p) → ¬ (144 ≤ f ∧ f ≤ 146 ∧ a = v ∧ b = 0) → σ'.1 f a b i = σ.1 f a b i) ∧ (∀ f a b i, f ≠ 73 → ¬ (f = 72 ∧ a = v) → σ'.2 f a b i = σ.2 f a b i)
theorem WfX.rf {v p : Nat} {σ : St} : WfX v p σ σ := ⟨fun _ _ _ _ _ _ => rfl, fun _ _ _ _ _ _ => rfl⟩
theorem WfX.tr {v p : Nat} {σ σ' σ'' : St} (h : WfX v p σ σ') (h2 : WfX v p σ' σ'') : WfX v p σ σ'' := ⟨fun f a b i e e2 => (h2.1 f a b i e e2).trans (h.1 f a b i e e2), fun f a b i e e2 => (h2.2 f a b i e e2).trans (h.2 f a b i e e2)⟩
theorem VfX.wf {v p : Nat} {σ σ' : St} (h : VfX v p σ σ') : WfX v p σ σ' := ⟨fun f a b i e e2 => h.1 f a b i (fun q => e ⟨q.1.1.1, q.1.1.2, q.2.1, q.2.2⟩) (fun q => e2 ⟨by have := q.1; omega, by have := q.1; omega, q.2.1, q.2.2⟩), h.2⟩
theorem LfX.wf {v p : Nat} {σ σ' : St} (h : LfX v p σ σ') : WfX v p σ σ' := h.vf.wf
theorem StX.wf {v p : Nat} {σ σ' : St} (h : StX v p σ σ') : WfX v p σ σ' := ⟨fun f a b i e _ => h.1 f a b i (fun q => e ⟨by have := q.1; omega, by have := q.1; omega, q.2.1, q.2.2⟩), fun f a b i _ _ => by rw [h.2]⟩
theorem VlX.wf {v p : Nat} {σ σ' : St} (h : VlX v σ σ') : WfX v p σ σ' := ⟨fun f a b i _ e => h.1 f a b i e, fun f a b i _ _ => by rw [h.2]⟩
theorem WfX.s {v p i : Nat} {σ : St} {x : Int32} : WfX v p σ (sI σ 82 v p i x) := ⟨fun f a b j q _ => by rw [sI_1, if_neg (fun z => q ⟨by have := z.1; omega, by have := z.1; omega, z.2.1, z.2.2.1⟩)], fun _ _ _ _ _ _ => rfl⟩
theorem WfX.eq {v p : Nat} {σ σ' μ : St} (h : WfX v p σ σ') (hE : Eq1 σ μ) : Eq1 σ' μ := by
  intro q hq i
  rw [← hE q hq i]
  have : eqF.all (fun q => decide (¬ (78 ≤ q.1 ∧ q.1 ≤ 94)) && decide (¬ (144 ≤ q.1 ∧ q.1 ≤ 146))) = true := by decide
  have := List.all_eq_true.mp this q hq
  simp only [Bool.and_eq_true, decide_eq_true_eq] at this
  exact h.1 _ _ _ _ (fun z => this.1 ⟨z.1, z.2.1⟩) (fun z => this.2 ⟨z.1, z.2.1⟩)
theorem WfX.law {v p v' n : Nat} {TC : Nat → List Cl} {fr to : Nat → Int32} {σ σ' : St} (h : WfX v p σ σ') (hL : LawX v' TC fr to n σ) : LawX v' TC fr to n σ' := by
  intro d hd
  obtain ⟨s, s1, s2, s3⟩ := hL d hd
  have o : ∀ f a b i, f < 78 → σ'.1 f a b i = σ.1 f a b i := fun f a b i q => h.1 f a b i (fun z => by omega) (fun z => by omega)
  exact ⟨s, s1, (o _ _ _ _ (by decide)).trans s2, s3.mv (fun f b i q1 q2 => o f v' b i (by omega))⟩
theorem WfX.tx {v p n : Nat} {TC : Nat → List Cl} {fr to : Nat → Int32} {σ σ' : St} (h : WfX v p σ σ') (hT : TxX TC fr to n σ) : TxX TC fr to n σ' := hT.mv (fun f a b i q1 q2 => h.1 f a b i (fun z => by omega) (fun z => by omega))
theorem EX.mk {v p n k : Nat} {TC : Nat → List Cl} {σ μ : St} (hE : Eq1 σ μ) (hL : LawX v (TCn TC n) (frM μ) (toM μ) n σ) (hT : TxX (TCn TC n) (frM μ) (toM μ) n σ) (hn : n ≤ 17) (hp : p < 20) (hper : σ.1 74 v p 0 = nI p) (hs : ∀ w, w < 156 → σ.1 80 v p w = stOf μ p k w) : EX v p n (ENM μ TC p n k) σ :=
  ⟨hL, ⟨frM μ, toM μ, hT, fun _ _ => rfl⟩, hn, hp, hper, hE.at (g := 212) p (by decide), hE.at (g := 211) p (by decide), hE.at (g := 214) p (by decide), hs⟩
theorem miles_c {N a b : Nat} {σ σ' μ : St} (hE : Eq1 σ μ) (hR : Rng μ) (ha : a < 8) (hb : b < 8) (h : ∀ f a b i, f < 78 → σ'.1 f a b i = σ.1 f a b i) : fLand_miles N (nI a) (nI b) σ' = some (nI (mi μ a b).toNat) := by
  have e : fLand_miles N (nI a) (nI b) σ' = fLand_miles N (nI a) (nI b) σ := by
    unfold fLand_miles
    rw [h _ _ _ _ (by decide), h _ _ _ _ (by decide), h _ _ _ _ (by decide), h _ _ _ _ (by decide)]
    rfl
  obtain ⟨n, n1, n2, n3⟩ := e_milesM (N := N) hR ha hb
  rw [e, e_milesX hE hR ha hb, n3, ← n1, Int.toNat_natCast]
theorem EvX.mk {N v p k e : Nat} {σ μ : St} (hE : Eq1 σ μ) (hR : Rng μ) (hI : EvI μ) (he : e < cnM μ) (h8 : kdM μ e ≠ 8) (hc : σ.1 145 v 0 e = clr (cnM μ) (peM μ) (kdM μ) (nuM μ) (kwM μ k) p e) : EvX N v p (EVM μ p k) (dyM μ) e σ := by
  obtain ⟨nc, c1, c2, c3, c4, c5⟩ := hR.n (g := 218) (lo := 0) (hi := 160) 0 (by decide) (by decide)
  obtain ⟨nd, d1, d2, d3, d4, d5⟩ := hR.n (g := 232) (lo := 0) (hi := 935) e (by decide) (by decide)
  obtain ⟨nk, k1, k2, k3, k4, k5⟩ := hR.n (g := 229) (lo := 0) (hi := 8) e (by decide) (by decide)
  have hcn : cnM μ = nc := by unfold cnM; rw [c1, c3]
  have hdy : dyM μ e = nd := by unfold dyM; rw [d1, d3]
  obtain ⟨-, -, -, -, i7⟩ := hI e he
  refine ⟨by omega, rfl, hE.at (g := 229) e (by decide), hE.at (g := 231) e (by decide), hc, ?_, by omega, ⟨nk, ?_, k1⟩, fun h7 => ?_⟩
  · rw [hE.at (g := 232) e (by decide), d1, hdy]
  · have : nk ≠ 8 := fun z => h8 (by unfold kdM; rw [k1, z]; rfl)
    omega
  · obtain ⟨o, o1, o2⟩ := i7 h7
    obtain ⟨m, m1, m2, m3, m4, m5⟩ := hR.n (g := 317) (lo := 0) (hi := 60) 0 (by decide) (by decide)
    obtain ⟨w, w1, w2, w3, w4, w5⟩ := hR.n (g := 326) (lo := 0) (hi := 23) o (by decide) (by decide)
    obtain ⟨a, a1, a2, a3, a4, a5⟩ := hR.n (g := 213) (lo := 0) (hi := 7) p (by decide) (by decide)
    obtain ⟨b, b1, b2, b3, b4, b5⟩ := hR.n (g := 318) (lo := 0) (hi := 7) w (by decide) (by decide)
    rw [m1, m3] at o2
    have en : (EVM μ p k e).n = nI o := o1
    have eo : ofM μ p e = ofW μ p o w := by
      unfold ofM
      rw [if_pos (show kdM μ e = 7 from h7), o1, nI_clamp (by omega), w1, w3]
    refine ⟨o, m, w, o2, by omega, by omega, en, ?_, ?_, ?_, fun σ' hσ => ?_, ?_, ?_⟩
    · rw [hE.at (g := 317) 0 (by decide), m1]
    · rw [hE.at (g := 325) o (by decide), hE.at (g := 327) o (by decide)]
      show (ofM μ p e).1 = _
      rw [eo]
      rfl
    · rw [hE.at (g := 326) o (by decide), w1]
    · rw [hE.at (g := 213) p (by decide), hE.at (g := 318) w (by decide), a1, b1, miles_c hE hR (by omega) (by omega) hσ]
      show _ = some (ofM μ p e).2.1
      rw [eo]
      unfold ofW
      rw [a1, b1, a3, b3]
    · rw [hE.at (g := 320) w (by decide)]
      show _ = (ofM μ p e).2.2.1
      rw [eo]
      rfl
    · rw [hE.at (g := 319) w (by decide), hE.at (g := 211) p (by decide)]
      show (ofM μ p e).2.2.2 = _
      rw [eo]
      rfl
theorem BX.mk {k : Nat} {σ μ : St} (hE : Eq1 σ μ) (hR : Rng μ) : BX (cnM μ) k (peM μ) (dyM μ) (kdM μ) (nuM μ) (kwM μ k) σ := by
  obtain ⟨nc, c1, c2, c3, c4, c5⟩ := hR.n (g := 218) (lo := 0) (hi := 160) 0 (by decide) (by decide)
  have hcn : cnM μ = nc := by unfold cnM; rw [c1, c3]
  refine ⟨?_, by omega, fun e he => ?_⟩
  · rw [hE.at (g := 218) 0 (by decide), c1, hcn]
  · obtain ⟨nd, d1, d2, d3, d4, d5⟩ := hR.n (g := 232) (lo := 0) (hi := 935) e (by decide) (by decide)
    obtain ⟨np, p1, p2, p3, p4, p5⟩ := hR.n (g := 230) (lo := 0) (hi := 19) e (by decide) (by decide)
    have hdy : dyM μ e = nd := by unfold dyM; rw [d1, d3]
    have hpe : peM μ e = np := by unfold peM; rw [p1, p3]
    refine ⟨?_, by omega, hE.at (g := 229) e (by decide), hE.at (g := 231) e (by decide), ?_, by omega, ?_⟩
    · rw [hE.at (g := 230) e (by decide), p1, hpe]
    · rw [hE.at (g := 232) e (by decide), d1, hdy]
    · rw [hE.at (g := 233) e (by decide), hE.at (g := 234) e (by decide)]
      rfl
