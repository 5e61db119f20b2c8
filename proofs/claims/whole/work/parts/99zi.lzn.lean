/-! a pair's tests, on both sides -/
def oV (μ : St) (p w : Nat) : Ofr := (nI (mi μ (μ.1 213 0 0 p).toNatClampNeg (μ.1 318 0 0 w).toNatClampNeg).toNat, μ.1 320 0 0 w, if μ.1 319 0 0 w = μ.1 211 0 0 p then 1 else 0)
/-- what a pair's test comes to -/
def prR (μ : St) (TC : Nat → List Cl) (p w n : Nat) (s : Lfe) : Int32 := objS (TCn TC n) (vR (vS (ENM μ TC p n (tdN μ)) (tdN μ) s) (oV μ p w)) (shOf (TCn TC n) (frM μ) (toM μ) n (tdN μ))
theorem TxX.len {TC : Nat → List Cl} {fr to : Nat → Int32} {n : Nat} {σ : St} (h : TxX TC fr to n σ) {t : Nat} (ht : t < n) : (TC t).length ≤ 24 := (h t ht).2.2.1
theorem prR_r {μ : St} {TC : Nat → List Cl} {p w n : Nat} {s : Lfe} (h : ∀ t, t < n → (TCn TC n t).length ≤ 24) : prR μ TC p w n s = -1 ∨ ∃ j, j < 24 ∧ prR μ TC p w n s = nI j := by
  unfold prR objS
  cases e : (shOf (TCn TC n) (frM μ) (toM μ) n (tdN μ)).by with
  | none => exact Or.inl rfl
  | some t =>
    have e2 : (forR (frM μ) (toM μ) (nI (tdN μ)) n).foldl (sT (TCn TC n)) none = some t := e
    rw [by_foldl] at e2
    have htm : t ∈ (forR (frM μ) (toM μ) (nI (tdN μ)) n).reverse := fstBy_mem (TCn TC n) _ _ (by
      cases q : fstBy (TCn TC n) (forR (frM μ) (toM μ) (nI (tdN μ)) n).reverse with
      | none => rw [q] at e2; exact absurd e2 (by simp)
      | some u => rw [q] at e2; exact e2)
    have ht := forR_lt _ _ _ _ _ (List.mem_reverse.mp htm)
    have hl := suits_len (h t ht)
    rcases fst0_r (vR (vS (ENM μ TC p n (tdN μ)) (tdN μ) s) (oV μ p w)) (suitsOf (TCn TC n) t) 0 with q | ⟨j, j1, j2⟩
    · exact Or.inl q
    · exact Or.inr ⟨j, by omega, j2⟩
theorem EX.mv {v p n : Nat} {E : Env} {σ σ' : St} (h : EX v p n E σ) (hm : ∀ f a b i, f < 95 → σ'.1 f a b i = σ.1 f a b i) : EX v p n E σ' := by
  obtain ⟨h1, ⟨fr, to, h2, h3⟩, h4, h5, h6, h7, h8, h9, h10⟩ := h
  refine ⟨fun d hd => ?_, ⟨fr, to, h2.mv (fun f a b i q1 q2 => hm f a b i (by omega)), h3⟩, h4, h5, (hm _ _ _ _ (by decide)).trans h6, (hm _ _ _ _ (by decide)).trans h7, (hm _ _ _ _ (by decide)).trans h8, (hm _ _ _ _ (by decide)).trans h9, fun w hw => (hm _ _ _ _ (by decide)).trans (h10 w hw)⟩
  obtain ⟨s, s1, s2, s3⟩ := h1 d hd
  exact ⟨s, s1, (hm _ _ _ _ (by decide)).trans s2, s3.mv (fun f b i q1 q2 => hm f v b i (by omega))⟩
theorem pairX {N p w : Nat} {TC : Nat → List Cl} {tp : Nat → Nat} {σ0 σ μ μ' : St} {s : Lfe} (hN : 4000 ≤ N) (hR : Rng μ) (D0 : Tdy N p TC tp σ0 μ μ' s) (hp : p < 20) (hw : w < 24) (hE : Eq1 σ0 μ) (hx : ∀ f a b i, f < 103 → σ.1 f a b i = σ0.1 f a b i) : ∃ σ', fMarket_objectionTo N 0 p (nI w) (nI (tdN μ)) σ = some (prR μ TC p w (nT μ) s, σ') ∧ LfX 0 p σ σ' ∧ σ'.1 = σ.1 := by
  have c := hR.cns
  have hd := c.d
  have De : EX 0 p (nT μ) (ENM μ TC p (nT μ) (tdN μ)) σ := D0.e.mv (fun f a b i q => hx f a b i (by omega))
  have Ds : sl 0 p σ = s := by
    rw [← D0.s]
    exact sl_c (fun f i q => hx f 0 p i (by have := q.2; omega))
  obtain ⟨σ1, g1, g2, g3, g4⟩ := setOut_e (N := N) (by omega) De (by rw [Ds]; exact D0.l) hd.2.1 (show tdN μ < 936 by omega)
  rw [Ds] at g4
  obtain ⟨a, a1, a2, a3, a4, a5⟩ := hR.n (g := 213) (lo := 0) (hi := 7) p (by decide) (by decide)
  obtain ⟨b, b1, b2, b3, b4, b5⟩ := hR.n (g := 318) (lo := 0) (hi := 7) w (by decide) (by decide)
  have eo : (oV μ p w).1 = nI (mi μ a b).toNat := by
    unfold oV
    rw [a1, b1, a3, b3]
  obtain ⟨σ2, v1, v2, v3, v4⟩ := setVac_e (N := N) (v := 0) (p := p) (w := w) (a := 0) (o := oV μ p w) (σ := σ1) hp hw (by
    rw [g3, hx _ _ _ _ (by decide), hx _ _ _ _ (by decide), hE.at (g := 213) p (by decide), hE.at (g := 318) w (by decide), a1, b1, miles_c hE hR (by omega) (by omega) (fun f a b i q => by rw [g3]; exact hx f a b i (by omega)), eo]) (by rw [g3, hx _ _ _ _ (by decide), hE.at (g := 320) w (by decide)]; rfl) (by rw [g3, hx _ _ _ _ (by decide), hx _ _ _ _ (by decide), hE.at (g := 319) w (by decide), hE.at (g := 211) p (by decide)]; rfl) g4
  obtain ⟨σ3, w1, w2⟩ := objX (N := N) (by omega) (De.lf (g2.tr v2)) (show tdN μ < 936 by omega) v4
  have hper : σ1.1 74 0 p 0 = nI p := by
    rw [g3]
    exact De.2.2.2.2.1
  refine ⟨σ3, ?_, (g2.tr v2).tr w2.lf, w2.1.trans (v3.trans g3)⟩
  unfold fMarket_objectionTo
  rw [g1, bn1_e, hper, v1, bn1_e, w1, bnd_e]
  rfl
theorem pairM {N p w : Nat} {TC : Nat → List Cl} {tp : Nat → Nat} {σ μ μ' μ'' : St} {s : Lfe} (hN : 4000 ≤ N) (hR : Rng μ) (D : Tdy N p TC tp σ μ μ' s) (hp : p < 20) (hw : w < 24) (hT : TxM (TCn TC (nT μ)) (nT μ) μ) (hm : ∀ f i, f < 324 → f ≠ 268 → ¬ (270 ≤ f ∧ f ≤ 272) → μ''.1 f 0 0 i = μ'.1 f 0 0 i) : ∃ ρ, fM_failing N (nI p) (nI w) μ'' = some (prR μ TC p w (nT μ) s, ρ) ∧ (∀ f a b i, f ≠ 268 → ¬ (270 ≤ f ∧ f ≤ 272) → ρ.1 f a b i = μ''.1 f a b i) ∧ (∀ f a b i, f ≠ 267 → ρ.2 f a b i = μ''.2 f a b i) := by
  have c := hR.cns
  have hd := c.d
  have hTl := c.T.2
  obtain ⟨nc, nb, hA⟩ := D.a
  obtain ⟨a, a1, a2, a3, a4, a5⟩ := hR.n (g := 213) (lo := 0) (hi := 7) p (by decide) (by decide)
  obtain ⟨b, b1, b2, b3, b4, b5⟩ := hR.n (g := 318) (lo := 0) (hi := 7) w (by decide) (by decide)
  have lo : ∀ f i, (f < 260 ∨ (309 ≤ f ∧ f ≤ 323)) → μ''.1 f 0 0 i = μ.1 f 0 0 i := fun f i q => (hm f i (by omega) (by omega) (by omega)).trans (D.w.x.at (by omega))
  have hR2 : ∀ ρ : St, (∀ f i, f = 209 ∨ f = 210 → ρ.1 f 0 0 i = μ.1 f 0 0 i) → fM_milesOf N (nI a) (nI b) ρ = some (nI (mi μ a b).toNat) := by
    intro ρ hρ
    obtain ⟨x, x1, x2, x3⟩ := e_milesM (N := N) hR (show a < 8 by omega) (show b < 8 by omega)
    have e1 : fM_milesOf N (nI a) (nI b) ρ = fM_milesOf N (nI a) (nI b) μ := by
      unfold fM_milesOf
      rw [hρ 209 _ (Or.inl rfl), hρ 209 _ (Or.inl rfl), hρ 210 _ (Or.inr rfl), hρ 210 _ (Or.inr rfl)]
      rfl
    rw [e1, x3, ← x1]
    rfl
  obtain ⟨μ1, hμ1⟩ : ∃ μ1, μ1 = sI μ'' 268 0 0 0 (nI p) := ⟨_, rfl⟩
  have l1 : ∀ f i, f ≠ 268 → μ1.1 f 0 0 i = μ''.1 f 0 0 i := fun f i q => by rw [hμ1, sI_o q]
  have tk := takeUp_M (N := N) (p := p) (w := w) (o := oV μ p w) (μ := μ1) hp hw (by
    rw [l1 _ _ (by decide), l1 _ _ (by decide), lo _ _ (by decide), lo _ _ (by decide), a1, b1, hR2 μ1 (fun f i q => (l1 f i (by omega)).trans (lo f i (by omega)))]
    unfold oV
    rw [a1, b1, a3, b3]) (by rw [l1 _ _ (by decide), lo _ _ (by decide)]; rfl) (by rw [l1 _ _ (by decide), l1 _ _ (by decide), lo _ _ (by decide), lo _ _ (by decide)]; rfl)
  obtain ⟨μ2, hμ2⟩ : ∃ μ2, μ2 = sI (sI (sI μ1 270 0 0 0 (oV μ p w).1) 271 0 0 0 (oV μ p w).2.1) 272 0 0 0 (oV μ p w).2.2 := ⟨_, rfl⟩
  rw [← hμ2] at tk
  have l2 : ∀ f a b i, f ≠ 268 → ¬ (270 ≤ f ∧ f ≤ 272) → μ2.1 f a b i = μ''.1 f a b i := fun f a b i q q2 => by rw [hμ2, sI_o (by omega), sI_o (by omega), sI_o (by omega), hμ1, sI_o q]
  have y1 : μ2.1 270 0 0 0 = (oV μ p w).1 := by rw [hμ2, sI_o (by decide), sI_o (by decide), sI_s]
  have y2 : μ2.1 271 0 0 0 = (oV μ p w).2.1 := by rw [hμ2, sI_o (by decide), sI_s]
  have y3 : μ2.1 272 0 0 0 = (oV μ p w).2.2 := by rw [hμ2, sI_s]
  have hw2 : μ2.1 268 0 0 0 = nI p := by rw [hμ2, sI_o (by decide), sI_o (by decide), sI_o (by decide), hμ1, sI_s]
  have vm0 := now_vm hN hR (by omega) D.w hA hp (μ'' := μ2) (fun f i q0 q1 q2 => (l2 f 0 0 i q1 q2).trans (hm f i q0 q1 q2)) hw2
  have vm : VM N μ2 (vR (vS (ENM μ TC p (nT μ) (tdN μ)) (tdN μ) s) (oV μ p w)) := vm0.congr (fun k hk => by
    unfold vO vR
    rw [y1, y2, y3])
  obtain ⟨hr1, hr2, -, -, -⟩ := D.w.s
  have hr1' : Rep (fun i => μ2.1 262 0 0 i) (forR (frM μ) (toM μ) (nI (tdN μ)) (nT μ)) := Rep.eq _ (fun i _ => (l2 _ _ _ _ (by decide) (by decide)).trans (hm _ _ (by decide) (by decide) (by decide))) hr1
  have hlen : (forR (frM μ) (toM μ) (nI (tdN μ)) (nT μ)).length ≤ nT μ := forR_len _ _ _ _
  obtain ⟨μ3, f1, f2⟩ := failM_out (N := N) (by omega) (hT.mv (fun f i q1 q2 => (l2 f 0 0 i (by omega) (by omega)).trans (lo f i (by omega)))) (by omega) hr1' ((l2 _ _ _ _ (by decide) (by decide)).trans ((hm _ _ (by decide) (by decide) (by decide)).trans hr2)) (by omega) (fun t ht => forR_lt _ _ _ _ _ ht) vm (forR (frM μ) (toM μ) (nI (tdN μ)) (nT μ)).length 0 N μ2 (by omega) (by omega) Sk.rfl'
  refine ⟨noOff μ3, ?_, fun f a b i q1 q2 => ?_, fun f a b i q => ?_⟩
  · unfold fM_failing
    rw [nmx, ← hμ1, tk, bn1_e, show fM_failing_19 N N (-1) 0 0 μ2 = _ from f2, List.drop_zero]
    have : prR μ TC p w (nT μ) s = (match fstBy (TCn TC (nT μ)) (forR (frM μ) (toM μ) (nI (tdN μ)) (nT μ)).reverse with | none => -1 | some t => fst0 (vR (vS (ENM μ TC p (nT μ) (tdN μ)) (tdN μ) s) (oV μ p w)) (suitsOf (TCn TC (nT μ)) t) 0) := by
      unfold prR objS
      rw [show (shOf (TCn TC (nT μ)) (frM μ) (toM μ) (nT μ) (tdN μ)).by = (forR (frM μ) (toM μ) (nI (tdN μ)) (nT μ)).foldl (sT (TCn TC (nT μ))) none from rfl, by_foldl]
      cases fstBy (TCn TC (nT μ)) (forR (frM μ) (toM μ) (nI (tdN μ)) (nT μ)).reverse <;> rfl
    rw [this]
    rfl
  · unfold noOff
    rw [sI_o (by omega), sI_o (by omega), sI_o (by omega), f1.1, l2 f a b i q1 q2]
  · show μ3.2 f a b i = _
    rw [f1.2 f a b i q, hμ2, hμ1]
    rfl
