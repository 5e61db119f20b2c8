/-! insured, refuses: in the reference -/
theorem ins_last (TC : Nat → List Cl) : ∀ (R : List Nat) (x : Option (Nat × Cl)), R.foldl (iT TC) (match x with | none => 0 | some y => nI y.2.one) = (match R.foldl (lT TC 0) x with | none => 0 | some y => nI y.2.one)
  | [], _ => rfl
  | t :: R, x => by
    rw [List.foldl_cons, List.foldl_cons, ← ins_last TC R]
    congr 1
    unfold iT lT
    cases lst (isW 0) (TC t) with
    | none => rfl
    | some c => rfl
theorem insured_M {N n p d : Nat} {E : Env} {fr to : Nat → Int32} {μ : St} (h : Cx N n p d E fr to μ) : fM_isInsured N E.trade μ = some (if insD E d = true then 1 else 0) := by
  have hi : (E.sh d).ins = (match (E.sh d).last 0 with | none => 0 | some y => nI y.2.one) := by
    rw [h.sh]
    exact ins_last E.TC (forR fr to (nI d) n) none
  unfold fM_isInsured insD
  rw [nmx]
  rcases lawC_e h.sh h.h (show 0 < 7 by decide) with ⟨a, b⟩ | ⟨t, c, i, a, b0, b1, b2, b3, b4, b5⟩
  · rw [show μ.1 264 0 0 0 = -1 from b, if_pos rfl, hi, a]
    dsimp only
    rw [show ((0 : Int32) >>> (E.trade &&& 31)) &&& 1 = 0 from by
      have : (0 : Int32) >>> (E.trade &&& 31) = 0 := by
        apply Int32.toBitVec_inj.mp
        rw [Int32.toBitVec_shiftRight]
        exact BitVec.zero_sshiftRight
      rw [this]
      rfl]
    rfl
  · have hl := h.l
    obtain ⟨k1, k2⟩ := (h.t t b0).2.2 i c b3
    rw [show μ.1 264 0 0 0 = _ from b4, if_neg (m1_ne (by omega)), chk_t (inb_n (by omega) (by decide)), nI_clamp (by omega), show μ.1 240 0 0 (24 * t + i) = nI c.one from k2.2.1 b5, hi, a]
    dsimp only
    by_cases z : (nI c.one >>> (E.trade &&& 31)) &&& 1 = 1
    · rw [if_pos z, if_pos (decide_eq_true z)]
    · rw [if_neg z, if_neg (fun q => z (of_decide_eq_true q))]
/-- an offer as the reference has it -/
def OfM (N p : Nat) (e : Ev) (μ : St) : Prop := ∃ o w, o < 60 ∧ w < 24 ∧ e.n = nI o ∧ e.ok = (if μ.1 325 0 0 o = nI p then (if μ.1 324 0 0 o = 0 then 0 else 1) else 0) ∧ μ.1 326 0 0 o = nI w ∧ (∀ μ' : St, (∀ f i, f < 260 ∨ 308 < f → μ'.1 f 0 0 i = μ.1 f 0 0 i) → fM_milesOf N (μ.1 213 0 0 p) (μ.1 318 0 0 w) μ' = some e.o.1) ∧ μ.1 320 0 0 w = e.o.2.1 ∧ e.o.2.2 = if μ.1 319 0 0 w = μ.1 211 0 0 p then 1 else 0
theorem OfM.mv {N p : Nat} {e : Ev} {μ μ' : St} (h : OfM N p e μ) (hm : ∀ f i, f < 260 ∨ 308 < f → μ'.1 f 0 0 i = μ.1 f 0 0 i) : OfM N p e μ' := by
  obtain ⟨o, w, h1, h2, h3, h4, h5, h6, h7, h8⟩ := h
  exact ⟨o, w, h1, h2, h3, by rw [hm _ _ (by decide), hm _ _ (by decide)]; exact h4, (hm _ _ (by decide)).trans h5, fun μ2 q => by rw [hm _ _ (by decide), hm _ _ (by decide)]; exact h6 μ2 (fun f i z => (q f i z).trans (hm f i z)), (hm _ _ (by decide)).trans h7, by rw [hm _ _ (by decide), hm _ _ (by decide)]; exact h8⟩
theorem takeUp_M {N p w : Nat} {o : Ofr} {μ : St} (hp : p < 20) (hw : w < 24) (h6 : fM_milesOf N (μ.1 213 0 0 p) (μ.1 318 0 0 w) μ = some o.1) (h7 : μ.1 320 0 0 w = o.2.1) (h8 : o.2.2 = if μ.1 319 0 0 w = μ.1 211 0 0 p then 1 else 0) : fM_takeUp N (nI p) (nI w) μ = some (sI (sI (sI μ 270 0 0 0 o.1) 271 0 0 0 o.2.1) 272 0 0 0 o.2.2) := by
  unfold fM_takeUp fM_takeUp_51
  rw [chk_t (inb_n hp (by decide)), chk_t (inb_n hw (by decide)), nI_clamp (by omega), nI_clamp (by omega), show fM_milesOf N (μ.1 213 0 0 p) (μ.1 318 0 0 w) μ = some o.1 from h6, bn1_e, nmx]
  have e1 : (sI μ 270 0 0 0 o.1).1 320 0 0 w = o.2.1 := (sI_o (by decide)).trans h7
  have e2 : (sI (sI μ 270 0 0 0 o.1) 271 0 0 0 o.2.1).1 319 0 0 w = μ.1 319 0 0 w := (sI_o (by decide)).trans (sI_o (by decide))
  have e3 : (sI (sI μ 270 0 0 0 o.1) 271 0 0 0 o.2.1).1 211 0 0 p = μ.1 211 0 0 p := (sI_o (by decide)).trans (sI_o (by decide))
  rw [e1, nmx, e2, e3, h8]
  by_cases z : μ.1 319 0 0 w = μ.1 211 0 0 p
  · rw [if_pos z, if_pos z, nmx]
  · rw [if_neg z, if_neg z, nmx]
theorem vO_0 {E : Env} {d : Nat} {s : Lfe} {μ : St} (h1 : μ.1 270 0 0 0 = 0) (h2 : μ.1 271 0 0 0 = 0) (h3 : μ.1 272 0 0 0 = 0) : ∀ k, k < 20 → vO (vS E d s) μ k = vS E d s k := by
  intro k hk
  unfold vO
  by_cases c1 : k = 17
  · subst c1
    rw [if_pos rfl, h1]
    rfl
  · by_cases c2 : k = 18
    · subst c2
      rw [if_neg c1, if_pos rfl, h2]
      rfl
    · by_cases c3 : k = 19
      · subst c3
        rw [if_neg c1, if_neg c2, if_pos rfl, h3]
        rfl
      · rw [if_neg c1, if_neg c2, if_neg c3]
theorem vO_7 {E : Env} {d : Nat} {s : Lfe} {o : Ofr} {μ : St} (h1 : μ.1 270 0 0 0 = o.1) (h2 : μ.1 271 0 0 0 = o.2.1) (h3 : μ.1 272 0 0 0 = o.2.2) : ∀ k, k < 20 → vO (vS E d (uL s 92 0 4)) μ k = vR (v4 (vS E d s)) o k := by
  intro k hk
  unfold vO vR
  rw [h1, h2, h3]
  by_cases c1 : k = 17
  · rw [if_pos c1, if_pos c1]
  · rw [if_neg c1, if_neg c1]
    by_cases c2 : k = 18
    · rw [if_pos c2, if_pos c2]
    · rw [if_neg c2, if_neg c2]
      by_cases c3 : k = 19
      · rw [if_pos c3, if_pos c3]
      · rw [if_neg c3, if_neg c3]
        unfold v4
        by_cases c4 : k = 16
        · subst c4
          rfl
        · rw [if_neg c4]
          have so : ∀ f i, f ≠ 92 → (uL s 92 0 4) f i = s f i := fun f i q => uL_o q
          have er : rw_ (uL s 92 0 4) = rw_ s := by
            unfold rw_
            rw [so _ _ (by decide)]
          unfold vS
          rw [er, so _ _ (by decide), so _ _ (by decide), so _ _ (by decide), so _ _ (by decide), so _ _ (by decide), so _ _ (by decide), so _ _ (by decide), so _ _ (by decide), so _ _ (by decide), so _ _ (by decide), if_neg c4, if_neg c4]
theorem refuses_M {N n p d nc nb e : Nat} {E : Env} {fr to : Nat → Int32} {ev : Ev} {μ : St} {s : Lfe} {o w : Nat} (hN : 1000 ≤ N) (h : Cx N n p d E fr to μ) (hA : RfA p d μ s nc nb) (hwho : μ.1 268 0 0 0 = nI p) (he : e < 160) (hb : nb < 160) (hec : μ.1 278 0 0 e = ev.cl) (ho : o < 60) (hw : w < 24) (h5 : μ.1 326 0 0 o = nI w) (h6 : ∀ μ' : St, (∀ f i, f < 260 ∨ 308 < f → μ'.1 f 0 0 i = μ.1 f 0 0 i) → fM_milesOf N (μ.1 213 0 0 p) (μ.1 318 0 0 w) μ' = some ev.o.1) (h7 : μ.1 320 0 0 w = ev.o.2.1) (h8 : ev.o.2.2 = if μ.1 319 0 0 w = μ.1 211 0 0 p then 1 else 0) : ∃ μ' nb', fM_refuses N (nI p) (nI o) (nI e) μ = some μ' ∧ PnX p nc nc nb nb' μ μ' ∧ nb' ≤ nb + 1 ∧ RfA p d μ' (if ev.cl = 0 then sBar E d (vR (v4 (vS E d s)) ev.o) s else s) nc nb' := by
  have hp := h.p
  have hd := h.d2
  obtain ⟨ρ, hρ⟩ : ∃ ρ, ρ = sI μ 283 0 0 p 4 := ⟨_, rfl⟩
  obtain ⟨τ, hτ⟩ : ∃ τ, τ = sI (sI (sI ρ 270 0 0 0 ev.o.1) 271 0 0 0 ev.o.2.1) 272 0 0 0 ev.o.2.2 := ⟨_, rfl⟩
  have fρ : ∀ f i, f ≠ 283 → ρ.1 f 0 0 i = μ.1 f 0 0 i := fun f i q => by rw [hρ, sI_o q]
  have fτ : ∀ f i, f ≠ 283 → ¬ (270 ≤ f ∧ f ≤ 272) → τ.1 f 0 0 i = μ.1 f 0 0 i := fun f i q q2 => by rw [hτ, sI_o (by omega), sI_o (by omega), sI_o (by omega), fρ f i q]
  have pτ : PnX p nc nc nb nb μ τ := by
    rw [hτ, hρ]
    exact (((PnX.s (by decide)).tr (PnX.g (by decide))).tr (PnX.g (by decide))).tr (PnX.g (by decide))
  have Aτ : RfA p d τ (uL s 92 0 4) nc nb := by
    have : RfA p d ρ (uL s 92 0 4) nc nb := by
      rw [hρ]
      exact RfA.set (by decide) (by omega) hA
    refine this.g (by omega) (fun f i q => ?_) (fun f i _ => by rw [hτ]; rfl)
    rw [hτ, sI_o (by omega), sI_o (by omega), sI_o (by omega)]
  have vm := (Cx.vm (by omega) (h.pn pτ) Aτ ((fτ _ _ (by decide) (by decide)).trans hwho)).congr (vO_7 (o := ev.o) (by rw [hτ, sI_o (by decide), sI_o (by decide), sI_s]) (by rw [hτ, sI_o (by decide), sI_s]) (by rw [hτ, sI_s]))
  obtain ⟨μ1, nb', i1, i2, i3, i4, i5⟩ := bar_A (e := e) hN (h.pn pτ) Aτ vm he hb
  rw [fτ _ _ (by decide) (by decide), hec] at i5
  obtain ⟨μ2, h2⟩ : ∃ μ2, μ2 = sI (sI (sI μ1 270 0 0 0 0) 271 0 0 0 0) 272 0 0 0 0 := ⟨_, rfl⟩
  have A2 : RfA p d μ2 (if ev.cl = 0 then sBar E d (vR (v4 (vS E d s)) ev.o) (uL s 92 0 4) else uL s 92 0 4) nc nb' := i5.g (by omega) (fun f i q => by rw [h2, sI_o (by omega), sI_o (by omega), sI_o (by omega)]) (fun f i _ => by rw [h2]; rfl)
  have A3 := RfA.set (g := 283) (f := 92) (x := μ.1 283 0 0 p) (by decide) (by omega) A2
  have hre : μ.1 283 0 0 p = s 92 0 := by
    obtain ⟨c, cm, a1, -⟩ := hA
    exact a1.re
  have es : uL (if ev.cl = 0 then sBar E d (vR (v4 (vS E d s)) ev.o) (uL s 92 0 4) else uL s 92 0 4) 92 0 (μ.1 283 0 0 p) = (if ev.cl = 0 then sBar E d (vR (v4 (vS E d s)) ev.o) s else s) := by
    rw [hre]
    funext f i
    by_cases z : f = 92 ∧ i = 0
    · rw [z.1, z.2, uL_s]
      split
      · unfold sBar
        rw [uL_o (by decide)]
      · rfl
    · have u : ∀ (t : Lfe) x, uL t 92 0 x f i = t f i := fun t x => if_neg z
      rw [u]
      split
      · unfold sBar
        rw [show (uL s 92 0 4) 90 0 = s 90 0 from uL_o (by decide)]
        show (if f = 90 ∧ i = 0 then _ else uL s 92 0 4 f i) = (if f = 90 ∧ i = 0 then _ else s f i)
        rw [u]
      · exact u _ _
  rw [es] at A3
  refine ⟨_, nb', ?_, ((pτ.tr i3).tr (by rw [h2]; exact ((PnX.g (by decide)).tr (PnX.g (by decide))).tr (PnX.g (by decide)))).tr (PnX.s (by decide)), i4, A3⟩
  unfold fM_refuses
  rw [chk_t (inb_n hp (by decide)), nI_clamp (n := p) (by omega), nmx, nmx, show sI μ 283 0 0 p 4 = ρ from hρ.symm, chk_t (inb_n ho (by decide)), nI_clamp (n := o) (by omega), show ρ.1 326 0 0 o = nI w from (fρ _ _ (by decide)).trans h5, takeUp_M (o := ev.o) hp hw (by rw [fρ _ _ (by decide), fρ _ _ (by decide)]; exact h6 ρ (fun f i q => fρ f i (by omega))) ((fρ _ _ (by decide)).trans h7) (by rw [fρ _ _ (by decide), fρ _ _ (by decide)]; exact h8), bn1_e, ← hτ, i1, bn1_e]
  unfold fM_noOffer
  rw [nmx, nmx, nmx, bn1_e, nmx, h2]
