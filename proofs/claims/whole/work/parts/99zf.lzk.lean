/-! a case's delay, a person's values -/
theorem step_caseOf {N : Nat} {σ μ : St} (hN : 4000 ≤ N) (h : Inv σ μ) (a1 a2 : Int32) : StQ (fX_caseOf N a1 a2 σ) (fM_caseOf N a1 a2 μ) := by
  obtain ⟨TC, tp, h0⟩ := h
  have c0 := h0.rg.cns
  have hc0 := c0.c
  by_cases c6 : a2 ≠ 7 ∨ ¬ (0 ≤ a1.toInt ∧ a1.toInt < (μ.1 338 0 0 0).toInt)
  · obtain ⟨q, b, μ', e1, e2, e3⟩ := e_caseOf (N := N) h0.eq h0.rg (fun c i hc hl hi => h0.ot.b i (by
      have := (nI_eq (a := csN μ) (b := c) (by omega) (by omega)).mp (hc0.1.symm.trans hc)
      omega)) a1 a2 c6
    rw [e1, e2]
    exact e3.st h0
  · have c2 : a2 = 7 := Classical.byContradiction fun q => c6 (Or.inl q)
    have c1 : 0 ≤ a1.toInt ∧ a1.toInt < (μ.1 338 0 0 0).toInt := Classical.byContradiction fun q => c6 (Or.inr q)
    obtain ⟨ν, hν⟩ : ∃ ν, ν = sI μ 204 0 0 0 0 := ⟨_, rfl⟩
    have h : InvB TC tp σ ν := by rw [hν]; exact h0.code
    have hc : ν.1 204 0 0 0 = 0 := by rw [hν, sI_s]
    have c := h.rg.cns
    have hd := c.d
    have hC := c.c
    obtain ⟨j, hj, rfl⟩ : ∃ j, j < csN ν ∧ a1 = nI j := by
      obtain ⟨j, rfl, j2, -⟩ := argN c1.1
      have hm : μ.1 338 0 0 0 = nI (csN ν) := by
        rw [← hC.1, hν]
        exact (sI_o (by decide)).symm
      rw [hm, j2, nI_toInt (n := csN ν) (by omega)] at c1
      exact ⟨j, by omega, rfl⟩
    obtain ⟨w, w1, w2, w3, w4, w5⟩ := h.rg.n (g := 343) (lo := 0) (hi := 935) j (by decide) (by decide)
    have e36 : σ.1 36 0 0 0 = nI (csN ν) := (h.eq.at (f := 36) 0 (by decide)).trans hC.1
    have e32 : σ.1 32 0 0 j = nI w := (h.eq.at (f := 32) j (by decide)).trans w1
    have e34 : σ.1 34 0 0 j = ν.1 345 0 0 j := h.eq.at (f := 34) j (by decide)
    have e162 : σ.1 162 0 0 0 = nI (tdN ν) := (h.eq.at (f := 162) 0 (by decide)).trans hd.1
    obtain ⟨n, n1, n2, n3, n4, n5⟩ := h.tx.tk h.rg (tdN ν)
    have en : n = nT ν := n5 rfl
    obtain ⟨σ1, b1, b2, b3, b4, b5, -⟩ := asOfToday_e hN h
    obtain ⟨μ2, t1, t2, t3, t4⟩ := tellLaw_I (d := w) hN h n1 n4
    have hc2 : μ2.1 204 0 0 0 = 0 := (t2.law (by decide)).trans hc
    have hI : Inv σ1 μ2 := ⟨TC, tp, b5.sc (fun f a b i q q2 => t2.law (by omega)) (fun f a b i _ => by rw [t2.2])⟩
    rw [← en] at b4
    have xl : ∀ s, fX_isLate_39 N (nI w) s σ = if s - nI w ≤ (shOf (TCn TC n) (frM ν) (toM ν) n w).par 7 then some (0, σ1) else some (1, σ1) := fun s => by
      unfold fX_isLate_39
      rw [b1, bnd_e, show (7 : Int32) = nI 7 from rfl, par_X b4.2.1 (by decide) (by omega), bn1_e]
    have ml : ∀ s, fM_isLate_37 N (nI j) s μ2 = if s - nI w ≤ (shOf (TCn TC n) (frM ν) (toM ν) n w).par 7 then some (0, μ2) else some (1, μ2) := fun s => by
      unfold fM_isLate_37
      rw [chk_t (inb_n (by omega) (by decide)), nI_clamp (by omega), show μ2.1 343 0 0 j = nI w from (t2.law (by decide)).trans w1, show (7 : Int32) = nI 7 from rfl, par_N t3 (by decide), bn1_e]
    have fin : ∀ s, StQ (bnd (fX_isLate_39 N (nI w) s σ) fun r1 σ2 => if r1 = 0 then some (some 0, σ2) else some (some 1, σ2)) (bnd (fM_isLate_37 N (nI j) s μ2) fun r2 σ3 => if r2 = 0 then some (0, σ3) else some (1, σ3)) := fun s => by
      rw [xl, ml]
      by_cases z : s - nI w ≤ (shOf (TCn TC n) (frM ν) (toM ν) n w).par 7
      · rw [if_pos z, if_pos z, bnd_e, bnd_e, if_pos rfl, if_pos rfl]
        exact StQ.ok hI hc2 rfl
      · rw [if_neg z, if_neg z, bnd_e, bnd_e, if_neg (by decide), if_neg (by decide)]
        exact StQ.ok hI hc2 rfl
    have xx : fX_isLate N (nI j) σ = if ν.1 345 0 0 j = -1 then fX_isLate_39 N (nI w) (nI (tdN ν)) σ else fX_isLate_39 N (nI w) (ν.1 345 0 0 j) σ := by
      unfold fX_isLate
      rw [chk_t (inb_n (by omega) (by decide)), nI_clamp (by omega), nmx, e32, e34, e162]
    have mm : fM_isLate N (nI j) ν = if ν.1 345 0 0 j = -1 then fM_isLate_37 N (nI j) (nI (tdN ν)) μ2 else fM_isLate_37 N (nI j) (ν.1 345 0 0 j) μ2 := by
      unfold fM_isLate
      rw [chk_t (inb_n (by omega) (by decide)), nI_clamp (by omega), show ν.1 343 0 0 j = nI w from w1, show ν.1 205 0 0 0 = nI (tdN ν) from hd.1, t1, bn1_e, show μ2.1 345 0 0 j = ν.1 345 0 0 j from t2.law (by decide), show μ2.1 205 0 0 0 = nI (tdN ν) from (t2.law (by decide)).trans hd.1]
    unfold fX_caseOf fM_caseOf
    rw [nmx, ← hν, reqE_e, e36, btR_i, if_neg (show ¬ (nI j < 0 ∨ nI (csN ν) ≤ nI j) from fun z => z.elim (nI_pos (by omega)) (nI_ge hj (by omega))), c2, if_neg (show ¬ (7 : Int32) = 0 by decide), if_neg (show ¬ (7 : Int32) = 1 by decide), if_neg (show ¬ (7 : Int32) = 2 by decide), if_neg (show ¬ (7 : Int32) = 3 by decide), if_neg (show ¬ (7 : Int32) = 4 by decide), if_neg (show ¬ (7 : Int32) = 5 by decide), if_neg (show ¬ (7 : Int32) = 6 by decide), if_pos (rfl : (7 : Int32) = 7), if_neg (show ¬ nI j < 0 from nI_pos (by omega)), show ν.1 338 0 0 0 = nI (csN ν) from hC.1, if_pos (show nI j < nI (csN ν) from nI_lt hj (by omega)), if_neg (show ¬ (7 : Int32) = 0 by decide), if_neg (show ¬ (7 : Int32) = 1 by decide), if_neg (show ¬ (7 : Int32) = 2 by decide), if_neg (show ¬ (7 : Int32) = 3 by decide), if_neg (show ¬ (7 : Int32) = 4 by decide), if_neg (show ¬ (7 : Int32) = 5 by decide), if_neg (show ¬ (7 : Int32) = 6 by decide), if_pos (rfl : (7 : Int32) = 7), xx, mm]
    by_cases z : ν.1 345 0 0 j = -1
    · rw [if_pos z, if_pos z]
      exact fin _
    · rw [if_neg z, if_neg z]
      exact fin _
/-- the reference is brought to today -/
abbrev NwI (n : Nat) (TC : Nat → List Cl) (tp : Nat → Nat) (σ μ μ' : St) : Prop := (InvB TC tp σ μ') ∧ (RnX μ μ') ∧ (RunOK (nP μ) n (tdN μ) TC μ') ∧ (μ'.1 269 0 0 0 = nI (tdN μ)) ∧ (ShM (TCn TC n) (shOf (TCn TC n) (frM μ) (toM μ) n (tdN μ)) μ') ∧ (μ'.1 270 0 0 0 = 0 ∧ μ'.1 271 0 0 0 = 0 ∧ μ'.1 272 0 0 0 = 0)
theorem NwI.i {n : Nat} {TC : Nat → List Cl} {tp : Nat → Nat} {σ μ μ' : St} (h : NwI n TC tp σ μ μ') : InvB TC tp σ μ' := h.1
theorem NwI.x {n : Nat} {TC : Nat → List Cl} {tp : Nat → Nat} {σ μ μ' : St} (h : NwI n TC tp σ μ μ') : RnX μ μ' := h.2.1
theorem NwI.r {n : Nat} {TC : Nat → List Cl} {tp : Nat → Nat} {σ μ μ' : St} (h : NwI n TC tp σ μ μ') : RunOK (nP μ) n (tdN μ) TC μ' := h.2.2.1
theorem NwI.n {n : Nat} {TC : Nat → List Cl} {tp : Nat → Nat} {σ μ μ' : St} (h : NwI n TC tp σ μ μ') : μ'.1 269 0 0 0 = nI (tdN μ) := h.2.2.2.1
theorem NwI.s {n : Nat} {TC : Nat → List Cl} {tp : Nat → Nat} {σ μ μ' : St} (h : NwI n TC tp σ μ μ') : ShM (TCn TC n) (shOf (TCn TC n) (frM μ) (toM μ) n (tdN μ)) μ' := h.2.2.2.2.1
theorem NwI.o {n : Nat} {TC : Nat → List Cl} {tp : Nat → Nat} {σ μ μ' : St} (h : NwI n TC tp σ μ μ') : μ'.1 270 0 0 0 = 0 ∧ μ'.1 271 0 0 0 = 0 ∧ μ'.1 272 0 0 0 = 0 := h.2.2.2.2.2
theorem nowToday_e {N : Nat} {TC : Nat → List Cl} {tp : Nat → Nat} {σ μ : St} (hN : 4000 ≤ N) (h : InvB TC tp σ μ) : ∃ μ', fM_nowToday N μ = some μ' ∧ NwI (nT μ) TC tp σ μ μ' := by
  have c := h.rg.cns
  have hd := c.d
  obtain ⟨n, n1, n2, n3, n4, n5⟩ := h.tx.tk h.rg (tdN μ)
  have en : n = nT μ := n5 rfl
  rw [en] at n1 n4
  obtain ⟨μ1, a1, a2, a3, a4⟩ := know_I hN h hd.2.1 (by omega) n1 n4
  have e205 : μ1.1 205 0 0 0 = nI (tdN μ) := (a2.at (by decide)).trans hd.1
  obtain ⟨μ2, hμ2⟩ : ∃ μ2, μ2 = sI μ1 269 0 0 0 (nI (tdN μ)) := ⟨_, rfl⟩
  have i2 : InvB TC tp σ μ2 := a4.sc (fun f a b i q _ => by rw [hμ2, sI_o (by omega)]) (fun f a b i _ => by rw [hμ2]; rfl)
  have eT : nT μ2 = nT μ := by
    unfold nT
    rw [hμ2, sI_o (by decide), a2.at (by decide)]
  have x2 : RnX μ μ2 := a2.tr (by rw [hμ2]; exact RnX.s (by decide))
  obtain ⟨μ3, t1, t2, t3, t4⟩ := tellLaw_I (n := nT μ) (d := tdN μ) hN i2 (by omega) (n4.mv (fun f i q => x2.at (by omega)))
  have fr : frM μ2 = frM μ := funext fun t => by unfold frM; rw [x2.at (by decide)]
  have to : toM μ2 = toM μ := funext fun t => by unfold toM; rw [x2.at (by decide)]
  rw [fr, to] at t3
  obtain ⟨μ4, hμ4⟩ : ∃ μ4, μ4 = sI (sI (sI μ3 270 0 0 0 0) 271 0 0 0 0) 272 0 0 0 0 := ⟨_, rfl⟩
  have l4 : ∀ f a b i, ¬ (270 ≤ f ∧ f ≤ 272) → μ4.1 f a b i = μ3.1 f a b i := fun f a b i q => by rw [hμ4, sI_o (by omega), sI_o (by omega), sI_o (by omega)]
  have x4 : RnX μ2 μ4 := ⟨fun f a b i q => (l4 f a b i (by omega)).trans (t2.law (by omega)), fun f a b i _ _ _ => by rw [hμ4]; exact congrFun (congrFun (congrFun (congrFun t2.2 f) a) b) i⟩
  refine ⟨μ4, ?_, t4.sc (fun f a b i q _ => l4 f a b i (by omega)) (fun f a b i _ => by rw [hμ4]; rfl), x2.tr x4, ?_, ?_, t3.mv2 (fun f i q1 q2 => l4 f 0 0 i (by omega)), ⟨?_, ?_, ?_⟩⟩
  · unfold fM_nowToday fM_noOffer
    rw [show μ.1 205 0 0 0 = nI (tdN μ) from hd.1, a1, bn1_e, e205, nmx, ← hμ2, show μ2.1 205 0 0 0 = nI (tdN μ) from (x2.at (by decide)).trans hd.1, t1, bn1_e, nmx, nmx, nmx, bn1_e, hμ4]
  · refine a3.mv (by omega) ?_ (fun f i q => ?_) (fun f i q => ?_)
    · exact RnX.sm (μ := μ1) ((by rw [hμ2]; exact RnX.s (by decide) : RnX μ1 μ2).tr x4)
    · rw [l4 f 0 0 i (by omega), t2.law (by omega), hμ2, sI_o (by omega)]
    · rw [hμ4, hμ2] at *
      exact congrFun (congrFun (congrFun (congrFun t2.2 f) 0) 0) i
  · rw [l4 _ _ _ _ (by decide), t2.law (by decide), hμ2, sI_s]
  · rw [hμ4, sI_o (by decide), sI_o (by decide), sI_s]
  · rw [hμ4, sI_o (by decide), sI_s]
  · rw [hμ4, sI_s]
