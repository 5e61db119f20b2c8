/-! a day asked of both -/
theorem asOfToday_e {N : Nat} {TC : Nat → List Cl} {tp : Nat → Nat} {σ μ : St} (hN : 4000 ≤ N) (h : InvB TC tp σ μ) : ∃ σ', fX_asOfToday N σ = some (0, σ') ∧ σ'.1 147 0 0 0 = nI (tdN μ) ∧ PrV 0 σ' ∧ RdV 0 (nT μ) TC σ' μ ∧ InvB TC tp σ' μ ∧ SvX 0 σ σ' := by
  have c := h.rg.cns
  obtain ⟨σ', a1, a2, a3, a4, a5, a6⟩ := settle_I (v := 0) (on := tdN μ) hN h (by decide) (Nat.le_refl (nT μ))
  refine ⟨σ', ?_, a3, a4, a5, a6, a2⟩
  unfold fX_asOfToday
  rw [show σ.1 162 0 0 0 = nI (tdN μ) from (h.eq.at (f := 162) 0 (by decide)).trans c.d.1, show σ.1 159 0 0 0 = nI (nT μ) from (h.eq.at (f := 159) 0 (by decide)).trans c.T.1, a1, bn1_e]
theorem asOfThe_e {N : Nat} {TC : Nat → List Cl} {tp : Nat → Nat} {σ μ : St} (hN : 4000 ≤ N) (h : InvB TC tp σ μ) : ∃ v n σ', fX_asOfTheDay N σ = some (v, σ') ∧ v < 2 ∧ n ≤ nT μ ∧ (v = 0 → kD μ = tdN μ) ∧ takes μ (nI (kD μ)) n ∧ σ'.1 147 v 0 0 = nI (kD μ) ∧ PrV v σ' ∧ RdV v n TC σ' μ ∧ InvB TC tp σ' μ ∧ SvX v σ σ' := by
  have c := h.rg.cns
  obtain ⟨k1, -, k3, k4⟩ := kD_e (N := N) h
  obtain ⟨n, n1, n2, n3, n4, n5⟩ := h.tx.tk h.rg (kD μ)
  have ed : σ.1 162 0 0 0 = nI (tdN μ) := (h.eq.at (f := 162) 0 (by decide)).trans c.d.1
  have eT : σ.1 159 0 0 0 = nI (nT μ) := (h.eq.at (f := 159) 0 (by decide)).trans c.T.1
  unfold fX_asOfTheDay
  rw [k1, bn1_e, ed]
  by_cases z : kD μ = tdN μ
  · obtain ⟨σ', a1, a3, a4, a5, a6, a7⟩ := asOfToday_e hN h
    have en := n5 z
    refine ⟨0, n, σ', ?_, by decide, n1, fun _ => z, n4, by rw [a3, z], a4, by rw [en]; exact a5, a6, a7⟩
    rw [if_pos (show nI (kD μ) = nI (tdN μ) by rw [z]), a1, bnd_e]
  · obtain ⟨σ', a1, a2, a3, a4, a5, a6⟩ := settle_I (v := 1) (on := kD μ) hN h (by decide) n1
    refine ⟨1, n, σ', ?_, by decide, n1, fun q => absurd q (by decide), n4, a3, a4, a5, a6, a2⟩
    have hT := c.T.2
    have hd := c.d
    have tl : fX_textsToldBy N (nI (kD μ)) σ = some (nI n) := by
      have := told_loop (N := N) (k := kD μ) (n := n) (σ := σ) eT c.T.2 (by omega) (fun t ht => by rw [h.tx.o t (by omega)]; exact n2 t ht) (fun t a b => by rw [h.tx.o t b]; exact n3 t a b) n1 (nT μ) 0 N (by omega) (by omega)
      rw [Nat.zero_min] at this
      exact this
    rw [if_neg (fun q => z ((nI_eq (by omega) (by omega)).mp q)), tl, bn1_e, a1, bn1_e]
/-- one of the people, asked for by number -/
theorem prs_e {x : Int32} {μ : St} (hR : Rng μ) (h : ¬ (x < 0 ∨ μ.1 208 0 0 0 ≤ x)) : ∃ p, p < nP μ ∧ x = nI p := by
  have c := hR.cns
  have hP := c.P.2
  rcases arg32 x with q | ⟨j, j1, rfl⟩
  · exact absurd (Or.inl q) h
  · refine ⟨j, ?_, rfl⟩
    refine Classical.byContradiction fun q => h (Or.inr ?_)
    rw [c.P.1]
    exact nI_le (by omega) (by omega)
/-- a life as both have it -/
abbrev Bth (v p k n : Nat) (TC : Nat → List Cl) (σ μ μ' : St) (s : Lfe) : Prop := (sl v p σ = s) ∧ (∃ nc nb, RfA p (k + 1) μ' s nc nb) ∧ (WL s) ∧ (∀ e, e < cnM μ → peM μ e = p → kdM μ e ≠ 8 → σ.1 144 v 0 e = μ'.1 277 0 0 e) ∧ (RunOK (nP μ) n k TC μ')
theorem Bth.s {v p k n : Nat} {TC : Nat → List Cl} {σ μ μ' : St} {s : Lfe} (h : Bth v p k n TC σ μ μ' s) : sl v p σ = s := h.1
theorem Bth.a {v p k n : Nat} {TC : Nat → List Cl} {σ μ μ' : St} {s : Lfe} (h : Bth v p k n TC σ μ μ' s) : ∃ nc nb, RfA p (k + 1) μ' s nc nb := h.2.1
theorem Bth.w {v p k n : Nat} {TC : Nat → List Cl} {σ μ μ' : St} {s : Lfe} (h : Bth v p k n TC σ μ μ' s) : WL s := h.2.2.1
theorem Bth.d {v p k n : Nat} {TC : Nat → List Cl} {σ μ μ' : St} {s : Lfe} (h : Bth v p k n TC σ μ μ' s) : ∀ e, e < cnM μ → peM μ e = p → kdM μ e ≠ 8 → σ.1 144 v 0 e = μ'.1 277 0 0 e := h.2.2.2.1
theorem Bth.l {v p k n : Nat} {TC : Nat → List Cl} {σ μ μ' : St} {s : Lfe} (h : Bth v p k n TC σ μ μ' s) : RunOK (nP μ) n k TC μ' := h.2.2.2.2
theorem gS0 (μ0 : St) (TC : Nat → List Cl) (n k : Nat) (S0 : Nat → Lfe) (t p : Nat) : gS μ0 TC n k S0 t 0 p = LRun (ENM μ0 TC p n k) (evM μ0 p k) (S0 p) t := rfl
theorem gD0 (μ0 : St) (TC : Nat → List Cl) (n k : Nat) (S0 : Nat → Lfe) (t e : Nat) (h : kdM μ0 e ≠ 8) : gD μ0 TC n k S0 t 0 e = LDo (ENM μ0 TC (peM μ0 e) n k) (evM μ0 (peM μ0 e) k) (S0 (peM μ0 e)) (fun _ => 0) t e := by
  unfold gD
  rw [if_neg h]
  rfl
theorem both_e {v p k n : Nat} {TC : Nat → List Cl} {σ μ μ' : St} (hL : LfOK v p k (ENM μ TC p n k) μ (evM μ p k) σ) (hx : RnX μ μ') (hr : RunOK (nP μ) n k TC μ') (hp : p < nP μ) (hc : cnM μ ≤ 160) (hk : 312 ≤ k) : ∃ s, Bth v p k n TC σ μ μ' s := by
  obtain ⟨s0, l1, l2, l3⟩ := hL
  have sm : SmR (nP μ) k μ μ' := hx.sm
  obtain ⟨nc, nb, r1⟩ := hr.a (fun _ => s0)
  have r2 := r1 p hp
  have e1 : k + 1 - 312 = k - 311 := by omega
  rw [sm.gS hp, e1, gS0] at r2
  refine ⟨_, l1, ⟨nc, nb, r2⟩, (WP.run (k - 311) (by have := evN_cn (μ := μ) (p := p) (k := k) (k - 311); omega)).1, fun e he hpe h8 => ?_, hr⟩
  have r3 := hr.d (fun _ => s0) e (by rw [sm.e.cn]; exact he) (by rw [sm.e.pe, hpe]; exact hp)
  rw [sm.gD (by rw [hpe]; exact hp), e1, gD0 _ _ _ _ _ _ _ h8, hpe] at r3
  rw [l2 e he hpe, r3]
/-- a step that both answer alike -/
def StQ (x : Option (Option Int32 × St)) (y : Option (Int32 × St)) : Prop := ∃ q σ' b μ', x = some (q, σ') ∧ y = some (b, μ') ∧ μ'.1 204 0 0 0 = (if q.isSome then 0 else 1) ∧ (∀ r, q = some r → r = b) ∧ Inv σ' μ'
theorem StQ.fail {σ μ : St} (h : Inv σ μ) : StQ (some (none, σ)) (some (0, sI μ 204 0 0 0 1)) := by
  obtain ⟨TC, tp, h⟩ := h
  exact ⟨none, σ, 0, _, rfl, rfl, sI_s _ _ _ _ _ _, fun r q => absurd q (by simp), TC, tp, h.code⟩
theorem StQ.ok {σ μ : St} {r r' : Int32} (h : Inv σ μ) (hc : μ.1 204 0 0 0 = 0) (hr : r = r') : StQ (some (some r, σ)) (some (r', μ)) := by
  rw [← hr]
  exact ⟨some r, σ, r, μ, rfl, rfl, hc, fun r q => (Option.some.inj q).symm, h⟩
theorem step_day {N : Nat} {σ μ : St} (hN : 4000 ≤ N) (h : Inv σ μ) (a1 a2 a3 : Int32) : StQ (fX_day N a1 a2 a3 σ) (fM_day N a1 a2 a3 μ) := by
  obtain ⟨TC, tp, h0⟩ := h
  obtain ⟨ν, hν⟩ : ∃ ν, ν = sI μ 204 0 0 0 0 := ⟨_, rfl⟩
  have h : InvB TC tp σ ν := by rw [hν]; exact h0.code
  have hc : ν.1 204 0 0 0 = 0 := by rw [hν, sI_s]
  have c := h.rg.cns
  have fl : StQ (some (none, σ)) (fM_day_37 N ν) := StQ.fail ⟨TC, tp, h⟩
  have fx : fX_day_28 N σ = some (none, σ) := rfl
  obtain ⟨k1, k2, k3, k4⟩ := kD_e (N := N) h
  have hd := c.d
  unfold fX_day fM_day
  rw [nmx, ← hν, reqP_e, mIsPerson_e, bn1_e, btR_i, show σ.1 52 0 0 0 = ν.1 208 0 0 0 from h.eq.at (f := 52) 0 (by decide)]
  by_cases c1 : a1 < 0 ∨ ν.1 208 0 0 0 ≤ a1
  · rw [if_pos c1, if_pos c1, if_pos rfl]
    exact fl
  · rw [if_neg c1, if_neg c1, if_neg (by decide), k1, bn1_e, k2 ν ⟨fun _ _ _ _ _ _ => rfl, fun _ _ _ _ _ _ _ => rfl⟩, bn1_e, outside_e, bn1_e, outside_e]
    obtain ⟨p, hp, rfl⟩ := prs_e h.rg c1
    by_cases c2 : a2 < 312
    · rw [if_pos (Or.inl c2), if_neg (by decide), if_pos c2, fx]
      exact fl
    · rw [if_neg c2]
      by_cases c3 : nI (kD ν) < a2
      · rw [if_pos (Or.inr c3), if_neg (by decide), if_pos c3, fx]
        exact fl
      · rw [if_neg (show ¬ (a2 < 312 ∨ nI (kD ν) < a2) from fun q => q.elim c2 c3), if_pos rfl, if_neg c3, bn1_e (if a3 < 0 ∨ 3 < a3 then (1 : Int32) else 0)]
        by_cases c4 : a3 < 0
        · rw [if_pos (Or.inl c4), if_neg (by decide), if_pos c4, fx]
          exact fl
        · rw [if_neg c4]
          by_cases c5 : a3 ≤ 3
          · rw [if_neg (show ¬ (a3 < 0 ∨ 3 < a3) from fun q => q.elim c4 (fun q => Int32.not_lt.mpr c5 q)), if_pos rfl, if_pos c5, bn1_e]
            obtain ⟨v, n, σ1, b1, b2, b3, b4, b5, b6, b7, b8, b9, -⟩ := asOfThe_e hN h
            obtain ⟨σ2, d1, d2, d3, d4, d5, d6⟩ := life_I hN b9 b2 b3 hp k3 k4 b4 b6 b7 b8
            obtain ⟨μ2, m1, m2, m3, m4⟩ := know_I hN d6 k3 (by omega) b3 b5
            obtain ⟨s, B⟩ := both_e d3 m2 m3 hp c.e.2 k3
            obtain ⟨nc, nb, hA⟩ := B.a
            have hI : Inv σ2 μ2 := ⟨TC, tp, m4⟩
            have hc2 : μ2.1 204 0 0 0 = 0 := (m2.at (by decide)).trans hc
            obtain ⟨j, j1, rfl⟩ : ∃ j, j < 2 ^ 31 ∧ a2 = nI j := by
              rcases arg32 a2 with q | q
              · exact absurd (Int32.lt_of_lt_of_le q (by decide : (0 : Int32) ≤ 312)) c2
              · exact q
            have hj1 : 312 ≤ j := Classical.byContradiction fun q => c2 ((nI_ltI (b := 312) (by omega) (by decide)).mpr (by omega))
            have hj2 : j ≤ kD ν := Classical.byContradiction fun q => c3 ((nI_ltI (by omega) (by omega)).mpr (by omega))
            obtain ⟨i, rfl⟩ : ∃ i, j = 312 + i := ⟨j - 312, by omega⟩
            have hP := c.P.2
            obtain ⟨w0, w1, w2, w3, x0, x1, x2, x3, y0, y1, y2, y3⟩ := day_both (N := N) hA B.s hj2 (by omega) (show p < 20 by omega)
            have ei : (624 : Int32) * nI p + nI (312 + i) - 312 = nI (624 * p + i) := by
              rw [show (624 : Int32) * nI p = nI (624 * p) from (Int32.ofNat_mul 624 p).symm, nI_add, show 624 * p + (312 + i) = 312 + (624 * p + i) by omega]
              exact nI_subl (a := 312) (k := 624 * p + i)
            rw [b1, bnd_e, d1, bnd_e, m1, bn1_e, nmx, ei]
            have hin : inb (nI (624 * p + i)) 12480 := inb_n (by omega) (by decide)
            have hcl : (nI (624 * p + i)).toNatClampNeg = 624 * p + i := nI_clamp (by omega)
            by_cases z0 : a3 = 0
            · rw [if_pos z0, if_pos z0, x0, bn1_e, chk_t hin, hcl]
              exact StQ.ok hI hc2 y0.symm
            · rw [if_neg z0, if_neg z0]
              by_cases z1 : a3 = 1
              · rw [if_pos z1, if_pos z1, x1, bn1_e, chk_t hin, hcl]
                exact StQ.ok hI hc2 y1.symm
              · rw [if_neg z1, if_neg z1]
                by_cases z2 : a3 = 2
                · rw [if_pos z2, if_pos z2, x2, bn1_e, chk_t hin, hcl]
                  exact StQ.ok hI hc2 y2.symm
                · rw [if_neg z2, if_neg z2, x3, bn1_e, chk_t hin, hcl]
                  exact StQ.ok hI hc2 y3.symm
          · rw [if_pos (Or.inr (Int32.not_le.mp c5)), if_neg (by decide), if_neg c5, fx]
            exact fl
