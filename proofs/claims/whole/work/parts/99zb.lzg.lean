/-! a claim asked of both; what was paid, what an event does -/
theorem claimAt_M {N p c nc : Nat} {cm : Nat → Nat} {μ : St} {s : Lfe} {x : Int32} (h : RfC p μ s c nc cm) : ∀ (e j m : Nat), j + e = nc → e < m → (∀ j', j' < j → ¬ (μ.1 288 0 0 j' = nI p ∧ μ.1 289 0 0 j' = x)) → (∃ i, i < c ∧ x = nI i ∧ fM_claimAt_2 N m (nI p) x (nI j) μ = some (nI (cm i))) ∨ ((∀ i, i < c → x ≠ nI i) ∧ fM_claimAt_2 N m (nI p) x (nI j) μ = some (-1)) := by
  have hb := h.bd
  intro e
  induction e with
  | zero =>
    intro j m h1 h2 h3
    obtain ⟨m, rfl⟩ : ∃ q, m = q + 1 := ⟨m - 1, by omega⟩
    refine Or.inr ⟨fun i hi hx => ?_, ?_⟩
    · obtain ⟨l1, l2, l3, -⟩ := h.cl i hi
      exact h3 (cm i) (by omega) ⟨l2, by rw [l3, hx]⟩
    · show (if μ.1 286 0 0 0 ≤ nI j then some (-1) else _) = _
      rw [h.nc, if_pos (nI_le (by omega) (by omega))]
  | succ e ih =>
    intro j m h1 h2 h3
    obtain ⟨m, rfl⟩ : ∃ q, m = q + 1 := ⟨m - 1, by omega⟩
    have e0 : fM_claimAt_2 N (m + 1) (nI p) x (nI j) μ = if μ.1 288 0 0 j = nI p then (if μ.1 289 0 0 j = x then some (nI j) else fM_claimAt_2 N m (nI p) x (nI (j + 1)) μ) else fM_claimAt_2 N m (nI p) x (nI (j + 1)) μ := by
      show (if μ.1 286 0 0 0 ≤ nI j then some (-1) else chk (inb (nI j) 160) (if μ.1 288 0 0 (nI j).toNatClampNeg = nI p then (if μ.1 289 0 0 (nI j).toNatClampNeg = x then some (nI j) else fM_claimAt_2 N m (nI p) x (nI j + 1) μ) else fM_claimAt_2 N m (nI p) x (nI j + 1) μ)) = _
      rw [h.nc, if_neg (nI_ge (by omega) (by omega)), chk_t (inb_n (by omega) (by decide)), nI_clamp (by omega), nI_1]
    by_cases z : μ.1 288 0 0 j = nI p ∧ μ.1 289 0 0 j = x
    · obtain ⟨i, i1, i2⟩ := h.cv j (by omega) z.1
      obtain ⟨l1, l2, l3, -⟩ := h.cl i i1
      refine Or.inl ⟨i, i1, ?_, ?_⟩
      · rw [← z.2, ← i2, l3]
      · rw [e0, if_pos z.1, if_pos z.2, i2]
    · have := ih (j + 1) m (by omega) (by omega) (fun j' hj' => by
        by_cases q : j' = j
        · rw [q]
          exact z
        · exact h3 j' (by omega))
      rw [e0]
      by_cases z1 : μ.1 288 0 0 j = nI p
      · rw [if_pos z1, if_neg (fun q => z ⟨z1, q⟩)]
        exact this
      · rw [if_neg z1]
        exact this
theorem step_claim {N : Nat} {σ μ : St} (hN : 4000 ≤ N) (h : Inv σ μ) (a1 a2 a3 : Int32) : StQ (fX_claim N a1 a2 a3 σ) (fM_claim N a1 a2 a3 μ) := by
  obtain ⟨TC, tp, h0⟩ := h
  obtain ⟨ν, hν⟩ : ∃ ν, ν = sI μ 204 0 0 0 0 := ⟨_, rfl⟩
  have h : InvB TC tp σ ν := by rw [hν]; exact h0.code
  have hc : ν.1 204 0 0 0 = 0 := by rw [hν, sI_s]
  have c := h.rg.cns
  obtain ⟨k1, k2, k3, k4⟩ := kD_e (N := N) h
  have hd := c.d
  have hP := c.P.2
  unfold fX_claim fM_claim
  rw [nmx, ← hν, reqP_e, mIsPerson_e, bn1_e, btR_i, show σ.1 52 0 0 0 = ν.1 208 0 0 0 from h.eq.at (f := 52) 0 (by decide)]
  by_cases c1 : a1 < 0 ∨ ν.1 208 0 0 0 ≤ a1
  · rw [if_pos c1, if_pos c1, if_pos rfl]
    exact StQ.fail ⟨TC, tp, h⟩
  · rw [if_neg c1, if_neg c1, if_neg (by decide), k2 ν ⟨fun _ _ _ _ _ _ => rfl, fun _ _ _ _ _ _ _ => rfl⟩, bn1_e, reqE_e, btR_i]
    obtain ⟨p, hp, rfl⟩ := prs_e h.rg c1
    obtain ⟨v, n, σ1, b1, b2, b3, b4, b5, b6, b7, b8, b9, -⟩ := asOfThe_e hN h
    obtain ⟨σ2, d1, d2, d3, d4, d5, d6⟩ := life_I hN b9 b2 b3 hp k3 k4 b4 b6 b7 b8
    obtain ⟨μ2, m1, m2, m3, m4⟩ := know_I hN d6 k3 (by omega) b3 b5
    obtain ⟨μ3, m1', m2', m3', m4'⟩ := know_I hN h k3 (by omega) b3 b5
    have e23 : μ3 = μ2 := Option.some.inj (m1'.symm.trans m1)
    rw [e23] at m4'
    obtain ⟨s, B⟩ := both_e d3 m2 m3 hp c.e.2 k3
    obtain ⟨nc, nb, cc, cm, q1, q2, q3, q4, q5⟩ := B.a
    have hb := q2.bd
    have hI : Inv σ2 μ2 := ⟨TC, tp, m4⟩
    have hI' : Inv σ μ2 := ⟨TC, tp, m4'⟩
    have hc2 : μ2.1 204 0 0 0 = 0 := (m2.at (by decide)).trans hc
    have c55 : cc ≤ 55 := by
      obtain ⟨⟨c', w1, w2, -⟩, -⟩ := B.w
      have : cc = c' := (nI_eq (by omega) (by omega)).mp (q2.cc.symm.trans w2)
      omega
    have fl : bnd (fM_fail N μ2) (fun r9 σ10 => some (r9, σ10)) = some (0, sI μ2 204 0 0 0 1) := rfl
    rw [m1, bn1_e]
    have hat := claimAt_M (N := N) (x := a2) q2 nc 0 N (by omega) (by omega) (fun j hj => absurd hj (by omega))
    by_cases c3 : a3 < 0 ∨ 11 ≤ a3
    · rw [if_pos c3]
      rcases hat with ⟨i, i1, i2, i3⟩ | ⟨i1, i2⟩
      · unfold fM_claimAt
        rw [show fM_claimAt_2 N N (nI p) a2 0 μ2 = _ from i3, bn1_e, if_neg (m1_ne (by have := (q2.cl i i1).1; omega))]
        have ne : ∀ q : Nat, q ≤ 10 → a3 ≠ nI q := fun q hq e => by
          rw [e] at c3
          rcases c3 with z | z
          · exact nI_pos (by omega) z
          · exact (nI_ge (a := q) (b := 11) (by omega) (by decide)) z
        rw [if_neg (show ¬ a3 = 0 from ne 0 (by omega)), if_neg (show ¬ a3 = 1 from ne 1 (by omega)), if_neg (show ¬ a3 = 2 from ne 2 (by omega)), if_neg (show ¬ a3 = 3 from ne 3 (by omega)), if_neg (show ¬ a3 = 4 from ne 4 (by omega)), if_neg (show ¬ a3 = 5 from ne 5 (by omega)), if_neg (show ¬ a3 = 6 from ne 6 (by omega)), if_neg (show ¬ a3 = 7 from ne 7 (by omega)), if_neg (show ¬ a3 = 8 from ne 8 (by omega)), if_neg (show ¬ a3 = 9 from ne 9 (by omega)), if_neg (show ¬ a3 = 10 from ne 10 (by omega)), fl]
        exact StQ.fail hI'
      · unfold fM_claimAt
        rw [show fM_claimAt_2 N N (nI p) a2 0 μ2 = _ from i2, bn1_e, if_pos rfl, fl]
        exact StQ.fail hI'
    · obtain ⟨q, hq, rfl⟩ : ∃ q, q ≤ 10 ∧ a3 = nI q := by
        rcases arg32 a3 with z | ⟨q, z1, rfl⟩
        · exact absurd (Or.inl z) c3
        · exact ⟨q, Classical.byContradiction fun z => c3 (Or.inr (nI_le (a := 11) (b := q) (by omega) (by omega))), rfl⟩
      have ecl : σ2.1 84 v p 0 = nI cc := by
        have : σ2.1 84 v p 0 = sl v p σ2 84 0 := rfl
        rw [this, B.s]
        exact q2.cc
      rw [if_neg c3, b1, bnd_e, d1, bnd_e, reqE_e, ecl, btR_i]
      rcases hat with ⟨i, i1, i2, i3⟩ | ⟨i1, i2⟩
      · obtain ⟨l1, l2, l3, r0, r1, r2, r3, r4, r5, r7, r8, r9, r10⟩ := q2.cl i i1
        have hy := q5 i i1
        have ei : a2 * 11 + nI q = nI (11 * i + q) := by
          rw [i2, show (nI i) * 11 = nI (i * 11) from (Int32.ofNat_mul i 11).symm, nI_add, Nat.mul_comm]
        have es : σ2.1 79 v p (11 * i + q) = s 79 (11 * i + q) := by
          rw [← B.s]
          rfl
        have hin : inb (nI (cm i)) 160 := inb_n (by omega) (by decide)
        have hcl : (nI (cm i)).toNatClampNeg = cm i := nI_clamp (by omega)
        rw [if_neg (show ¬ (a2 < 0 ∨ nI cc ≤ a2) by
          rw [i2]
          exact fun z => z.elim (nI_pos (by omega)) (nI_ge (by omega) (by omega))), ei, chk_t (inb_n (by omega) (by decide)), nI_clamp (by omega), es]
        unfold fM_claimAt
        rw [show fM_claimAt_2 N N (nI p) a2 0 μ2 = _ from i3, bn1_e, if_neg (m1_ne (by omega))]
        rcases (show q = 0 ∨ q = 1 ∨ q = 2 ∨ q = 3 ∨ q = 4 ∨ q = 5 ∨ q = 6 ∨ q = 7 ∨ q = 8 ∨ q = 9 ∨ q = 10 by omega) with rfl | rfl | rfl | rfl | rfl | rfl | rfl | rfl | rfl | rfl | rfl
        · rw [if_pos (by decide), chk_t hin, hcl]
          exact StQ.ok hI hc2 r0.symm
        · rw [if_neg (by decide), if_pos (by decide), chk_t hin, hcl]
          exact StQ.ok hI hc2 r1.symm
        · rw [if_neg (by decide), if_neg (by decide), if_pos (by decide), chk_t hin, hcl]
          exact StQ.ok hI hc2 r2.symm
        · rw [if_neg (by decide), if_neg (by decide), if_neg (by decide), if_pos (by decide), chk_t hin, hcl]
          exact StQ.ok hI hc2 r3.symm
        · rw [if_neg (by decide), if_neg (by decide), if_neg (by decide), if_neg (by decide), if_pos (by decide), chk_t hin, hcl]
          exact StQ.ok hI hc2 r4.symm
        · rw [if_neg (by decide), if_neg (by decide), if_neg (by decide), if_neg (by decide), if_neg (by decide), if_pos (by decide), chk_t hin, hcl]
          exact StQ.ok hI hc2 r5.symm
        · rw [if_neg (by decide), if_neg (by decide), if_neg (by decide), if_neg (by decide), if_neg (by decide), if_neg (by decide), if_pos (by decide), chk_t hin, hcl]
          exact StQ.ok hI hc2 hy
        · rw [if_neg (by decide), if_neg (by decide), if_neg (by decide), if_neg (by decide), if_neg (by decide), if_neg (by decide), if_neg (by decide), if_pos (by decide), chk_t hin, hcl]
          exact StQ.ok hI hc2 r7.symm
        · rw [if_neg (by decide), if_neg (by decide), if_neg (by decide), if_neg (by decide), if_neg (by decide), if_neg (by decide), if_neg (by decide), if_neg (by decide), if_pos (by decide), chk_t hin, hcl]
          by_cases z : μ2.1 297 0 0 (cm i) = -1
          · rw [if_pos z]
            exact StQ.ok hI hc2 (by rw [r8, if_pos z])
          · rw [if_neg z]
            exact StQ.ok hI hc2 (by rw [r8, if_neg z])
        · rw [if_neg (by decide), if_neg (by decide), if_neg (by decide), if_neg (by decide), if_neg (by decide), if_neg (by decide), if_neg (by decide), if_neg (by decide), if_neg (by decide), if_pos (by decide), chk_t hin, hcl]
          exact StQ.ok hI hc2 r9.symm
        · rw [if_neg (by decide), if_neg (by decide), if_neg (by decide), if_neg (by decide), if_neg (by decide), if_neg (by decide), if_neg (by decide), if_neg (by decide), if_neg (by decide), if_neg (by decide), if_pos (by decide), chk_t hin, hcl]
          exact StQ.ok hI hc2 r10.symm
      · rw [if_pos (show a2 < 0 ∨ nI cc ≤ a2 by
          rcases arg32 a2 with z | ⟨j, z1, rfl⟩
          · exact Or.inl z
          · refine Or.inr (nI_le ?_ (by omega))
            exact Classical.byContradiction fun z => i1 j (by omega) rfl)]
        unfold fM_claimAt
        rw [show fM_claimAt_2 N N (nI p) a2 0 μ2 = _ from i2, bn1_e, if_pos rfl, fl]
        exact StQ.fail hI
