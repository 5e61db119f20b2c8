theorem app67 {N c p j : Nat} {μ : St} {r0 r1 r2 : Int32} (s0 : Int32) (h1 : μ.1 338 0 0 0 = nI c) (hc : c ≤ 30) (hj : j < 160) (hp : μ.1 230 0 0 j = nI p) (hp2 : p < 20)
    (g0 : fM_nextJudge N 0 (μ.1 215 0 0 p) μ = some r0) (g1 : fM_nextJudge N 1 (μ.1 215 0 0 p) μ = some r1) (g2 : fM_nextJudge N 2 (μ.1 215 0 0 p) μ = some r2) :
    fM_appeal_67 N (nI j) s0 μ = if c = 30 ∨ s0.toInt = 0 then some (-1, μ) else if r0 = -1 ∨ r1 = -1 ∨ r2 = -1 then some (-1, μ) else some (nI c, mCase μ c (nI j) (μ.1 205 0 0 0) r0 r1 r2) := by
  have ec := nI_toInt (n := c) (by omega)
  have cc := nI_clamp (n := c) (by omega)
  have cj := nI_clamp (n := j) (by omega)
  have ej := nI_toInt (n := j) (by omega)
  have cp := nI_clamp (n := p) (by omega)
  have ep := nI_toInt (n := p) (by omega)
  by_cases h30 : c = 30
  · unfold fM_appeal_67
    rw [if_pos (by rw [h1, h30]; rfl), if_pos (Or.inl h30)]
  · have i3c := (i3 (show c < 30 by omega)).2
    have e1 : nI (3 * c) + 1 = nI (3 * c + 1) := nI_1 _
    have e2 : nI (3 * c) + 2 = nI (3 * c + 2) := nI_add _ 2
    have b0 := nI_toInt (n := 3 * c) (by omega)
    have d0 := nI_clamp (n := 3 * c) (by omega)
    have b1 := nI_toInt (n := 3 * c + 1) (by omega)
    have d1 := nI_clamp (n := 3 * c + 1) (by omega)
    have b2 := nI_toInt (n := 3 * c + 2) (by omega)
    have d2 := nI_clamp (n := 3 * c + 2) (by omega)
    unfold fM_appeal_67
    rw [if_neg (by rw [h1, fa_eq, ec, show (30 : Int32).toInt = 30 by decide]; omega)]
    by_cases hs : s0.toInt = 0
    · rw [if_pos ((fa_eq _ _).mpr hs), if_pos (Or.inr hs)]
    · rw [if_neg (fun z => hs ((fa_eq _ _).mp z)), if_neg (fun z => z.elim h30 hs)]
      rw [chk_t (inb_n hj (by decide)), cj, hp, chk_t (inb_n hp2 (by decide)), nmx, cp, g0, bn1_e, g1, bn1_e, g2, bn1_e]
      by_cases q0 : r0 = -1
      · rw [if_pos q0, if_pos (Or.inl q0)]
      · rw [if_neg q0]
        by_cases q1 : r1 = -1
        · rw [if_pos q1, if_pos (Or.inr (Or.inl q1))]
        · rw [if_neg q1]
          by_cases q2 : r2 = -1
          · rw [if_pos q2, if_pos (Or.inr (Or.inr q2))]
          · rw [if_neg q2, if_neg (fun z => z.elim q0 (fun z => z.elim q1 q2))]
            unfold mCase
            simp only [sI_1, sI_2, sJ_1, sJ_2, sA_1, sA_2, fa_lt, fa_le, fa_eq, nI_1, nI_sub1, nmx, bnd_e, bn1_e, btW_n, btW_s, btR_n, btR_s, btO_n, btO_s, outside_e, reqE_e, reqP_e, btO_i, btR_i, mIsPerson_e, mFail_e, chk, inb, Int32.reduceToInt, Nat.reduceEqDiff, ite_01, ite_10, eq_self, true_and, and_true, false_and, and_self, reduceIte, not_false_eq_true, not_true_eq_false, or_true, true_or, or_false, false_or, and_false, Int.reduceEq, Int.reduceLT, Int.reduceLE, Nat.reduceLT, Nat.reduceLeDiff, Nat.reduceAdd, Nat.reduceMul, mrg1, mrg2, mrg3, mrg4, h1, i3c, e1, e2, b0, d0, b1, d1, b2, d2, ec, cc]
            ((repeat (first | rw [if_pos (by omega)] | rw [if_neg (by omega)])) <;> (try rfl))
theorem e_appeal {N : Nat} {σ μ : St} (hN : 40 ≤ N) (hE : Eq1 σ μ) (hR : Rng μ) (a1 : Int32) :
    (fX_appeal N a1 σ = some (none, σ) ∧ fM_appeal N a1 μ = some (0, sI (sI μ 204 0 0 0 0) 204 0 0 0 1)) ∨
    (∃ (c : Nat) (r0 r1 : Int32) (σ' : St), c ≤ 30 ∧ μ.1 338 0 0 0 = nI c ∧ (σ' = σ ∨ σ' = sI σ 33 0 0 (3 * c) r0 ∨ σ' = sI (sI σ 33 0 0 (3 * c) r0) 33 0 0 (3 * c + 1) r1) ∧
      fX_appeal N a1 σ = some (some (-1), σ') ∧ fM_appeal N a1 μ = some (-1, sI μ 204 0 0 0 0)) ∨
    (∃ c n j J j0 j1 j2 : Nat, c < 30 ∧ μ.1 338 0 0 0 = nI c ∧ n ≤ 160 ∧ μ.1 218 0 0 0 = nI n ∧ j < n ∧ a1 = nI j ∧ μ.1 337 0 0 0 = nI J ∧ J ≤ 18 ∧ j0 < J ∧ j1 < J ∧ j2 < J ∧
      fX_appeal N a1 σ = some (some (nI c), xCase σ c (nI j) (μ.1 205 0 0 0) (nI j0) (nI j1) (nI j2)) ∧
      fM_appeal N a1 μ = some (nI c, mCase (sI μ 204 0 0 0 0) c (nI j) (μ.1 205 0 0 0) (nI j0) (nI j1) (nI j2))) := by
  obtain ⟨n, h2, en, cn, -, hn⟩ := hR.n (g := 218) (lo := 0) (hi := 160) 0 (by decide) (by decide)
  obtain ⟨c, h4, ec, cc, -, hc⟩ := hR.n (g := 338) (lo := 0) (hi := 30) 0 (by decide) (by decide)
  obtain ⟨J, h6, eJ, cJ, -, hJ⟩ := hR.n (g := 337) (lo := 0) (hi := 18) 0 (by decide) (by decide)
  have h1 : σ.1 43 0 0 0 = nI n := (hE (43, 218) (by decide) 0).trans h2
  have h3 : σ.1 36 0 0 0 = nI c := (hE (36, 338) (by decide) 0).trans h4
  have h5 : σ.1 162 0 0 0 = μ.1 205 0 0 0 := hE (162, 205) (by decide) 0
  by_cases g : 0 ≤ a1.toInt ∧ a1.toInt < n
  · obtain ⟨j, rfl, ej, cj⟩ := argN g.1
    rw [ej] at g
    have hj : j < 160 := by omega
    obtain ⟨p, h7, ep, cp, -, hp⟩ := hR.n (g := 230) (lo := 0) (hi := 19) j (by decide) (by decide)
    have h8 : σ.1 38 0 0 j = nI p := (hE (38, 230) (by decide) j).trans h7
    have h9 : σ.1 37 0 0 j = μ.1 229 0 0 j := hE (37, 229) (by decide) j
    have h10 : σ.1 51 0 0 p = μ.1 215 0 0 p := hE (51, 215) (by decide) p
    have hE' : Eq1 σ (sI μ 204 0 0 0 0) := hE.r (by decide)
    have hR' : Rng (sI μ 204 0 0 0 0) := hR.o (by decide)
    have nt : ∀ l, l < 3 → ∃ r, fM_nextJudge N (nI l) (μ.1 215 0 0 p) (sI μ 204 0 0 0 0) = some r ∧ (r = -1 ∨ ∃ j : Nat, j < J ∧ r = nI j) := fun l hl => next_tot hR' h6 (by omega) hl _ J 1 N (by omega) (by decide) (by omega)
    obtain ⟨r0, g0, q0⟩ := nt 0 (by decide)
    obtain ⟨r1, g1, q1⟩ := nt 1 (by decide)
    obtain ⟨r2, g2, q2⟩ := nt 2 (by decide)
    have m67 := fun s0 => app67 (N := N) (μ := sI μ 204 0 0 0 0) s0 h4 (by omega) hj h7 (by omega) g0 g1 g2
    have kx : fEvents_isKnown N (nI j) (μ.1 205 0 0 0) σ = some (if knB (sI μ 204 0 0 0 0) j (μ.1 205 0 0 0).toInt = true then 1 else 0) := (known_X hE' _ _).trans (known_M hj _)
    have km := known_M (N := N) (μ := sI μ 204 0 0 0 0) hj (μ.1 205 0 0 0)
    have cx := hasCase_X (N := N) (x := nI j) h3 (by omega) c 0 N (by omega) (by omega)
    have cm := inCase_M (N := N) (μ := sI μ 204 0 0 0 0) (x := nI j) h4 (by omega) c 0 N false (by omega) (by omega)
    have ce : (List.range' 0 c).any (fun q => decide (σ.1 31 0 0 q = nI j)) = (List.range' 0 c).any (fun q => decide ((sI μ 204 0 0 0 0).1 342 0 0 q = nI j)) := by
      congr 1
      funext q
      rw [hE' (31, 342) (by decide) q]
    rw [ce] at cx
    rw [Bool.false_or] at cm
    generalize hkb : knB (sI μ 204 0 0 0 0) j (μ.1 205 0 0 0).toInt = kb at kx km
    generalize hcb : (List.range' 0 c).any (fun q => decide ((sI μ 204 0 0 0 0).1 342 0 0 q = nI j)) = cb at cx cm
    have ox := fun hc30 : c < 30 => open_X (N := N) (σ := σ) (e := nI j) (t := μ.1 205 0 0 0) hE' (by omega) h4 hc30 g0 g1 g2
    -- the class, from its kind on
    have refX : fX_appeal N (nI j) σ = if ((μ.1 229 0 0 j).toInt = 0 ∨ (μ.1 229 0 0 j).toInt = 7) then fX_appeal_31 N (nI j) σ else some (some (-1), σ) := by
      unfold fX_appeal
      simp only [sI_1, sI_2, sJ_1, sJ_2, sA_1, sA_2, fa_lt, fa_le, fa_eq, nI_1, nI_sub1, nmx, bnd_e, bn1_e, btW_n, btW_s, btR_n, btR_s, btO_n, btO_s, outside_e, reqE_e, reqP_e, btO_i, btR_i, mIsPerson_e, mFail_e, chk, inb, Int32.reduceToInt, Nat.reduceEqDiff, ite_01, ite_10, eq_self, true_and, and_true, false_and, and_self, reduceIte, not_false_eq_true, not_true_eq_false, or_true, true_or, or_false, false_or, and_false, Int.reduceEq, Int.reduceLT, Int.reduceLE, Nat.reduceLT, Nat.reduceLeDiff, Nat.reduceAdd, Nat.reduceMul, mrg1, mrg2, mrg3, mrg4, h1, en, ej, cj, h9]
      ((repeat' split) <;> first | rfl | (exfalso; omega))
    have refM : fM_appeal N (nI j) μ = if ((μ.1 229 0 0 j).toInt = 0 ∨ (μ.1 229 0 0 j).toInt = 7) then fM_appeal_42 N (nI j) (sI μ 204 0 0 0 0) else fM_appeal_66 N (nI j) (sI μ 204 0 0 0 0) := by
      unfold fM_appeal
      simp only [sI_1, sI_2, sJ_1, sJ_2, sA_1, sA_2, fa_lt, fa_le, fa_eq, nI_1, nI_sub1, nmx, bnd_e, bn1_e, btW_n, btW_s, btR_n, btR_s, btO_n, btO_s, outside_e, reqE_e, reqP_e, btO_i, btR_i, mIsPerson_e, mFail_e, chk, inb, Int32.reduceToInt, Nat.reduceEqDiff, ite_01, ite_10, eq_self, true_and, and_true, false_and, and_self, reduceIte, not_false_eq_true, not_true_eq_false, or_true, true_or, or_false, false_or, and_false, Int.reduceEq, Int.reduceLT, Int.reduceLE, Nat.reduceLT, Nat.reduceLeDiff, Nat.reduceAdd, Nat.reduceMul, mrg1, mrg2, mrg3, mrg4, h2, en, ej, cj]
      ((repeat' split) <;> first | rfl | (exfalso; omega))
    have no66 : fM_appeal_66 N (nI j) (sI μ 204 0 0 0 0) = some (-1, sI μ 204 0 0 0 0) := (m67 0).trans (if_pos (Or.inr (by decide)))
    rw [refX, refM]
    by_cases hk : (μ.1 229 0 0 j).toInt = 0 ∨ (μ.1 229 0 0 j).toInt = 7
    · rw [if_pos hk, if_pos hk]
      unfold fX_appeal_31 fM_appeal_42
      rw [h5, kx, bn1_e, show (sI μ 204 0 0 0 0).1 205 0 0 0 = μ.1 205 0 0 0 from rfl, km, bn1_e]
      cases kb with
      | false =>
        rw [if_pos (by decide), if_pos (by decide), no66]
        exact Or.inr (Or.inl ⟨c, 0, 0, σ, by omega, h4, Or.inl rfl, rfl, rfl⟩)
      | true =>
        rw [if_neg (show ¬ (if true = true then (1 : Int32) else 0) = 0 by decide), if_neg (show ¬ (if true = true then (1 : Int32) else 0) = 0 by decide)]
        have cm' : fM_isInCase N (nI j) (sI μ 204 0 0 0 0) = _ := cm
        have cx' : fCourts_hasCaseOf N (nI j) σ = _ := cx
        rw [cm', bn1_e, h3]
        by_cases h30 : c = 30
        · rw [if_pos (by rw [fa_le, ec, h30]; decide)]
          have z : fM_appeal_67 N (nI j) 1 (sI μ 204 0 0 0 0) = some (-1, sI μ 204 0 0 0 0) := (m67 1).trans (if_pos (Or.inl h30))
          rw [z, no66, ite_self]
          exact Or.inr (Or.inl ⟨c, 0, 0, σ, by omega, h4, Or.inl rfl, rfl, rfl⟩)
        · rw [if_neg (by rw [fa_le, ec, show (30 : Int32).toInt = 30 by decide]; omega), cx', bn1_e]
          cases cb with
          | true =>
            rw [if_neg (show ¬ (if true = true then (1 : Int32) else 0) = 0 by decide), if_neg (show ¬ (if true = true then (1 : Int32) else 0) = 0 by decide), no66]
            exact Or.inr (Or.inl ⟨c, 0, 0, σ, by omega, h4, Or.inl rfl, rfl, rfl⟩)
          | false =>
            rw [if_pos (show (if false = true then (1 : Int32) else 0) = 0 by decide), if_pos (show (if false = true then (1 : Int32) else 0) = 0 by decide), chk_t (inb_n hj (by decide)), cj, h8, chk_t (inb_n (by omega) (by decide)), cp, h10, m67 1, if_neg (fun z => z.elim h30 (by decide))]
            rcases ox (by omega) with ⟨z0, z1, z2, z3⟩ | ⟨z0, σ', z1, z2⟩
            · rw [z3, bnd_e, if_neg (fun z => z.elim z0 (fun z => z.elim z1 z2))]
              obtain ⟨j0, k0, rfl⟩ := q0.resolve_left z0
              obtain ⟨j1, k1, rfl⟩ := q1.resolve_left z1
              obtain ⟨j2, k2, rfl⟩ := q2.resolve_left z2
              exact Or.inr (Or.inr ⟨c, n, j, J, j0, j1, j2, by omega, h4, by omega, h2, by omega, rfl, h6, by omega, k0, k1, k2, rfl, rfl⟩)
            · rw [z1, bnd_e, if_pos (by
                by_cases y0 : r0 = -1
                · exact Or.inl y0
                · by_cases y1 : r1 = -1
                  · exact Or.inr (Or.inl y1)
                  · exact Or.inr (Or.inr (Classical.byContradiction fun y2 => z0 ⟨y0, y1, y2⟩)))]
              exact Or.inr (Or.inl ⟨c, r0, r1, σ', by omega, h4, z2, rfl, rfl⟩)
    · rw [if_neg hk, if_neg hk, no66]
      exact Or.inr (Or.inl ⟨c, 0, 0, σ, by omega, h4, Or.inl rfl, rfl, rfl⟩)
  · refine Or.inl ⟨?_, ?_⟩
    · unfold fX_appeal
      simp only [sI_1, sI_2, sJ_1, sJ_2, sA_1, sA_2, fa_lt, fa_le, fa_eq, nI_1, nI_sub1, nmx, bnd_e, bn1_e, btW_n, btW_s, btR_n, btR_s, btO_n, btO_s, outside_e, reqE_e, reqP_e, btO_i, btR_i, mIsPerson_e, mFail_e, chk, inb, Int32.reduceToInt, Nat.reduceEqDiff, ite_01, ite_10, eq_self, true_and, and_true, false_and, and_self, reduceIte, not_false_eq_true, not_true_eq_false, or_true, true_or, or_false, false_or, and_false, Int.reduceEq, Int.reduceLT, Int.reduceLE, Nat.reduceLT, Nat.reduceLeDiff, Nat.reduceAdd, Nat.reduceMul, mrg1, mrg2, mrg3, mrg4, h1, en]
      ((repeat (first | rw [if_pos (by omega)] | rw [if_neg (by omega)])) <;> (try rfl))
    · unfold fM_appeal fM_appeal_17
      simp only [sI_1, sI_2, sJ_1, sJ_2, sA_1, sA_2, fa_lt, fa_le, fa_eq, nI_1, nI_sub1, nmx, bnd_e, bn1_e, btW_n, btW_s, btR_n, btR_s, btO_n, btO_s, outside_e, reqE_e, reqP_e, btO_i, btR_i, mIsPerson_e, mFail_e, chk, inb, Int32.reduceToInt, Nat.reduceEqDiff, ite_01, ite_10, eq_self, true_and, and_true, false_and, and_self, reduceIte, not_false_eq_true, not_true_eq_false, or_true, true_or, or_false, false_or, and_false, Int.reduceEq, Int.reduceLT, Int.reduceLE, Nat.reduceLT, Nat.reduceLeDiff, Nat.reduceAdd, Nat.reduceMul, mrg1, mrg2, mrg3, mrg4, h2, en]
      ((repeat (first | rw [if_pos (by omega)] | rw [if_neg (by omega)])) <;> (try rfl))
