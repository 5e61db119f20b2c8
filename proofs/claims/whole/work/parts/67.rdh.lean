/-! an expression as a whole -/
theorem SubOk.mono {fX fM : St → Option St} {tp : Nat → Nat} {n t H H' : Nat} (h : SubOk fX fM tp n t H) (hh : H ≤ H') : SubOk fX fM tp n t H' := by
  intro σ μ tk b a L C g hL hC
  obtain ⟨σ', μ', h1, h2, h3, h4, h5⟩ := h σ μ tk b a L C g hL hC
  refine ⟨σ', μ', h1, h2, h3, h4, ?_⟩
  rcases h5 with h5 | ⟨h5, tk', b', a', e, q0, q1, q2, q3, q4, q5, q6⟩
  · exact Or.inl h5
  · exact Or.inr ⟨h5, tk', b', a', e, q0, q1, q2, q3, by omega, q5, q6⟩
/-- all of a level's reading, over the reading of what stands in parentheses -/
theorem conj_all {N n t Hr : Nat} {tp : Nat → Nat} {rX rM : Int32 → St → Option St} {x y : Int32} (hN : 2000 ≤ N) (hr : SubOk (rX (x + 1)) (rM (y + 1)) tp n t Hr) : SubOk (fReader_readConjunction N rX x) (fM_readAnd N rM y) tp n t (max 1 Hr + 4) := by
  have p1 := part_e (N := N) (x := x) (y := y) hN hr
  have p2 : SubOk (fReader_readProduct N rX x) (fM_readProduct N rM y) tp n t (max 1 Hr + 1) := lvl_e hN p1 so_Product sb_Product
  have p3 : SubOk (fReader_readSum N rX x) (fM_readSum N rM y) tp n t (max 1 Hr + 1 + 1) := lvl_e hN p2 so_Sum sb_Sum
  have p4 := not_e hN (test_e hN p3)
  exact lvl_e hN p4 (so_Conjunction (by omega)) (sb_Conjunction (by omega))
theorem conj_b {N t : Nat} {rX rM : Int32 → St → Option St} {x y : Int32} (hN : 2000 ≤ N) : BOk (fReader_readConjunction N rX x) (fM_readAnd N rM y) t := by
  have p1 := part_b (N := N) (t := t) (rX := rX) (rM := rM) (x := x) (y := y)
  have p2 : BOk (fReader_readProduct N rX x) (fM_readProduct N rM y) t := lvl_b (by omega) p1 sb_Product
  have p3 : BOk (fReader_readSum N rX x) (fM_readSum N rM y) t := lvl_b (by omega) p2 sb_Sum
  have p4 := not_b (by omega) (test_b p3)
  exact lvl_b (by omega) p4 (sb_Conjunction (by omega))
theorem conj_n {N n t : Nat} {tp : Nat → Nat} {rX rM : Int32 → St → Option St} {x y : Int32} (hN : 2000 ≤ N) : NsOk N n t tp (fReader_readConjunction N rX x) := by
  have p1 := part_n (N := N) (n := n) (t := t) (tp := tp) (rX := rX) (x := x)
  have p2 : NsOk N n t tp (fReader_readProduct N rX x) := lvl_n (by omega) p1 (sb_Product (rM := rM) (y := y))
  have p3 : NsOk N n t tp (fReader_readSum N rX x) := lvl_n (by omega) p2 (sb_Sum (rM := rM) (y := y))
  have p4 := not_n (by omega) (test_n p3)
  exact lvl_n (by omega) p4 (sb_Conjunction (rM := rM) (y := y) (by omega))
theorem nst_or {tk : Tok} : nst tk ∨ (∃ w, tk = .word w) ∨ (∃ l v, tk = .num l v) ∨ tk = .sign 40 := by
  rcases tk.cs with rfl | ⟨w, rfl⟩ | ⟨l, v, rfl⟩ | rfl | ⟨d, rfl⟩
  · exact Or.inl ⟨fun _ => nofun, fun _ _ => nofun, nofun⟩
  · exact Or.inr (Or.inl ⟨w, rfl⟩)
  · exact Or.inr (Or.inr (Or.inl ⟨l, v, rfl⟩))
  · exact Or.inl ⟨fun _ => nofun, fun _ _ => nofun, nofun⟩
  · by_cases c : d = 40
    · exact Or.inr (Or.inr (Or.inr (by rw [c])))
    · exact Or.inl ⟨fun _ => nofun, fun _ _ => nofun, fun z => c (Sum.inl.inj (Sum.inr.inj (Sum.inr.inj (Sum.inr.inj z))))⟩
/-- how both begin an expression -/
theorem exprX_s {N n t : Nat} {tp : Nat → Nat} {σ μ : St} {tk : Tok} {b a L C : Nat} {rX rM : Int32 → St → Option St} {x y : Int32} (g : GS tp n t σ μ tk b a L C) (hs : ¬ nst tk) :
    fReader_readExpression_b N rX x σ = fReader_readExpression_30 N rX x 1 σ ∧ fM_readExpression_b N rM y μ = fM_readExpression_38 N rM y 1 μ := by
  have h1 := g.ps.kX
  have h2 := g.ps.kM
  unfold fReader_readExpression_b fM_readExpression_b fReader_readExpression_25 fM_readExpression_33
  rw [if_pos g.g0]
  rcases nst_or (tk := tk) with q | ⟨w, rfl⟩ | ⟨l, v, rfl⟩ | rfl
  · exact absurd q hs
  · rw [h1.1, h2.1, if_neg (by decide), if_pos rfl, if_neg (by decide), if_pos rfl]
    exact ⟨rfl, rfl⟩
  · rw [h1.1, h2.1, if_pos rfl, if_pos rfl]
    exact ⟨rfl, rfl⟩
  · have e3 : fM_isSign N 40 μ = some 1 := by
      rcases gS_e (N := N) (c := 40) g (by decide) with ⟨-, -, e3⟩ | ⟨e, -, -⟩
      · exact e3
      · exact absurd rfl e
    rw [show σ.1 117 0 0 0 = 40 from h1.2, h2.1, if_neg (by decide), if_neg (by decide), if_pos rfl, if_neg (by decide), if_neg (by decide), e3, bn1_e, if_neg (by decide)]
    exact ⟨rfl, rfl⟩
theorem exprX_n {N n t : Nat} {tp : Nat → Nat} {σ μ : St} {tk : Tok} {b a L C : Nat} {rX rM : Int32 → St → Option St} {x y : Int32} (g : GS tp n t σ μ tk b a L C) (hs : nst tk) :
    fReader_readExpression_b N rX x σ = fReader_readExpression_30 N rX x 0 σ ∧ fM_readExpression_b N rM y μ = bn1 (fM_wrong N 1 μ) fun μ2 => fM_readExpression_62 N rM y μ2 := by
  obtain ⟨⟨a1, a2, a3⟩, ⟨b1, b2⟩, -, b3⟩ := nst_tok (N := N) g hs
  unfold fReader_readExpression_b fM_readExpression_b fM_readExpression_38
  rw [if_neg a3, if_neg a2, if_neg a1, if_pos g.g0, if_neg b1, if_neg b2, b3, bn1_e, if_pos rfl, if_pos rfl]
  exact ⟨rfl, rfl⟩
theorem or_b {N t : Nat} {rX rM : Int32 → St → Option St} {x y : Int32} (hN : 2000 ≤ N) : BOk (fun σ => bn1 (fReader_readConjunction N rX x σ) fun σ1 => fReader_readExpression_58 N rX N x 0 σ1) (fun μ => bn1 (fM_readAnd N rM y μ) fun μ1 => fM_readExpression_67 N rM N y μ1) t := lvl_b (by omega) (conj_b hN) (sb_Expression (by omega))
/-- depth seven: too deep for both -/
theorem expr7 {N n t : Nat} {tp : Nat → Nat} {rX rM : Int32 → St → Option St} (hN : 2000 ≤ N) : SubOk (fReader_readExpression_b N rX 7) (fM_readExpression_b N rM 6) tp n t 0 := by
  intro σ μ tk b a L C g hL hC
  obtain ⟨n1, n2, n3⟩ := g.ps.bn
  have e7 : ∀ s0 σ, fReader_readExpression_30 N rX 7 s0 σ = if s0 = 0 then bn1 (fReader_fail N 1 σ) fun σ1 => some σ1 else bn1 (fReader_fail N 2 σ) fun σ1 => some σ1 := fun s0 σ => by
    unfold fReader_readExpression_30 fReader_readExpression_47
    rw [if_neg (by decide)]
  by_cases hs : nst tk
  · obtain ⟨x1, x2⟩ := exprX_n (N := N) (rX := rX) (rM := rM) (x := 7) (y := 6) g hs
    obtain ⟨σ', μ', g1, g2, g3, g4, g5⟩ := rfail_e (N := N) (k := 1) g (by omega) (by omega)
    refine ⟨σ', μ', ?_, ?_, g4.pX flt_rdX, Fx.pM g5 flt_rdM (by decide), Or.inl g3⟩
    · rw [x1, e7, if_pos rfl, show fReader_fail N 1 σ = some σ' from g1, bn1_e]
    · rw [x2, show fM_wrong N 1 μ = some μ' from g2, bn1_e]
      exact (or_b (rX := rX) (x := 7) hN σ' μ' g3).2
  · obtain ⟨x1, x2⟩ := exprX_s (N := N) (rX := rX) (rM := rM) (x := 7) (y := 6) g hs
    obtain ⟨σ', μ', g1, g2, g3, g4, g5⟩ := rfail_e (N := N) (k := 2) g (by omega) (by omega)
    refine ⟨σ', μ', ?_, ?_, g4.pX flt_rdX, Fx.pM g5 flt_rdM (by decide), Or.inl g3⟩
    · rw [x1, e7, if_neg (by decide), show fReader_fail N 2 σ = some σ' from g1, bn1_e]
    · rw [x2]
      unfold fM_readExpression_38
      rw [if_neg (by decide), if_pos rfl, show fM_wrong N 2 μ = some μ' from g2, bn1_e]
      exact (or_b (rX := rX) (x := 7) hN σ' μ' g3).2
theorem exprS {N n t Hr x y : Nat} {tp : Nat → Nat} {rX rM : Int32 → St → Option St} (hN : 2000 ≤ N) (hx : x ≤ 6) (hy : y < 6) (hr : SubOk (rX (nI (x + 1))) (rM (nI (y + 1))) tp n t Hr) : SubOk (fReader_readExpression_b N rX (nI x)) (fM_readExpression_b N rM (nI y)) tp n t (max 1 Hr + 5) := by
  intro σ μ tk b a L C g hL hC
  obtain ⟨n1, n2, n3⟩ := g.ps.bn
  rw [← nI_1, ← nI_1] at hr
  have hc := conj_all (N := N) hN hr
  have ho : SubOk (fun σ => bn1 (fReader_readConjunction N rX (nI x) σ) fun σ1 => fReader_readExpression_58 N rX N (nI x) 0 σ1) (fun μ => bn1 (fM_readAnd N rM (nI y) μ) fun μ1 => fM_readExpression_67 N rM N (nI y) μ1) tp n t (max 1 Hr + 4 + 1) := lvl_e hN hc (so_Expression (by omega)) (sb_Expression (by omega))
  have e6 : ∀ s0 σ, fReader_readExpression_30 N rX (nI x) s0 σ = bn1 (fReader_readConjunction N rX (nI x) σ) fun σ1 => fReader_readExpression_58 N rX N (nI x) 0 σ1 := fun s0 σ => by
    unfold fReader_readExpression_30
    rw [if_pos (show nI x ≤ 6 from nI_le (b := 6) hx (by omega))]
  by_cases hs : nst tk
  · obtain ⟨x1, x2⟩ := exprX_n (N := N) (rX := rX) (rM := rM) (x := nI x) (y := nI y) g hs
    obtain ⟨σ', μ', g1, g2, g3, g4, g5⟩ := conj_n (N := N) (rX := rX) (rM := rM) (x := nI x) (y := nI y) hN σ μ tk b a L C g (by omega) hs
    obtain ⟨M, hM⟩ : ∃ q, N = q + 1 := ⟨N - 1, by omega⟩
    have sb := (sb_Expression (N := N) (t := t) (rX := rX) (rM := rM) (x := nI x) (y := nI y) (by omega) M 0 σ' μ' g3).1
    refine ⟨σ', μ', ?_, ?_, g4, Fx.pM g5 flt_rdM (by decide), Or.inl g3⟩
    · rw [x1, e6, g1, bn1_e]
      rw [← hM] at sb
      exact sb
    · rw [x2, g2, bn1_e]
      exact (or_b (rX := rX) (x := 7) hN σ' μ' g3).2
  · obtain ⟨x1, x2⟩ := exprX_s (N := N) (rX := rX) (rM := rM) (x := nI x) (y := nI y) g hs
    have y1 : fM_readExpression_b N rM (nI y) μ = bn1 (fM_readAnd N rM (nI y) μ) fun μ1 => fM_readExpression_67 N rM N (nI y) μ1 := by
      rw [x2]
      unfold fM_readExpression_38 fM_readExpression_62
      rw [if_neg (by decide), if_neg (fun q => by have := (nI_eq (b := 6) (by omega) (by omega)).mp q; omega)]
    rw [x1, e6, y1]
    exact ho σ μ tk b a L C g hL hC
theorem expr_d {N n t : Nat} {tp : Nat → Nat} (hN : 2000 ≤ N) : ∀ d, d ≤ 6 → SubOk (fReader_readExpression N (d + 2) (nI (7 - d))) (fM_readExpression N (d + 2) (nI (6 - d))) tp n t (if d = 0 then 0 else 5 * d + 1) := by
  intro d
  induction d with
  | zero => intro _; exact expr7 hN
  | succ d ih =>
    intro hd
    have h := ih (by omega)
    rw [show 7 - d = 7 - (d + 1) + 1 by omega, show 6 - d = 6 - (d + 1) + 1 by omega] at h
    refine SubOk.mono (exprS (N := N) (x := 7 - (d + 1)) (y := 6 - (d + 1)) hN (by omega) (by omega) h) ?_
    rw [if_neg (show ¬ d + 1 = 0 by omega)]
    split <;> omega
theorem expr_e {N n t : Nat} {tp : Nat → Nat} (hN : 2000 ≤ N) : SubOk (fReader_readExpression N 8 1) (fM_readExpression N 8 0) tp n t 31 := by
  exact expr_d (N := N) (n := n) (t := t) (tp := tp) hN 6 (by omega)
theorem expr_b {N t : Nat} (hN : 2000 ≤ N) : BOk (fReader_readExpression N 8 1) (fM_readExpression N 8 0) t := by
  intro σ μ h
  constructor
  · show fReader_readExpression_b N (fReader_readExpression N 7) 1 σ = some σ
    have e6 : ∀ s0, fReader_readExpression_30 N (fReader_readExpression N 7) 1 s0 σ = some σ := fun s0 => by
      unfold fReader_readExpression_30
      rw [if_pos (by decide)]
      exact (or_b (rM := fM_readExpression N 7) (y := 0) hN σ μ h).1
    unfold fReader_readExpression_b fReader_readExpression_25
    rw [e6, e6]
    by_cases c1 : σ.1 117 0 0 0 = 2
    · rw [if_pos c1]
    · by_cases c2 : σ.1 117 0 0 0 = 1
      · rw [if_neg c1, if_pos c2]
      · by_cases c3 : σ.1 117 0 0 0 = 40
        · rw [if_neg c1, if_neg c2, if_pos c3]
        · rw [if_neg c1, if_neg c2, if_neg c3]
  · show fM_readExpression_b N (fM_readExpression N 7) 0 μ = some μ
    exact if_neg h.y
