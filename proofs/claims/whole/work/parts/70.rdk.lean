/-! clauses with expressions -/
def xUnl (N : Nat) (σ : St) : Option St := bn1 (fReader_readExpression N 8 1 σ) fun σ2 => bn1 (fReader_isWord N 7 σ2) fun r3 => if r3 = 0 then some σ2 else bn1 (fReader_advance N σ2) fun σ4 => bn1 (fReader_readExpression N 8 1 σ4) fun σ5 => chk (inb (σ5.1 121 0 0 0) 17) (fAct_emit N (σ5.1 121 0 0 0).toNatClampNeg (-5) σ5)
def mUnl (N y : Nat) (μ : St) : Option St := bn1 (fM_readExpression N 8 0 μ) fun σ7 => nm (sI σ7 243 0 0 y (σ7.1 258 0 0 0)) fun (σ8 : St) => bn1 (fM_is N 33 σ8) fun r9 => if r9 = 0 then some σ8 else bn1 (fM_step N σ8) fun σ10 => fM_readExpression N 8 0 σ10
theorem wexp_e {N n t k : Nat} {tp : Nat → Nat} {σ μ : St} {tk : Tok} {b a L C : Nat} (hN : 2000 ≤ N) (g : GS tp n t σ μ tk b a L C) (hL : L + 1 ≤ b) (hC : 2 * C + 3 ≤ 3 * b) :
    ∃ σ' μ', xUnl N σ = some σ' ∧ mUnl N (24 * t + k) μ = some μ' ∧ PFX t σ σ' ∧ RM t k C μ μ' ∧ (BS t σ' μ' ∨ CK t L σ σ' ∧ ∃ (tk' : Tok) (b' a' : Nat) (e : Ex) (u : Option Ex), GS tp n t σ' μ' tk' b' a' (L + (e.cX ++ uX u).length) (C + e.cM.length + (uM u).length) ∧ b ≤ b' ∧ L + (e.cX ++ uX u).length + 1 ≤ b' ∧ 2 * (C + e.cM.length + (uM u).length) ≤ 3 * b' ∧ e.ok ∧ e.hgt ≤ 31 ∧ (∀ d, u = some d → d.ok ∧ d.hgt ≤ 31) ∧ At (fun j => σ'.1 1 t 0 j) L (e.cX ++ uX u) ∧ At (fun j => μ'.1 245 0 0 j) (1000 * t + C) e.cM ∧ At (fun j => μ'.1 245 0 0 j) (1000 * t + (C + e.cM.length)) (uM u) ∧ μ'.1 243 0 0 (24 * t + k) = nI (C + e.cM.length) ∧ SameC (24 * t + k) (fun f => decide (f = 243)) μ μ') := by
  obtain ⟨σ1, μ1, i1, i2, i3, i4, i5⟩ := expr_e (n := n) (t := t) (tp := tp) hN σ μ tk b a L C g (by omega) (by omega)
  unfold xUnl mUnl
  rw [i1, i2, bn1_e, bn1_e, nmx]
  rcases i5 with i5 | ⟨i5, tk2, b2, a2, e, g2, q1, q2, q3, q4, q5, q6⟩
  · have h2 : BS t σ1 (sI μ1 243 0 0 (24 * t + k) (μ1.1 258 0 0 0)) := i5.keM (by decide)
    refine ⟨σ1, _, ?_, ?_, i3, (i4.rm (Nat.le_refl _)).tr (RM.s (by decide)), Or.inl h2⟩
    · rw [h2.wX, bn1_e, if_pos rfl]
    · rw [h2.wM (by omega), bn1_e, if_pos rfl]
  · obtain ⟨n1, n2, n3⟩ := g2.ps.bn
    have g3 : GS tp n t σ1 (sI μ1 243 0 0 (24 * t + k) (nI (C + e.cM.length))) tk2 b2 a2 (L + e.cX.length) (C + e.cM.length) := g2.wM (by decide)
    rw [g2.hC]
    have r1 : RM t k C μ (sI μ1 243 0 0 (24 * t + k) (nI (C + e.cM.length))) := (i4.rm (Nat.le_refl _)).tr (RM.s (by decide))
    rcases gW_e (N := N) (k := 7) (ks := 33) (by omega) g3 (by decide) (by decide) (by decide) with ⟨e1, e2, e3⟩ | ⟨e1, e2, e3⟩
    · have hba := g3.lt (by rw [e1]; nofun)
      obtain ⟨tk3, b3, a3, σ2, μ2, k1, k2, k3, k4, k5, k6⟩ := rstep_e hN g3
      obtain ⟨σ3, μ3, j1, j2, j3, j4, j5⟩ := expr_e (n := n) (t := t) (tp := tp) hN σ2 μ2 tk3 b3 a3 _ _ k3 (by omega) (by omega)
      have p2 : PFX t σ σ3 := (i3.tr (k5.pX lexX_rd)).tr j3
      have r2 : RM t k C μ μ3 := (r1.tr (lexM_rdM k6).rm).tr (j4.rm (by omega))
      have ht := k3.ps.ht
      rcases j5 with j5 | ⟨j5, tk4, b4, a4, d, g4, q1', q2', q3', q4', q5', q6'⟩
      · obtain ⟨σ4, l1, l2, l3⟩ := j5.emX (N := N) (-5)
        refine ⟨σ4, μ3, ?_, ?_, p2.tr l3, r2, Or.inl l2⟩
        · rw [show fReader_isWord N 7 σ1 = some 1 from e2, bn1_e, if_neg (by decide), k1, bn1_e, j1, bn1_e, j5.tX, chk_t (inb_n ht (by decide)), nI_clamp (by omega), l1]
        · rw [e3, bn1_e, if_neg (by decide), k2, bn1_e, j2]
      · obtain ⟨m1, m2, m3⟩ := g4.ps.bn
        have lu : (e.cX ++ uX (some d)).length = e.cX.length + d.cX.length + 1 := by simp [uX]; omega
        have lM : (uM (some d)).length = d.cM.length := rfl
        have gE := g4.emX (-5)
        have p3 : PFX t σ (sI (sI σ3 1 t 0 (L + e.cX.length + d.cX.length) (-5)) 2 t 0 0 (nI (L + e.cX.length + d.cX.length + 1))) := p2.tr PFX.em
        have hmid : μ3.1 243 0 0 (24 * t + k) = nI (C + e.cM.length) := by
          rw [j4.o _ _ _ _ (by decide) (by decide), k6.1 _ _ _ _ (by decide), sI_s]
        refine ⟨_, μ3, ?_, ?_, p3, r2, Or.inr ⟨?_, tk4, b4, a4, e, some d, ?_, by omega, by rw [lu]; omega, by rw [lM]; omega, q3, q4, ?_, ?_, ?_, ?_, hmid, ?_⟩⟩
        · rw [show fReader_isWord N 7 σ1 = some 1 from e2, bn1_e, if_neg (by decide), k1, bn1_e, j1, bn1_e, g4.ps.tX, chk_t (inb_n ht (by decide)), nI_clamp (by omega), emX_e g4.hL (by omega)]
        · rw [e3, bn1_e, if_neg (by decide), k2, bn1_e, j2]
        · refine ((i5.tr (k5.ck (L := L) (by decide)) (Nat.le_refl _)).tr j5 (by omega)).tr (CK.em (L := L + e.cX.length + d.cX.length)) (by omega)
        · rw [lu, lM, show L + (e.cX.length + d.cX.length + 1) = L + e.cX.length + d.cX.length + 1 by omega]
          exact gE
        · rintro d' hd
          cases hd
          exact ⟨q3', q4'⟩
        · refine (At_app _ _ _).mpr ⟨?_, (At_app _ _ _).mpr ⟨?_, ?_, trivial⟩⟩
          · refine At_eq _ _ (fun j a1 a2 => ?_) q5
            try dsimp only
            rw [sI_o (by decide), sI_i (by omega), j5 j (by omega), k5.1 _ _ _ _ (by decide)]
          · refine At_eq _ _ (fun j a1 a2 => ?_) q5'
            try dsimp only
            rw [sI_o (by decide), sI_i (by omega)]
          · dsimp only
            rw [sI_o (by decide), sI_s]
        · refine At_eq _ _ (fun j a1 a2 => ?_) q6
          try dsimp only
          rw [j4.c j (by omega), k6.1 _ _ _ _ (by decide), sI_o (by decide)]
        · exact q6'
        · exact ((i4.sc.tr (SameC.s (by decide))).tr (lexM_rdM k6).sc).tr j4.sc
    · refine ⟨σ1, _, ?_, ?_, i3, r1, Or.inr ⟨i5, tk2, b2, a2, e, none, ?_, by omega, ?_, ?_, q3, q4, nofun, ?_, ?_, trivial, sI_s .., ?_⟩⟩
      · rw [show fReader_isWord N 7 σ1 = some 0 from e2, bn1_e, if_pos rfl]
      · rw [e3, bn1_e, if_pos rfl]
      · rw [show e.cX ++ uX none = e.cX from List.append_nil _]
        exact g3
      · rw [show e.cX ++ uX none = e.cX from List.append_nil _]
        omega
      · show 2 * (C + e.cM.length + 0) ≤ _
        omega
      · rw [show e.cX ++ uX none = e.cX from List.append_nil _]
        exact q5
      · exact At_eq _ _ (fun j a1 a2 => sI_o (by decide)) q6
      · exact i4.sc.tr (SameC.s (by decide))
