/-! the law asked of both; a case's delay; a value -/
theorem tellLaw_I {N n k d : Nat} {TC : Nat → List Cl} {tp : Nat → Nat} {σ μ : St} (hN : 4000 ≤ N) (h : InvB TC tp σ μ) (hn : n ≤ nT μ) (htk : takes μ (nI k) n) : ∃ μ', fM_tellLaw N (nI d) (nI k) μ = some μ' ∧ Fx lawM μ μ' ∧ ShM (TCn TC n) (shOf (TCn TC n) (frM μ) (toM μ) n d) μ' ∧ InvB TC tp σ μ' := by
  obtain ⟨μ', a1, a2, a3⟩ := tellLaw_e (N := N) (d := nI d) (by omega) (h.tx.m.tn hn) h.tx.d htk
  exact ⟨μ', a1, a2, a3, h.sc (fun f a b i q q2 => a2.law (by omega)) (fun f a b i _ => by rw [a2.2])⟩
theorem par_X {N v n d k : Nat} {TC : Nat → List Cl} {fr to : Nat → Int32} {σ : St} (hL : LawX v TC fr to n σ) (hk : k < 8) (hd : d < 936) : fLaw_param N v (nI k) (nI d) σ = some ((shOf TC fr to n d).par k) := by
  obtain ⟨s, s1, s2, s3⟩ := hL d hd
  unfold fLaw_param
  rw [chk_t (inb_n hd (by decide)), nI_clamp (n := d) (by omega), show σ.1 63 v 0 d = nI s from s2, chk_t (inb_n s1 (by decide)), chk_t (inb_n hk (by decide)), nI_clamp (n := s) (by omega), nI_clamp (n := k) (by omega), show σ.1 64 v s k = _ from s3.2.2.1 k hk]
theorem ins_X {N v n d t : Nat} {TC : Nat → List Cl} {fr to : Nat → Int32} {σ : St} (hL : LawX v TC fr to n σ) (hd : d < 936) : fLaw_insures N v (nI t) (nI d) σ = some (if ((shOf TC fr to n d).ins >>> (nI t &&& 31)) &&& 1 = 0 then 0 else 1) := by
  obtain ⟨s, s1, s2, s3⟩ := hL d hd
  unfold fLaw_insures
  rw [chk_t (inb_n hd (by decide)), nI_clamp (n := d) (by omega), show σ.1 63 v 0 d = nI s from s2, chk_t (inb_n s1 (by decide)), nI_clamp (n := s) (by omega), show σ.1 67 v 0 s = _ from s3.2.2.2.1]
  by_cases z : ((shOf TC fr to n d).ins >>> (nI t &&& 31)) &&& 1 = 0
  · rw [if_pos z, if_pos z]
  · rw [if_neg z, if_neg z]
theorem par_N {N n d k : Nat} {TC : Nat → List Cl} {fr to : Nat → Int32} {μ : St} (hS : ShM TC (shOf TC fr to n d) μ) (hk : k < 8) : fM_param N (nI k) μ = some ((shOf TC fr to n d).par k) := by
  unfold fM_param
  rw [chk_t (inb_n hk (by decide)), nI_clamp (by omega)]
  exact congrArg some (hS.2.2.2.1 k hk)
theorem ins_N {N n d t : Nat} {TC : Nat → List Cl} {fr to : Nat → Int32} {μ : St} (hT : TxM TC n μ) (hn : n ≤ 17) (hS : ShM TC (shOf TC fr to n d) μ) : fM_isInsured N (nI t) μ = some (if ((shOf TC fr to n d).ins >>> (nI t &&& 31)) &&& 1 = 0 then 0 else 1) := by
  unfold fM_isInsured
  rw [nmx]
  rcases ins_M hT hn hS with ⟨a, b⟩ | ⟨j, j1, j2, j3⟩
  · rw [show μ.1 264 0 0 0 = -1 from a, if_pos rfl, b, if_pos]
    have : (0 : Int32) >>> (nI t &&& 31) = 0 := by
      apply Int32.toBitVec_inj.mp
      rw [Int32.toBitVec_shiftRight]
      exact BitVec.zero_sshiftRight
    rw [this]
    rfl
  · rw [show μ.1 264 0 0 0 = nI j from j2, if_neg (m1_ne (by omega)), chk_t (inb_n j1 (by decide)), nI_clamp (by omega), show μ.1 240 0 0 j = _ from j3]
    rcases and1 ((shOf TC fr to n d).ins >>> (nI t &&& 31)) with z | z
    · rw [z, if_neg (by decide), if_pos rfl]
    · rw [z, if_pos rfl, if_neg (by decide)]
theorem step_law {N : Nat} {σ μ : St} (hN : 4000 ≤ N) (h : Inv σ μ) (a1 a2 : Int32) : StQ (fX_law N a1 a2 σ) (fM_law N a1 a2 μ) := by
  obtain ⟨TC, tp, h0⟩ := h
  obtain ⟨ν, hν⟩ : ∃ ν, ν = sI μ 204 0 0 0 0 := ⟨_, rfl⟩
  have h : InvB TC tp σ ν := by rw [hν]; exact h0.code
  have hc : ν.1 204 0 0 0 = 0 := by rw [hν, sI_s]
  have c := h.rg.cns
  obtain ⟨k1, k2, k3, k4⟩ := kD_e (N := N) h
  have hd := c.d
  have hT := c.T.2
  have k2' := k2 ν ⟨fun _ _ _ _ _ _ => rfl, fun _ _ _ _ _ _ _ => rfl⟩
  have fl : StQ (some (none, σ)) (fM_law_48 N ν) := StQ.fail ⟨TC, tp, h⟩
  obtain ⟨v, n, σ1, b1, b2, b3, b4, b5, b6, b7, b8, b9, -⟩ := asOfThe_e hN h
  have bad : ∀ x s0 s1 : Int32, (s0 < 0 ∨ 8 ≤ s0) → fX_law_42 N a1 a2 x s0 8 σ = some (none, σ) := fun x s0 s1 q => by
    unfold fX_law_42
    rw [reqE_e, btR_i, if_pos q]
  have mbad : fM_law_31 N a1 a2 ν = fM_law_48 N ν := rfl
  unfold fX_law fM_law
  rw [nmx, ← hν, reqE_e, btR_i]
  by_cases c2 : a2 < 0 ∨ 936 ≤ a2
  · rw [if_pos c2]
    have m27 : fM_law_27 N a1 a2 ν = fM_law_48 N ν := by
      unfold fM_law_27 fM_law_32
      rw [if_neg (by decide)]
      by_cases z : a2 < 0
      · rw [if_pos z]
      · rw [if_neg z, if_neg]
        intro q
        rcases c2 with y | y
        · exact z y
        · exact absurd (Int32.le_trans y q) (by decide)
    have m15 : fM_law_15 N a1 a2 ν = fM_law_48 N ν := by
      unfold fM_law_15
      rw [m27, mbad]
      (repeat' split) <;> rfl
    rw [m27, m15]
    (repeat' split) <;> exact fl
  · rw [if_neg c2]
    obtain ⟨d, hd2, rfl⟩ : ∃ d, d < 936 ∧ a2 = nI d := by
      rcases arg32 a2 with q | ⟨w, w1, rfl⟩
      · exact absurd (Or.inl q) c2
      · exact ⟨w, Classical.byContradiction fun q => c2 (Or.inr (nI_le (a := 936) (by omega) (by omega))), rfl⟩
    obtain ⟨μ2, t1, t2, t3, t4⟩ := tellLaw_I (d := d) hN h b3 b5
    have hc2 : μ2.1 204 0 0 0 = 0 := (t2.law (by decide)).trans hc
    have hI : Inv σ1 μ2 := ⟨TC, tp, b9.sc (fun f a b i q q2 => t2.law (by omega)) (fun f a b i _ => by rw [t2.2])⟩
    have m27 : fM_law_27 N a1 (nI d) ν = if 8 ≤ a1 then (bn1 (fM_isInsured N (a1 - 10) μ2) fun r3 => if r3 = 0 then some (0, μ2) else some (1, μ2)) else (bn1 (fM_param N a1 μ2) fun r4 => some (r4, μ2)) := by
      unfold fM_law_27 fM_law_32
      rw [if_neg (by decide), if_neg (nI_pos (by omega)), if_pos (show nI d ≤ 935 from nI_le (b := 935) (by omega) (by decide)), k2', bn1_e, t1, bn1_e]
    rcases arg32 a1 with z | ⟨j, j1, rfl⟩
    · rw [if_pos (show a1 < 10 from Int32.lt_trans z (by decide)), if_pos z]
      unfold fX_law_18 fX_law_31 fM_law_15
      rw [if_pos rfl, if_pos rfl, if_pos (show a1 < 10 from Int32.lt_trans z (by decide)), mbad, bad 0 a1 8 (Or.inl z)]
      exact fl
    · rw [if_neg (nI_pos (n := j) (by omega))]
      by_cases q8 : j < 8
      · rw [if_pos (show nI j < 10 from (nI_ltI (b := 10) j1 (by decide)).mpr (by omega)), if_pos (show nI j < 8 from (nI_ltI (b := 8) j1 (by decide)).mpr (by omega)), m27, if_neg (show ¬ 8 ≤ nI j from nI_ge (b := 8) (by omega) (by decide))]
        unfold fX_law_18 fX_law_31 fX_law_42
        rw [if_pos rfl, if_pos rfl, reqE_e, btR_i, if_neg (show ¬ (nI j < 0 ∨ 8 ≤ nI j) from fun z => z.elim (nI_pos (by omega)) (nI_ge (b := 8) (by omega) (by decide))), b1, bnd_e, if_pos rfl, par_X b8.2.1 q8 hd2, bn1_e, par_N t3 q8, bn1_e]
        exact StQ.ok hI hc2 rfl
      · by_cases q10 : j < 10
        · rw [if_pos (show nI j < 10 from (nI_ltI (b := 10) j1 (by decide)).mpr (by omega)), if_neg (show ¬ nI j < 8 from fun z => q8 ((nI_ltI (b := 8) j1 (by decide)).mp z))]
          unfold fX_law_18 fX_law_31 fM_law_15
          rw [if_pos rfl, if_pos rfl, if_pos (show nI j < 10 from (nI_ltI (b := 10) j1 (by decide)).mpr (by omega)), mbad, bad 0 (nI j) 8 (Or.inr (nI_le (a := 8) (by omega) j1))]
          exact fl
        · obtain ⟨t, rfl⟩ : ∃ t, j = 10 + t := ⟨j - 10, by omega⟩
          have e10 : nI (10 + t) - 10 = nI t := nI_subl (a := 10) (k := t)
          rw [if_neg (show ¬ nI (10 + t) < 10 from fun z => q10 ((nI_ltI (b := 10) j1 (by decide)).mp z)), if_neg (show ¬ nI (10 + t) < 8 from fun z => q8 ((nI_ltI (b := 8) j1 (by decide)).mp z))]
          unfold fX_law_18 fX_law_31 fM_law_15
          rw [if_neg (show ¬ (1 : Int32) = 0 by decide), if_neg (show ¬ (1 : Int32) = 0 by decide), e10, if_neg (show ¬ nI (10 + t) < 10 from fun z => q10 ((nI_ltI (b := 10) j1 (by decide)).mp z))]
          by_cases q17 : t < 8
          · rw [if_neg (show ¬ 17 < nI (10 + t) from fun z => by have := (nI_ltI (a := 17) (by decide) j1).mp z; omega), m27, if_pos (show 8 ≤ nI (10 + t) from nI_le (a := 8) (by omega) j1), e10]
            unfold fX_law_42
            rw [reqE_e, btR_i, if_neg (show ¬ (nI t < 0 ∨ 8 ≤ nI t) from fun z => z.elim (nI_pos (by omega)) (nI_ge (b := 8) (by omega) (by decide))), b1, bnd_e, if_neg (show ¬ (1 : Int32) = 0 by decide), e10, ins_X b8.2.1 hd2, bn1_e, ins_N ((h.tx.m.tn b3).mv (fun f i q1 q2 => t2.law (by omega))) (by omega) t3, bn1_e]
            by_cases z : ((shOf (TCn TC n) (frM ν) (toM ν) n d).ins >>> (nI t &&& 31)) &&& 1 = 0
            · rw [if_pos z, if_pos rfl, if_pos rfl]
              exact StQ.ok hI hc2 rfl
            · rw [if_neg z, if_neg (by decide), if_neg (by decide)]
              exact StQ.ok hI hc2 rfl
          · rw [if_pos (show 17 < nI (10 + t) from nI_lt (a := 17) (by omega) j1), mbad, bad 1 (nI t) 8 (Or.inr (nI_le (a := 8) (by omega) (by omega)))]
            exact fl
