/-! trying an act: both answer alike -/
theorem isSpan_e {N : Nat} {a2 a3 : Int32} {μ : St} : fM_isSpan N a2 a3 μ = some (if (a2 < 0 ∨ 935 < a2) ∨ (a3 < 0 ∨ 935 < a3) then 0 else 1) := by
  unfold fM_isSpan
  by_cases q1 : a2 < 0
  · rw [if_pos q1, if_pos (Or.inl (Or.inl q1))]
  rw [if_neg q1]
  by_cases q2 : 935 < a2
  · rw [if_pos q2, if_pos (Or.inl (Or.inr q2))]
  rw [if_neg q2]
  by_cases q3 : a3 < 0
  · rw [if_pos q3, if_pos (Or.inr (Or.inl q3))]
  rw [if_neg q3]
  by_cases q4 : 935 < a3
  · rw [if_pos q4, if_pos (Or.inr (Or.inr q4))]
  rw [if_neg q4, if_neg (fun q => q.elim (fun q => q.elim q1 q2) (fun q => q.elim q3 q4))]
theorem attempt_in {N n s : Nat} {TC : Nat → List Cl} {tp : Nat → Nat} {σ μ : St} (hN : 4000 ≤ N) (h : InvB TC tp σ μ) (hc : μ.1 204 0 0 0 = 0) (h6 : μ.1 247 0 0 0 = nI s) (hs : s ≤ 600) (hn : n ≤ s) (a2 a3 : Int32) :
    StQ (bn1 (fX_outside N a2 0 935 σ) fun r1 => if r1 = 0 then bn1 (fX_outside N a3 0 935 σ) fun r2 => if r2 = 0 then chk (inb (σ.1 159 0 0 0) 17) (bnd (fReader_read N ((σ.1 159 0 0 0).toNatClampNeg) (nI n) σ) fun r3 σ4 => if r3 = 0 then chk (inb (σ4.1 159 0 0 0) 17) (bn1 (fAct_reign N ((σ4.1 159 0 0 0).toNatClampNeg) a2 a3 (σ4.1 162 0 0 0) σ4) fun σ5 => bn1 (fX_compareWithTry N σ5) fun σ6 => some ((some r3), σ6)) else some ((some r3), σ4)) else fX_attempt_27 N σ else fX_attempt_27 N σ)
      (nm (sI μ 257 0 0 0 (-1)) fun (σ2 : St) => bn1 (fM_isSpan N a2 a3 σ2) fun r3 => if r3 = 0 then nm (sI σ2 247 0 0 0 0) fun (σ8 : St) => some (9, σ8) else bnd (fM_readText N (σ2.1 219 0 0 0) (nI n) σ2) fun r4 σ5 => if r4 = 0 then chk (inb (σ5.1 219 0 0 0) 17) <| nm (sI σ5 235 0 0 (σ5.1 219 0 0 0).toNatClampNeg a2) fun (σ6 : St) => chk (inb (σ6.1 219 0 0 0) 17) <| nm (sI σ6 236 0 0 (σ6.1 219 0 0 0).toNatClampNeg a3) fun (σ7 : St) => fM_attempt_83 N N 0 σ7 else some ((σ5.1 255 0 0 0), σ5)) := by
  have c := h.rg.cns
  have hT := c.T
  obtain ⟨T, eT⟩ : ∃ T, nT μ = T := ⟨_, rfl⟩
  rw [eT] at hT
  obtain ⟨μ2, hμ2⟩ : ∃ μ2, μ2 = sI μ 257 0 0 0 (-1) := ⟨_, rfl⟩
  have f2 : ∀ f a b i, f ≠ 257 → μ2.1 f a b i = μ.1 f a b i := fun f a b i q => by rw [hμ2, sI_o q]
  have f2i : ∀ i, i ≠ 0 → μ2.1 257 0 0 i = μ.1 257 0 0 i := fun i q => by rw [hμ2, sI_i q]
  rw [nmx, ← hμ2, isSpan_e, bn1_e]
  have bad : StQ (fX_attempt_27 N σ) (nm (sI μ2 247 0 0 0 0) fun (σ8 : St) => some (9, σ8)) := by
    have rX : fX_attempt_27 N σ = some (some 9, sI (sI σ 112 0 0 0 (-1)) 111 0 0 0 0) := by
      unfold fX_attempt_27 fReader_refuse fReader_clear
      rw [nmx, nmx, bn1_e, bn1_e]
    rw [rX, nmx]
    have g : ∀ f a b i, f ≠ 257 → f ≠ 247 → (sI μ2 247 0 0 0 0).1 f a b i = μ.1 f a b i := fun f a b i q1 q2 => by rw [sI_o q2, f2 _ _ _ _ q1]
    refine StQ.ok ⟨TC, tp, h.tx4 (fun f a b i q1 q2 q3 q4 => by rw [sI_o q3, sI_o (by omega)]) (fun f a b i q1 q2 => g _ _ _ _ (by omega) (by omega)) (fun i _ => g _ _ _ _ (by decide) (by decide)) (fun f i q1 q2 _ => g _ _ _ _ (by omega) (by omega)) (fun i _ => g _ _ _ _ (by decide) (by decide)) (by rw [hμ2]; rfl) (fun i => ?_) ?_ (fun i => ?_)⟩ ((g _ _ _ _ (by decide) (by decide)).trans hc) rfl
    · by_cases q : i = 0
      · rw [q, sI_s, sI_s]
      · rw [sI_i q, sI_i q, sI_o (by decide), f2 _ _ _ _ (by decide)]
        exact h.eq.at i (by decide)
    · rw [sI_o (by decide), sI_s, sI_o (by decide), hμ2, sI_s]
    · by_cases q : i = 0
      · rw [q, sI_s]
        decide
      · rw [sI_i q, f2 _ _ _ _ (by decide)]
        exact h.rg.at i (by decide)
  rw [outside_e, bn1_e]
  by_cases q1 : a2 < 0 ∨ 935 < a2
  · rw [if_pos q1, if_neg (show ¬ (1 : Int32) = 0 by decide), if_pos (show (a2 < 0 ∨ 935 < a2) ∨ (a3 < 0 ∨ 935 < a3) from Or.inl q1), if_pos rfl]
    exact bad
  rw [if_neg q1, if_pos rfl, outside_e, bn1_e]
  by_cases q2 : a3 < 0 ∨ 935 < a3
  · rw [if_pos q2, if_neg (show ¬ (1 : Int32) = 0 by decide), if_pos (show (a2 < 0 ∨ 935 < a2) ∨ (a3 < 0 ∨ 935 < a3) from Or.inr q2), if_pos rfl]
    exact bad
  rw [if_neg q2, if_pos rfl, if_neg (show ¬ ((a2 < 0 ∨ 935 < a2) ∨ (a3 < 0 ∨ 935 < a3)) from fun q => q.elim q1 q2), if_neg (show ¬ (1 : Int32) = 0 by decide)]
  have b2 : 0 ≤ a2.toInt ∧ a2.toInt ≤ 935 := by
    have z1 := Int32.not_lt.mp (fun q => q1 (Or.inl q))
    have z2 := Int32.not_lt.mp (fun q => q1 (Or.inr q))
    exact ⟨Int32.le_iff_toInt_le.mp z1, Int32.le_iff_toInt_le.mp z2⟩
  have b3 : 0 ≤ a3.toInt ∧ a3.toInt ≤ 935 := by
    have z1 := Int32.not_lt.mp (fun q => q2 (Or.inl q))
    have z2 := Int32.not_lt.mp (fun q => q2 (Or.inr q))
    exact ⟨Int32.le_iff_toInt_le.mp z1, Int32.le_iff_toInt_le.mp z2⟩
  obtain ⟨r, σ2, ν, r1, r2, R⟩ := read_both (N := N) (n := n) (s := s) (T := T) hN h eT h6 hs hn
  have h80 : σ.1 159 0 0 0 = nI T := (h.eq.at (g := 219) 0 (by decide)).trans hT.1
  rw [f2 _ _ _ _ (by decide), hT.1, hμ2, r2, bnd_e, h80, chk_t (inb_n (by omega) (by decide)), nI_clamp (by omega), r1, bnd_e]
  by_cases z : r = 0
  · subst z
    rw [if_pos rfl, if_pos rfl]
    exact try_ok hN h hc eT R b2 b3
  · rw [if_neg z, if_neg z]
    exact StQ.ok ⟨TC, tp, R.inv h eT⟩ ((R.m _ _ _ _ (by decide) (by decide)).trans hc) R.r
theorem step_attempt {N : Nat} {σ μ : St} (hN : 4000 ≤ N) (h : Inv σ μ) (a1 a2 a3 : Int32) : StQ (fX_attempt N a1 a2 a3 σ) (fM_attempt N a1 a2 a3 μ) := by
  obtain ⟨TC, tp, h⟩ := h
  obtain ⟨s, h6, es, cs, -, hs⟩ := h.rg.n (g := 247) (lo := 0) (hi := 600) 0 (by decide) (by decide)
  have h7 : σ.1 111 0 0 0 = nI s := (h.eq.at 0 (by decide)).trans h6
  have hc := h.code (x := 0)
  have h6' : (sI μ 204 0 0 0 0).1 247 0 0 0 = nI s := by rw [sI_o (by decide)]; exact h6
  unfold fX_attempt fM_attempt fX_requireOnTape fX_requireOnTape_15 fM_attempt_17 fM_fail
  rw [nmx, nmx, bnd_e, h7, h6']
  by_cases q1 : a1 < 0
  · rw [if_pos q1, if_pos q1]
    exact StQ.fail ⟨TC, tp, hc⟩
  rw [if_neg q1, if_neg q1]
  by_cases q2 : a1 ≤ nI s
  · rw [if_pos q2, if_pos q2]
    obtain ⟨n, hn, rfl⟩ := nI_of q1
    have z1 := Int32.le_iff_toInt_le.mp q2
    rw [nI_toInt hn, nI_toInt (by omega)] at z1
    exact attempt_in hN hc (sI_s _ _ _ _ _ _) h6' (by omega) (by omega) a2 a3
  · rw [if_neg q2, if_neg q2]
    exact StQ.fail ⟨TC, tp, hc⟩
