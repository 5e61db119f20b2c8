/-! a text is told: both answer alike -/
theorem TxI.same {TC : Nat → List Cl} {σ μ τ ν : St} (h : TxI TC σ μ) (hx : ∀ f a b i, 1 ≤ f → f ≤ 15 → a < nT μ → τ.1 f a b i = σ.1 f a b i) (hm : ∀ f i, f = 219 ∨ (235 ≤ f ∧ f ≤ 237) ∨ f = 205 ∨ f = 203 ∨ f = 266 → ν.1 f 0 0 i = μ.1 f 0 0 i) (h0 : ∀ i, i < nT μ → ν.1 238 0 0 i = μ.1 238 0 0 i) (h1 : ∀ f i, 239 ≤ f → f ≤ 244 → i < 24 * nT μ → ν.1 f 0 0 i = μ.1 f 0 0 i) (h2 : ∀ j, j < 1000 * nT μ → ν.1 245 0 0 j = μ.1 245 0 0 j) : TxI TC τ ν := by
  have eT : nT ν = nT μ := by unfold nT; rw [hm _ _ (Or.inl rfl)]
  have eF : frM ν = frM μ := funext fun t => hm _ _ (by decide)
  have eO : toM ν = toM μ := funext fun t => hm _ _ (by decide)
  refine ⟨?_, ?_, fun t ht => ?_, fun t ht => ?_, fun t t' q1 q2 => ?_, fun k hk => ?_, ?_⟩
  · rw [eF, eO, eT]
    exact h.x.mva (fun f a b i q1 q2 q3 => hx f a b i q1 (by omega) q3)
  · rw [eT]
    exact h.m.mvi h0 h1 h2
  · rw [eT] at ht
    rw [hx _ _ _ _ (by decide) (by decide) ht, hm _ _ (by decide)]
    exact h.o t ht
  · rw [eT] at ht
    rw [hm _ _ (by decide), hm _ _ (by decide)]
    exact h.l t ht
  · rw [eT] at q2
    rw [hm _ _ (by decide), hm _ _ (by decide)]
    exact h.a t t' q1 q2
  · rw [hm _ _ (by decide)]
    exact h.d k hk
  · rw [hm _ _ (by decide)]
    exact h.y
theorem TxI.grow {TC : Nat → List Cl} {σ μ σ' μ' τ ν : St} {T : Nat} {fr to : Int32} (h : TxI TC σ μ) (hT : nT μ = T) (eT : nT ν = T + 1) (hx : ∀ f a b i, 1 ≤ f → f ≤ 15 → a < T → τ.1 f a b i = σ.1 f a b i) (hxT : ∀ f b i, 1 ≤ f → f ≤ 12 → τ.1 f T b i = σ'.1 f T b i) (x13 : τ.1 13 T 0 0 = fr) (x14 : τ.1 14 T 0 0 = to) (x15 : τ.1 15 T 0 0 = μ.1 205 0 0 0) (m1 : ν.1 235 0 0 T = fr) (m2 : ν.1 236 0 0 T = to) (m3 : ν.1 237 0 0 T = μ.1 205 0 0 0) (mlt : ∀ f i, 235 ≤ f → f ≤ 237 → i < T → ν.1 f 0 0 i = μ.1 f 0 0 i) (hm : ∀ f i, f = 205 ∨ f = 203 ∨ f = 266 → ν.1 f 0 0 i = μ.1 f 0 0 i) (h0 : ∀ i, i < T → ν.1 238 0 0 i = μ.1 238 0 0 i) (h1 : ∀ f i, 239 ≤ f → f ≤ 244 → i < 24 * T → ν.1 f 0 0 i = μ.1 f 0 0 i) (h2 : ∀ j, j < 1000 * T → ν.1 245 0 0 j = μ.1 245 0 0 j) (hd : Txd T σ' μ') (hdM : ∀ f i, 238 ≤ f → f ≤ 245 → ν.1 f 0 0 i = μ'.1 f 0 0 i) (b1 : 0 ≤ fr.toInt ∧ fr.toInt ≤ 935) (b2 : 0 ≤ to.toInt ∧ to.toInt ≤ 935) : ∃ l, TxI (fun t => if t = T then l else TC t) τ ν := by
  obtain ⟨l, L, C, ⟨c1, ⟨a1, a2, a3, a4, a5, a6, a7, a8, a9⟩⟩, c2, c3, c4, c5, c6⟩ := hd
  have eF : ∀ t, t < T → frM ν t = frM μ t := fun t ht => mlt _ _ (by decide) (by decide) ht
  have eO : ∀ t, t < T → toM ν t = toM μ t := fun t ht => mlt _ _ (by decide) (by decide) ht
  have s : ∀ f b i, 1 ≤ f → f ≤ 12 → τ.1 f T b i = σ'.1 f T b i := hxT
  refine ⟨l, fun t ht => ?_, fun t ht => ?_, fun t ht => ?_, fun t ht => ?_, fun t t' q1 q2 => ?_, fun k hk => ?_, ?_⟩
  · rw [eT] at ht
    by_cases e : t = T
    · rw [e]
      dsimp only
      rw [if_pos rfl]
      refine ⟨⟨(s _ _ _ (by decide) (by decide)).trans a1, fun k hk => (s _ _ _ (by decide) (by decide)).trans (a2 k hk), (s _ _ _ (by decide) (by decide)).trans a3, (s _ _ _ (by decide) (by decide)).trans a4, (s _ _ _ (by decide) (by decide)).trans a5, (s _ _ _ (by decide) (by decide)).trans a6, fun i c hc => (s _ _ _ (by decide) (by decide)).trans (a7 i c hc), (s _ _ _ (by decide) (by decide)).trans a8, fun i c hc => ⟨(s _ _ _ (by decide) (by decide)).trans (a9 i c hc).1, (s _ _ _ (by decide) (by decide)).trans (a9 i c hc).2⟩⟩, ⟨L, c3, (s _ _ _ (by decide) (by decide)).trans c2, fun i c hc => ⟨(c1 i c hc).1, fun w => ⟨At_eq _ _ (fun j b1 b2 => s _ _ _ (by decide) (by decide)) ((c1 i c hc).2.1 w).1, ((c1 i c hc).2.1 w).2⟩⟩⟩, c6, x13.trans m1.symm, x14.trans m2.symm, ?_, ?_⟩
      · unfold frM
        rw [m1]
        exact b1
      · unfold toM
        rw [m2]
        exact b2
    · have h3 : t < T := by omega
      have := (h.x.mva (σ' := τ) (fun f a b i q1 q2 q3 => hx f a b i q1 (by omega) (by omega))) t (by omega)
      dsimp only
      rw [if_neg e, eF t h3, eO t h3]
      exact this
  · rw [eT] at ht
    by_cases e : t = T
    · rw [e]
      dsimp only
      rw [if_pos rfl]
      refine ⟨(hdM _ _ (by decide) (by decide)).trans c5, c6, fun i c hc => ⟨(c1 i c hc).1, ?_⟩⟩
      exact (c1 i c hc).2.2.mvi c4 (fun f q1 q2 => hdM f _ (by omega) (by omega)) (fun j hj => hdM _ _ (by decide) (by decide))
    · have := (h.m.mvi (μ' := ν) (fun i hi => h0 i (by omega)) (fun f i q1 q2 q3 => h1 f i q1 q2 (by omega)) (fun j hj => h2 j (by omega))) t (by omega)
      dsimp only
      rw [if_neg e]
      exact this
  · rw [eT] at ht
    by_cases e : t = T
    · rw [e, x15, m3]
    · rw [hx _ _ _ _ (by decide) (by decide) (by omega), mlt _ _ (by decide) (by decide) (by omega)]
      exact h.o t (by omega)
  · rw [eT] at ht
    rw [hm 205 0 (by decide)]
    by_cases e : t = T
    · rw [e, m3]
      exact Int32.le_refl _
    · rw [mlt _ _ (by decide) (by decide) (by omega)]
      exact h.l t (by omega)
  · rw [eT] at q2
    by_cases e : t' = T
    · rw [e, m3]
      by_cases e2 : t = T
      · rw [e2, m3]
        exact Int32.le_refl _
      · rw [mlt _ _ (by decide) (by decide) (by omega)]
        exact h.l t (by omega)
    · rw [mlt _ _ (by decide) (by decide) (by omega), mlt _ _ (by decide) (by decide) (by omega)]
      exact h.a t t' q1 (by omega)
  · rw [hm _ _ (by decide)]
    exact h.d k hk
  · rw [hm _ _ (by decide)]
    exact h.y
theorem InvB.tx4 {TC : Nat → List Cl} {tp : Nat → Nat} {σ μ τ ν : St} (h : InvB TC tp σ μ) (hx : ∀ f a b i, ¬ (112 ≤ f ∧ f ≤ 121) → ¬ ((1 ≤ f ∧ f ≤ 12) ∧ a = nT μ) → f ≠ 111 → f ≠ 160 → τ.1 f a b i = σ.1 f a b i) (hm : ∀ f a b i, ¬ (247 ≤ f ∧ f ≤ 259) → ¬ (238 ≤ f ∧ f ≤ 245) → ν.1 f a b i = μ.1 f a b i) (h0 : ∀ i, i < nT μ → ν.1 238 0 0 i = μ.1 238 0 0 i) (h1 : ∀ f i, 239 ≤ f → f ≤ 244 → i < 24 * nT μ → ν.1 f 0 0 i = μ.1 f 0 0 i) (h2 : ∀ j, j < 1000 * nT μ → ν.1 245 0 0 j = μ.1 245 0 0 j) (lJ : ν.2 = μ.2) (e1 : ∀ i, τ.1 111 0 0 i = ν.1 247 0 0 i) (e2 : τ.1 112 0 0 0 = ν.1 257 0 0 0) (e3 : ∀ i, 0 ≤ (ν.1 247 0 0 i).toInt ∧ (ν.1 247 0 0 i).toInt ≤ 600) : InvB TC tp τ ν := by
  have eT : nT ν = nT μ := by unfold nT; rw [hm _ _ _ _ (by decide) (by decide)]
  have eP : nP ν = nP μ := by unfold nP; rw [hm _ _ _ _ (by decide) (by decide)]
  have cP := h.rg.cns.P
  refine h.tx2 (h.eq.rd (fun f i q1 q2 q3 q4 q5 => hx _ _ _ _ q3 (by omega) q2 q5) (fun f i q1 q2 q3 q4 q5 => hm _ _ _ _ q4 (by omega)) e1 (fun i => ?_)) (h.rg.rd (fun f i q1 q2 q3 q4 q5 => hm _ _ _ _ q4 (by omega)) e3 (fun i => ?_) (fun f i q => ?_)) (h.tx.same (fun f a b i q1 q2 q3 => hx _ _ _ _ (by omega) (by omega) (by omega) (by omega)) (fun f i q => hm _ _ _ _ (by omega) (by omega)) h0 h1 h2) (by omega) (fun _ _ => rfl) (fun t _ => ⟨hm _ _ _ _ (by decide) (by decide), hm _ _ _ _ (by decide) (by decide)⟩) (fun f a b i q => hx _ _ _ _ q.2.2.1 (by have := q.1; omega) q.2.1 q.2.2.2.2) (fun f a b i q => hm _ _ _ _ q.2.2.2.1 (by have := q.2.2.1; omega)) lJ ?_ e2
  · rw [hx _ _ _ _ (by decide) (by omega) (by decide) (by decide), hm _ _ _ _ (by decide) (by decide)]
    exact h.eq.at i (by decide)
  · rw [hm _ _ _ _ (by decide) (by decide)]
    exact h.rg.at i (by decide)
  · rw [hm _ _ _ _ (by omega) (by omega)]
    have w : f = 235 ∨ f = 236 ∨ f = 237 := by omega
    rcases w with rfl | rfl | rfl
    · exact h.rg.at i (by decide)
    · exact h.rg.at i (by decide)
    · exact h.rg.at i (by decide)
  · rw [eP]
    refine h.rn.mv (fun k => SmA.sr cP.2 (fun f a b i q => hm _ _ _ _ ?_ ?_)) (fun f i q => hm _ _ _ _ (by omega) (by omega)) (fun f i q => by rw [lJ])
    · have w : ∀ f, (f ∈ LO ∨ f ∈ LB ∨ f ∈ LT ∨ f = 212 ∨ f = 214) → ¬ (247 ≤ f ∧ f ≤ 259) := by
        have w1 : ∀ f ∈ LO ++ LB ++ LT, ¬ (247 ≤ f ∧ f ≤ 259) := by decide
        intro f q
        rcases q with q | q | q | q | q
        · exact w1 f (List.mem_append_left _ (List.mem_append_left _ q))
        · exact w1 f (List.mem_append_left _ (List.mem_append_right _ q))
        · exact w1 f (List.mem_append_right _ q)
        · omega
        · omega
      exact w f q
    · have w : ∀ f, (f ∈ LO ∨ f ∈ LB ∨ f ∈ LT ∨ f = 212 ∨ f = 214) → ¬ (238 ≤ f ∧ f ≤ 245) := by
        have w1 : ∀ f ∈ LO ++ LB ++ LT, ¬ (238 ≤ f ∧ f ≤ 245) := by decide
        intro f q
        rcases q with q | q | q | q | q
        · exact w1 f (List.mem_append_left _ (List.mem_append_left _ q))
        · exact w1 f (List.mem_append_left _ (List.mem_append_right _ q))
        · exact w1 f (List.mem_append_right _ q)
        · omega
        · omega
      exact w f q
theorem text_in {N n s : Nat} {TC : Nat → List Cl} {tp : Nat → Nat} {σ μ : St} (hN : 4000 ≤ N) (h : InvB TC tp σ μ) (hc : μ.1 204 0 0 0 = 0) (h6 : μ.1 247 0 0 0 = nI s) (hs : s ≤ 600) (hn : n ≤ s) (a2 a3 : Int32) :
    StQ (if 16 ≤ (σ.1 159 0 0 0) then fX_text_36 N σ else bn1 (fX_outside N a2 0 935 σ) fun r1 => if r1 = 0 then bn1 (fX_outside N a3 0 935 σ) fun r2 => if r2 = 0 then chk (inb (σ.1 159 0 0 0) 17) (bnd (fReader_read N ((σ.1 159 0 0 0).toNatClampNeg) (nI n) σ) fun r3 σ4 => if r3 = 0 then chk (inb (σ4.1 159 0 0 0) 17) (bn1 (fAct_reign N ((σ4.1 159 0 0 0).toNatClampNeg) a2 a3 (σ4.1 162 0 0 0) σ4) fun σ5 => nm (sI σ5 159 0 0 0 ((σ5.1 159 0 0 0) + 1)) fun (σ6 : St) => some ((some ((σ6.1 159 0 0 0) - 1)), σ6)) else some ((some ((-1) - r3)), σ4)) else fX_text_36 N σ else fX_text_36 N σ)
      (nm (sI μ 257 0 0 0 (-1)) fun (σ2 : St) => if (σ2.1 219 0 0 0) = 16 then fM_text_44 N σ2 else bn1 (fM_isSpan N a2 a3 σ2) fun r3 => if r3 = 0 then fM_text_44 N σ2 else bnd (fM_readText N (σ2.1 219 0 0 0) (nI n) σ2) fun r4 σ5 => if r4 = 0 then chk (inb (σ5.1 219 0 0 0) 17) <| nm (sI σ5 235 0 0 (σ5.1 219 0 0 0).toNatClampNeg a2) fun (σ6 : St) => chk (inb (σ6.1 219 0 0 0) 17) <| nm (sI σ6 236 0 0 (σ6.1 219 0 0 0).toNatClampNeg a3) fun (σ7 : St) => chk (inb (σ7.1 219 0 0 0) 17) <| nm (sI σ7 237 0 0 (σ7.1 219 0 0 0).toNatClampNeg (σ7.1 205 0 0 0)) fun (σ8 : St) => nm (sI σ8 219 0 0 0 ((σ8.1 219 0 0 0) + 1)) fun (σ9 : St) => nm (sI σ9 273 0 0 0 0) fun (σ10 : St) => some (((σ10.1 219 0 0 0) - 1), σ10) else some (((-1) - (σ5.1 255 0 0 0)), σ5)) := by
  have c := h.rg.cns
  have hT := c.T
  have cP := c.P
  have h7 : σ.1 111 0 0 0 = nI s := (h.eq.at 0 (by decide)).trans h6
  have h8 : σ.1 159 0 0 0 = nI (nT μ) := (h.eq.at 0 (by decide)).trans hT.1
  obtain ⟨T, eT⟩ : ∃ T, T = nT μ := ⟨_, rfl⟩
  have h80 := h8
  have hT0 := hT.1
  rw [← eT] at h80 hT0
  have hTb : T ≤ 16 := by omega
  obtain ⟨μ2, hμ2⟩ : ∃ μ2, μ2 = sI μ 257 0 0 0 (-1) := ⟨_, rfl⟩
  have f2 : ∀ f a b i, f ≠ 257 → μ2.1 f a b i = μ.1 f a b i := fun f a b i q => by rw [hμ2, sI_o q]
  have f2i : ∀ i, i ≠ 0 → μ2.1 257 0 0 i = μ.1 257 0 0 i := fun i q => by rw [hμ2, sI_i q]
  rw [nmx, ← hμ2]
  have bad : StQ (fX_text_36 N σ) (fM_text_44 N μ2) := by
    have rX : fX_text_36 N σ = some (some (-9), sI (sI σ 112 0 0 0 (-1)) 111 0 0 0 0) := by
      unfold fX_text_36 fReader_refuse fReader_clear
      rw [nmx, nmx, bn1_e, bn1_e]
    have rM : fM_text_44 N μ2 = some (-9, sI μ2 247 0 0 0 0) := by
      unfold fM_text_44
      rw [nmx]
    rw [rX, rM]
    have g : ∀ f a b i, f ≠ 257 → f ≠ 247 → (sI μ2 247 0 0 0 0).1 f a b i = μ.1 f a b i := fun f a b i q1 q2 => by rw [sI_o q2, f2 _ _ _ _ q1]
    refine StQ.ok ⟨TC, tp, h.tx4 (fun f a b i q1 q2 q3 q4 => by rw [sI_o q3, sI_o (by omega)]) (fun f a b i q1 q2 => g _ _ _ _ (by omega) (by omega)) (fun i _ => g _ _ _ _ (by decide) (by decide)) (fun f i q1 q2 _ => g _ _ _ _ (by omega) (by omega)) (fun i _ => g _ _ _ _ (by decide) (by decide)) (by rw [hμ2]; rfl) (fun i => ?_) ?_ (fun i => ?_)⟩ ((g _ _ _ _ (by decide) (by decide)).trans hc) rfl
    · by_cases q : i = 0
      · rw [q, sI_s, sI_s]
      · rw [sI_i q, sI_i q, sI_o (by decide), f2 _ _ _ _ (by decide)]
        exact h.eq.at i (by decide)
    · rw [sI_o (by decide), sI_s, sI_o (by decide), hμ2, sI_s]
    · by_cases q : i = 0
      · rw [q, sI_s]
        decide
      · rw [sI_i q, f2 _ _ _ _ (by decide)]
        exact h.rg.at i (by decide)
  rw [f2 _ _ _ _ (by decide), hT0, h80]
  by_cases c16 : T = 16
  · rw [c16, if_pos (show (16 : Int32) ≤ nI 16 by decide), if_pos (show nI 16 = (16 : Int32) from rfl)]
    exact bad
  rw [if_neg (show ¬ (16 : Int32) ≤ nI T from fun q => by
    have := Int32.le_iff_toInt_le.mp q
    rw [nI_toInt (by omega), show (16 : Int32).toInt = 16 from rfl] at this
    omega), if_neg (show ¬ nI T = (16 : Int32) from fun q => by
    have : (nI T).toInt = (16 : Int32).toInt := by rw [q]
    rw [nI_toInt (by omega), show (16 : Int32).toInt = 16 from rfl] at this
    omega), outside_e, bn1_e]
  have sp : fM_isSpan N a2 a3 μ2 = some (if (a2 < 0 ∨ 935 < a2) ∨ (a3 < 0 ∨ 935 < a3) then 0 else 1) := by
    unfold fM_isSpan
    by_cases q1 : a2 < 0
    · rw [if_pos q1, if_pos (Or.inl (Or.inl q1))]
    rw [if_neg q1]
    by_cases q2 : 935 < a2
    · rw [if_pos q2, if_pos (Or.inl (Or.inr q2))]
    rw [if_neg q2]
    by_cases q3 : a3 < 0
    · rw [if_pos q3, if_pos (Or.inr (Or.inl q3))]
    rw [if_neg q3]
    by_cases q4 : 935 < a3
    · rw [if_pos q4, if_pos (Or.inr (Or.inr q4))]
    rw [if_neg q4, if_neg (fun q => q.elim (fun q => q.elim q1 q2) (fun q => q.elim q3 q4))]
  rw [sp, bn1_e]
  by_cases q1 : a2 < 0 ∨ 935 < a2
  · rw [if_pos q1, if_neg (show ¬ (1 : Int32) = 0 by decide), if_pos (show (a2 < 0 ∨ 935 < a2) ∨ (a3 < 0 ∨ 935 < a3) from Or.inl q1), if_pos rfl]
    exact bad
  rw [if_neg q1, if_pos rfl, outside_e, bn1_e]
  by_cases q2 : a3 < 0 ∨ 935 < a3
  · rw [if_pos q2, if_neg (show ¬ (1 : Int32) = 0 by decide), if_pos (show (a2 < 0 ∨ 935 < a2) ∨ (a3 < 0 ∨ 935 < a3) from Or.inr q2), if_pos rfl]
    exact bad
  rw [if_neg q2, if_pos rfl, if_neg (show ¬ ((a2 < 0 ∨ 935 < a2) ∨ (a3 < 0 ∨ 935 < a3)) from fun q => q.elim q1 q2), if_neg (show ¬ (1 : Int32) = 0 by decide)]
  have b2 : 0 ≤ a2.toInt ∧ a2.toInt ≤ 935 := by
    have z1 := Int32.not_lt.mp (fun q => q1 (Or.inl q))
    have z2 := Int32.not_lt.mp (fun q => q1 (Or.inr q))
    exact ⟨Int32.le_iff_toInt_le.mp z1, Int32.le_iff_toInt_le.mp z2⟩
  have b3 : 0 ≤ a3.toInt ∧ a3.toInt ≤ 935 := by
    have z1 := Int32.not_lt.mp (fun q => q2 (Or.inl q))
    have z2 := Int32.not_lt.mp (fun q => q2 (Or.inr q))
    exact ⟨Int32.le_iff_toInt_le.mp z1, Int32.le_iff_toInt_le.mp z2⟩
  have hT16 : T < 16 := by omega
  have tp2 : TP tp σ μ2 := h.tp.mv (fun _ => rfl) (fun i => f2 _ _ _ _ (by decide))
  obtain ⟨r, σ', μ', r1, r2, r3, r4, r5, r6, r7, r8⟩ := read_e (N := N) (n := n) (t := T) (s := s) (by omega) (by omega) hn hs h7 tp2
  have gX : ∀ f a b i, ¬ (112 ≤ f ∧ f ≤ 121) → ¬ ((1 ≤ f ∧ f ≤ 12) ∧ a = T) → σ'.1 f a b i = σ.1 f a b i := r3.1
  have gM : ∀ f a b i, ¬ (247 ≤ f ∧ f ≤ 259) → ¬ (238 ≤ f ∧ f ≤ 245) → μ'.1 f a b i = μ.1 f a b i := fun f a b i q1 q2 => by rw [r4.1 f a b i q1 q2, f2 _ _ _ _ (by omega)]
  have gJ : μ'.2 = μ.2 := by rw [r4.2.2.2.2, hμ2]; rfl
  have gc : ∀ i, i ≠ T → μ'.1 238 0 0 i = μ.1 238 0 0 i := fun i q => by rw [r4.2.1 i q, f2 _ _ _ _ (by decide)]
  have gt : ∀ f i, 239 ≤ f → f ≤ 244 → i < 24 * T → μ'.1 f 0 0 i = μ.1 f 0 0 i := fun f i q1 q2 q3 => by rw [r4.2.2.1 f i q1 q2 q3, f2 _ _ _ _ (by omega)]
  have gr : ∀ j, j < 1000 * T → μ'.1 245 0 0 j = μ.1 245 0 0 j := fun j q => by rw [r4.2.2.2.1 j q, f2 _ _ _ _ (by decide)]
  have g247 : ∀ i, i ≠ 0 → μ'.1 247 0 0 i = μ.1 247 0 0 i := fun i q => by rw [r5 _ _ (Or.inl rfl) q, f2 _ _ _ _ (by decide)]
  have g257 : ∀ i, i ≠ 0 → μ'.1 257 0 0 i = μ.1 257 0 0 i := fun i q => by rw [r5 _ _ (Or.inr rfl) q, f2i _ q]
  have t5 : μ'.1 219 0 0 0 = nI T := by rw [gM _ _ _ _ (by decide) (by decide)]; exact hT0
  have t6 : σ'.1 159 0 0 0 = nI T := by rw [gX _ _ _ _ (by decide) (by omega)]; exact h80
  rw [chk_t (inb_n (by omega) (by decide)), nI_clamp (by omega), r1, bnd_e, r2, bnd_e]
  rcases r8 with ⟨rfl, r9, r10, r13⟩ | ⟨r9, r10, r11, r12⟩
  · -- a text is read
    obtain ⟨σ3, hσ3⟩ : ∃ σ3, σ3 = sI σ' 111 0 0 0 0 := ⟨_, rfl⟩
    have x3 : ∀ f a b i, f ≠ 160 → f ≠ 111 → σ3.1 f a b i = σ'.1 f a b i := fun f a b i q1 q2 => by rw [hσ3, sI_o q2]
    obtain ⟨τ, hτ⟩ : ∃ τ, τ = sI (sI (sI (sI σ3 13 T 0 0 a2) 14 T 0 0 a3) 15 T 0 0 (σ.1 162 0 0 0)) 159 0 0 0 (nI (T + 1)) := ⟨_, rfl⟩
    obtain ⟨ν, hν⟩ : ∃ ν, ν = sI (sI (sI (sI (sI μ' 235 0 0 T a2) 236 0 0 T a3) 237 0 0 T (μ.1 205 0 0 0)) 219 0 0 0 (nI (T + 1))) 273 0 0 0 0 := ⟨_, rfl⟩
    have yX : ∀ f a b i, ¬ (13 ≤ f ∧ f ≤ 15) → f ≠ 159 → τ.1 f a b i = σ3.1 f a b i := fun f a b i q1 q2 => by rw [hτ, sI_o q2, sI_o (by omega), sI_o (by omega), sI_o (by omega)]
    have yXi : ∀ f a b i, a ≠ T → f ≠ 159 → τ.1 f a b i = σ3.1 f a b i := fun f a b i q1 q2 => by
      rw [hτ, sI_o q2, sI_1, if_neg (fun z => q1 z.2.1), sI_1, if_neg (fun z => q1 z.2.1), sI_1, if_neg (fun z => q1 z.2.1)]
    have yM : ∀ f a b i, ¬ (235 ≤ f ∧ f ≤ 237) → f ≠ 219 → f ≠ 273 → ν.1 f a b i = μ'.1 f a b i := fun f a b i q1 q2 q3 => by rw [hν, sI_o q3, sI_o q2, sI_o (by omega), sI_o (by omega), sI_o (by omega)]
    have yMi : ∀ f i, i ≠ T → f ≠ 219 → f ≠ 273 → ν.1 f 0 0 i = μ'.1 f 0 0 i := fun f i q1 q2 q3 => by
      rw [hν, sI_o q3, sI_o q2, sI_1, if_neg (fun z => q1 z.2.2.2), sI_1, if_neg (fun z => q1 z.2.2.2), sI_1, if_neg (fun z => q1 z.2.2.2)]
    have y219 : ν.1 219 0 0 0 = nI (T + 1) := by rw [hν, sI_o (by decide), sI_s]
    have y219i : ∀ i, i ≠ 0 → ν.1 219 0 0 i = μ.1 219 0 0 i := fun i q => by rw [hν, sI_o (by decide), sI_i q, sI_o (by decide), sI_o (by decide), sI_o (by decide), gM _ _ _ _ (by decide) (by decide)]
    have yT : ν.1 237 0 0 T = μ.1 205 0 0 0 := by rw [hν, sI_o (by decide), sI_o (by decide), sI_s]
    have e162 : σ.1 162 0 0 0 = μ.1 205 0 0 0 := h.eq.at 0 (by decide)
    have x162 : σ3.1 162 0 0 0 = σ.1 162 0 0 0 := by rw [x3 _ _ _ _ (by decide) (by decide), gX _ _ _ _ (by decide) (by omega)]
    have x159 : σ3.1 159 0 0 0 = nI T := by rw [x3 _ _ _ _ (by decide) (by decide), t6]
    have m205 : μ'.1 205 0 0 0 = μ.1 205 0 0 0 := gM _ _ _ _ (by decide) (by decide)
    rw [← hσ3, if_pos rfl, x159, chk_t (inb_n (by omega) (by decide)), nI_clamp (by omega), x162]
    unfold fAct_reign
    have u : (sI (sI (sI σ3 13 T 0 0 a2) 14 T 0 0 a3) 15 T 0 0 (σ.1 162 0 0 0)).1 159 0 0 0 = nI T := by rw [sI_o (by decide), sI_o (by decide), sI_o (by decide), x159]
    rw [nmx, nmx, nmx, bn1_e, nmx, u, nI_1, ← hτ]
    rw [if_pos rfl, t5, chk_t (inb_n (by omega) (by decide)), nI_clamp (by omega), nmx, sI_o (by decide), t5, chk_t (inb_n (by omega) (by decide)), nI_clamp (by omega), nmx, sI_o (by decide), sI_o (by decide), t5, chk_t (inb_n (by omega) (by decide)), nI_clamp (by omega), nmx, sI_o (by decide), sI_o (by decide), m205, sI_o (by decide), sI_o (by decide), sI_o (by decide), t5, nI_1, nmx, nmx, ← hν]
    have eTn : nT ν = T + 1 := by unfold nT; rw [y219, nI_clamp (by omega)]
    obtain ⟨l, tx'⟩ := h.tx.grow (σ' := σ') (μ' := μ') (τ := τ) (ν := ν) (T := T) (fr := a2) (to := a3) eT.symm eTn (fun f a b i q1 q2 q3 => by rw [yXi _ _ _ _ (by omega) (by omega), x3 _ _ _ _ (by omega) (by omega), gX _ _ _ _ (by omega) (by omega)]) (fun f b i q1 q2 => by rw [yX _ _ _ _ (by omega) (by omega), x3 _ _ _ _ (by omega) (by omega)]) (by rw [hτ, sI_o (by decide), sI_o (by decide), sI_o (by decide), sI_s]) (by rw [hτ, sI_o (by decide), sI_o (by decide), sI_s]) (by rw [hτ, sI_o (by decide), sI_s, e162]) (by rw [hν, sI_o (by decide), sI_o (by decide), sI_o (by decide), sI_o (by decide), sI_s]) (by rw [hν, sI_o (by decide), sI_o (by decide), sI_o (by decide), sI_s]) yT (fun f i q1 q2 q3 => by rw [yMi _ _ (by omega) (by omega) (by omega), gM _ _ _ _ (by omega) (by omega)]) (fun f i q => by rw [yM _ _ _ _ (by omega) (by omega) (by omega), gM _ _ _ _ (by omega) (by omega)]) (fun i q => by rw [yM _ _ _ _ (by decide) (by decide) (by decide), gc i (by omega)]) (fun f i q1 q2 q3 => by rw [yM _ _ _ _ (by omega) (by omega) (by omega), gt f i q1 q2 q3]) (fun j q => by rw [yM _ _ _ _ (by decide) (by decide) (by decide), gr j q]) r9 (fun f i q1 q2 => yM _ _ _ _ (by omega) (by omega) (by omega)) b2 b3
    have e111 : ∀ i, τ.1 111 0 0 i = ν.1 247 0 0 i := fun i => by
      rw [yX _ _ _ _ (by decide) (by decide), yM _ _ _ _ (by decide) (by decide) (by decide)]
      by_cases q : i = 0
      · rw [q, hσ3, sI_s, r6]
      · rw [hσ3, sI_i q, g247 i q, gX _ _ _ _ (by decide) (by omega)]
        exact h.eq.at i (by decide)
    have e112 : τ.1 112 0 0 0 = ν.1 257 0 0 0 := by
      rw [yX _ _ _ _ (by decide) (by decide), yM _ _ _ _ (by decide) (by decide) (by decide), hσ3, sI_o (by decide), r13, r10]
    have e159 : ∀ i, τ.1 159 0 0 i = ν.1 219 0 0 i := fun i => by
      by_cases q : i = 0
      · rw [q, y219, hτ, sI_s]
      · rw [hτ, sI_i q, sI_o (by decide), sI_o (by decide), sI_o (by decide), x3 _ _ _ _ (by decide) (by decide), y219i i q, gX _ _ _ _ (by decide) (by omega)]
        exact h.eq.at i (by decide)
    have isr : ν.1 273 0 0 0 = 0 := by rw [hν, sI_s]
    have hm : ∀ f a b i, txm f → ν.1 f a b i = μ.1 f a b i := fun f a b i q => by
      obtain ⟨z1, z2, z3, z4, z5⟩ := q
      rw [yM _ _ _ _ (by omega) z2 z5, gM _ _ _ _ z4 (by omega)]
    have hx : ∀ f a b i, txx f → τ.1 f a b i = σ.1 f a b i := fun f a b i q => by
      obtain ⟨z1, z2, z3, z4, z5⟩ := q
      rw [yX _ _ _ _ (by omega) z4, x3 _ _ _ _ z5 z2, gX _ _ _ _ z3 (by omega)]
    have lJ : ν.2 = μ.2 := by rw [hν]; exact gJ
    refine StQ.ok ⟨fun t => if t = T then l else TC t, tp, h.tx2 (h.eq.rd (fun f i q1 q2 q3 q4 q5 => hx _ _ _ _ ⟨q1, q2, q3, q4, q5⟩) (fun f i q1 q2 q3 q4 q5 => hm _ _ _ _ ⟨q1, q2, q3, q4, q5⟩) e111 e159) (h.rg.rd (fun f i q1 q2 q3 q4 q5 => hm _ _ _ _ ⟨q1, q2, q3, q4, q5⟩) (fun i => ?_) (fun i => ?_) (fun f i q => ?_)) tx' (by omega) (fun t ht => if_neg (by omega)) (fun t ht => ?_) hx hm lJ (fun q => absurd isr q) e112⟩ (by rw [yM _ _ _ _ (by decide) (by decide) (by decide), gM _ _ _ _ (by decide) (by decide)]; exact hc) ?_
    · rw [yM _ _ _ _ (by decide) (by decide) (by decide)]
      by_cases q : i = 0
      · rw [q, r6]
        decide
      · rw [g247 i q]
        exact h.rg.at i (by decide)
    · by_cases q : i = 0
      · rw [q, y219, nI_toInt (by omega)]
        omega
      · rw [y219i i q]
        exact h.rg.at i (by decide)
    · have hb : 0 ≤ (μ.1 f 0 0 i).toInt ∧ (μ.1 f 0 0 i).toInt ≤ 935 := by
        have w : f = 235 ∨ f = 236 ∨ f = 237 := by omega
        rcases w with rfl | rfl | rfl
        · exact h.rg.at i (by decide)
        · exact h.rg.at i (by decide)
        · exact h.rg.at i (by decide)
      by_cases q2 : i = T
      · have w : f = 235 ∨ f = 236 ∨ f = 237 := by omega
        rcases w with rfl | rfl | rfl
        · rw [q2, hν, sI_o (by decide), sI_o (by decide), sI_o (by decide), sI_o (by decide), sI_s]
          exact b2
        · rw [q2, hν, sI_o (by decide), sI_o (by decide), sI_o (by decide), sI_s]
          exact b3
        · rw [q2, yT]
          have := c.d
          rw [this.1, nI_toInt (by omega)]
          omega
      · rw [yMi f i q2 (by omega) (by omega), gM _ _ _ _ (by omega) (by omega)]
        exact hb
    · unfold frM toM
      rw [yMi _ _ (by omega) (by decide) (by decide), yMi _ _ (by omega) (by decide) (by decide), gM _ _ _ _ (by decide) (by decide), gM _ _ _ _ (by decide) (by decide)]
      exact ⟨rfl, rfl⟩
    · rw [y219, hτ, sI_s]
  · -- a fault in the text
    rw [if_neg r11, if_neg r11]
    refine StQ.ok ⟨TC, tp, h.tx4 (fun f a b i q1 q2 q3 q4 => by rw [sI_o q3, gX f a b i q1 (by omega)]) gM (fun i q => gc i (by omega)) (fun f i q1 q2 q3 => gt f i q1 q2 (by omega)) (fun j q => gr j (by omega)) gJ (fun i => ?_) ?_ (fun i => ?_)⟩ ((gM _ _ _ _ (by decide) (by decide)).trans hc) (by rw [r7])
    · by_cases q : i = 0
      · rw [q, sI_s, r6]
      · rw [sI_i q, g247 i q, gX _ _ _ _ (by decide) (by omega)]
        exact h.eq.at i (by decide)
    · rw [sI_o (by decide), r12]
    · by_cases q : i = 0
      · rw [q, r6]
        decide
      · rw [g247 i q]
        exact h.rg.at i (by decide)
theorem step_text {N : Nat} {σ μ : St} (hN : 4000 ≤ N) (h : Inv σ μ) (a1 a2 a3 : Int32) : StQ (fX_text N a1 a2 a3 σ) (fM_text N a1 a2 a3 μ) := by
  obtain ⟨TC, tp, h⟩ := h
  obtain ⟨s, h6, es, cs, -, hs⟩ := h.rg.n (g := 247) (lo := 0) (hi := 600) 0 (by decide) (by decide)
  have h7 : σ.1 111 0 0 0 = nI s := (h.eq.at 0 (by decide)).trans h6
  have hc := h.code (x := 0)
  have h6' : (sI μ 204 0 0 0 0).1 247 0 0 0 = nI s := by rw [sI_o (by decide)]; exact h6
  unfold fX_text fM_text fX_requireOnTape fX_requireOnTape_15 fM_text_17 fM_fail
  rw [nmx, nmx, bnd_e, h7, h6']
  by_cases q1 : a1 < 0
  · rw [if_pos q1, if_pos q1]
    exact StQ.fail ⟨TC, tp, hc⟩
  rw [if_neg q1, if_neg q1]
  by_cases q2 : a1 ≤ nI s
  · rw [if_pos q2, if_pos q2]
    obtain ⟨n, hn, rfl⟩ := nI_of q1
    have z1 := Int32.le_iff_toInt_le.mp q2
    rw [nI_toInt hn, nI_toInt (by omega)] at z1
    exact text_in hN hc (sI_s _ _ _ _ _ _) h6' (by omega) (by omega) a2 a3
  · rw [if_neg q2, if_neg q2]
    exact StQ.fail ⟨TC, tp, hc⟩
