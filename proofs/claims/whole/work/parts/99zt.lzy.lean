/-! a page of the book -/
theorem sI_comm {σ : St} {f g a b i a' b' i' : Nat} {x y : Int32} (h : f ≠ g) : sI (sI σ f a b i x) g a' b' i' y = sI (sI σ g a' b' i' y) f a b i x := by
  refine st_ext (fun p q r s => ?_) (fun p q r s => rfl)
  rw [sI_1, sI_1, sI_1, sI_1]
  by_cases z : p = g
  · have : ¬ (p = f ∧ q = a ∧ r = b ∧ s = i) := fun w => h (w.1.symm.trans z)
    rw [if_neg this, if_neg this]
  · have : ¬ (p = g ∧ q = a' ∧ r = b' ∧ s = i') := fun w => z w.1
    rw [if_neg this, if_neg this]
theorem Eq1.fw {f g : Nat} (hp : pairOk f g = true) : ∀ (l : List Int32) (σ μ : St) (b : Nat), Eq1 σ μ → Eq1 (foldW f σ b l) (foldW g μ b l)
  | [], _, _, _, h => h
  | _ :: l, _, _, _, h => Eq1.fw hp l _ _ _ (h.w hp)
theorem Rng.fw {g : Nat} {lo hi : Int} (hp : rngAt g lo hi = true) : ∀ (l : List Int32) (μ : St) (b : Nat), Rng μ → (∀ v ∈ l, lo ≤ v.toInt ∧ v.toInt ≤ hi) → Rng (foldW g μ b l)
  | [], _, _, h, _ => h
  | v :: l, _, _, h, hl => Rng.fw hp l _ _ (h.w hp (hl v List.mem_cons_self).1 (hl v List.mem_cons_self).2) (fun w hw => hl w (List.mem_cons_of_mem _ hw))
theorem foldW_lt {f : Nat} : ∀ (l : List Int32) (σ : St) (b : Nat) {i : Nat}, i < b → (foldW f σ b l).1 f 0 0 i = σ.1 f 0 0 i
  | [], _, _, _, _ => rfl
  | v :: l, σ, b, i, h => by
    show (foldW f (sI σ f 0 0 b v) (b + 1) l).1 f 0 0 i = _
    rw [foldW_lt l _ _ (by omega), sI_i (by omega)]
theorem foldW_2 {f : Nat} : ∀ (l : List Int32) (σ : St) (b : Nat), (foldW f σ b l).2 = σ.2
  | [], _, _ => rfl
  | v :: l, σ, b => by
    show (foldW f (sI σ f 0 0 b v) (b + 1) l).2 = _
    rw [foldW_2 l]
    rfl
theorem InvB.bk {TC : Nat → List Cl} {tp : Nat → Nat} {σ μ τ ν : St} {r j : Nat} (h : InvB TC tp σ μ) (er : rwN μ = r) (hr : r < 60) (hj : j < nP μ) (eq' : Eq1 τ ν) (rg' : Rng ν) (lx : ∀ f a b i, ¬ (16 ≤ f ∧ f ≤ 21) → f ≠ 53 → f ≠ 111 → τ.1 f a b i = σ.1 f a b i) (hch : ∀ p, p ≠ j → τ.1 53 0 0 p = σ.1 53 0 0 p) (hcj : τ.1 53 0 0 j = σ.1 53 0 0 j + 1) (l : ∀ f a b i, f ≠ 204 → f ≠ 216 → ¬ (220 ≤ f ∧ f ≤ 224) → f ≠ 247 → f ≠ 273 → ν.1 f a b i = μ.1 f a b i) (li : ∀ f i, 220 ≤ f ∧ f ≤ 223 → i ≠ r → ν.1 f 0 0 i = μ.1 f 0 0 i) (ls : ∀ i, i < 52 * r → ν.1 224 0 0 i = μ.1 224 0 0 i) (lJ : ν.2 = μ.2) (n20 : ν.1 220 0 0 r = nI j) (n23 : ν.1 223 0 0 r = μ.1 205 0 0 0) (n16 : rwN ν = r + 1) (n73 : ν.1 273 0 0 0 = 0) : InvB TC tp τ ν := by
  have c := h.rg.cns
  have hP := c.P.2
  have eP : nP ν = nP μ := by unfold nP; rw [l _ _ _ _ (by decide) (by decide) (by decide) (by decide) (by decide)]
  have eO : ofN ν = ofN μ := by unfold ofN; rw [l _ _ _ _ (by decide) (by decide) (by decide) (by decide) (by decide)]
  have eV : vcN ν = vcN μ := by unfold vcN; rw [l _ _ _ _ (by decide) (by decide) (by decide) (by decide) (by decide)]
  have eC : csN ν = csN μ := by unfold csN; rw [l _ _ _ _ (by decide) (by decide) (by decide) (by decide) (by decide)]
  have eF : ocN ν = ocN μ := by unfold ocN; rw [l _ _ _ _ (by decide) (by decide) (by decide) (by decide) (by decide)]
  have eT : rtN ν = rtN μ := by unfold rtN; rw [l _ _ _ _ (by decide) (by decide) (by decide) (by decide) (by decide)]
  have e1' : cnM ν = cnM μ := by unfold cnM; rw [l _ _ _ _ (by decide) (by decide) (by decide) (by decide) (by decide)]
  have e205 : ν.1 205 0 0 0 = μ.1 205 0 0 0 := l _ _ _ _ (by decide) (by decide) (by decide) (by decide) (by decide)
  have wl : ∀ S : List Nat, (∀ f ∈ S, f ≠ 204 ∧ f ≠ 216 ∧ ¬ (220 ≤ f ∧ f ≤ 224) ∧ f ≠ 247 ∧ f ≠ 273) → ∀ f a b i, f ∈ S → ν.1 f a b i = μ.1 f a b i := fun S hS f a b i q => by
    have := hS f q
    exact l f a b i this.1 this.2.1 this.2.2.1 this.2.2.2.1 this.2.2.2.2
  have sE : SmE μ ν := SmE.mk (wl LE (by decide))
  have eb : bkN ν = bkN μ := by
    unfold bkN
    rw [e1']
    exact cnt_cg _ (fun e _ => by rw [l _ _ _ _ (by decide) (by decide) (by decide) (by decide) (by decide)])
  refine h.tl (j := j) (by omega) eq' rg' (h.tp.mv (fun i => lx _ _ _ _ (by decide) (by decide) (by decide)) (fun i => l _ _ _ _ (by decide) (by decide) (by decide) (by decide) (by decide))) ⟨h.ev.e.up (fun f i q => l _ _ _ _ (by omega) (by omega) (by omega) (by omega) (by omega)) (by omega), fun e he => ?_, fun c hc => ?_, fun o ho => ?_, fun p hp => ?_, fun v hv => ?_, fun o ho => ?_, fun r' hr' => ?_, fun o ho => ?_, ?_, fun r hr => ?_, fun o ho => ?_⟩ (h.ot.mv (fun f i q => lx _ _ _ _ (by omega) (by omega) (by omega)) (fun f i q => l _ _ _ _ (by omega) (by omega) (by omega) (by omega) (by omega)) (fun i => by rw [lJ])) (fun f a b i q q2 => lx _ _ _ _ (by omega) q2 (by omega)) hch hcj (fun f i q => l _ _ _ _ (by omega) (by omega) (by omega) (by omega) (by omega)) (fun f a b i q => by rw [lJ]) n73 (fun q hq hqj => ⟨fun m k => ?_, fun k => evM_c (wl LO (by decide)) q k, fun e he hpe => ⟨by omega, by rw [← sE.pe]; exact hpe, by rw [sE.dy]⟩⟩) (by omega)
  · rw [sE.pe, eP]
    exact h.ev.p e (by omega)
  · rw [l _ _ _ _ (by decide) (by decide) (by decide) (by decide) (by decide), e1']
    exact h.ev.c c (by omega)
  · rw [l _ _ _ _ (by decide) (by decide) (by decide) (by decide) (by decide), eV]
    exact h.ev.ov o (by omega)
  · rw [l _ _ _ _ (by decide) (by decide) (by decide) (by decide) (by decide), eF]
    exact h.ev.po p (by omega)
  · rw [l _ _ _ _ (by decide) (by decide) (by decide) (by decide) (by decide), eF]
    exact h.ev.vo v (by omega)
  · rw [l _ _ _ _ (by decide) (by decide) (by decide) (by decide) (by decide), l _ _ _ _ (by decide) (by decide) (by decide) (by decide) (by decide)]
    exact h.ev.so o ho
  · rw [e205]
    by_cases z : r' = r
    · rw [z, n23]
      exact Int32.le_refl _
    · rw [li _ _ (by decide) z]
      exact h.ev.br r' (by omega)
  · rw [l _ _ _ _ (by decide) (by decide) (by decide) (by decide) (by decide)]
    exact h.ev.oc o (by omega)
  · rw [l _ _ _ _ (by decide) (by decide) (by decide) (by decide) (by decide), e205]
    exact h.ev.lk
  · rw [l _ _ _ _ (by decide) (by decide) (by decide) (by decide) (by decide), e205]
    exact h.ev.bt r (by omega)
  · rw [l _ _ _ _ (by decide) (by decide) (by decide) (by decide) (by decide), eP]
    exact h.ev.op o (by omega)
  · refine ENM_c ⟨funext fun t => l _ _ _ _ (by decide) (by decide) (by decide) (by decide) (by decide), funext fun t => l _ _ _ _ (by decide) (by decide) (by decide) (by decide) (by decide)⟩ (funext fun w => ?_) (l _ _ _ _ (by decide) (by decide) (by decide) (by decide) (by decide)) (l _ _ _ _ (by decide) (by decide) (by decide) (by decide) (by decide)) (l _ _ _ _ (by decide) (by decide) (by decide) (by decide) (by decide))
    have hl : rowL ν q (w / 52) k = rowL μ q (w / 52) k := by
      unfold rowL
      rw [show (ν.1 216 0 0 0).toNatClampNeg = r + 1 from n16, show (μ.1 216 0 0 0).toNatClampNeg = r from er, lastB_f (by
        unfold rowP
        rw [n20, decide_eq_false (fun z => hqj ((nI_eq (by omega) (by omega)).mp z).symm)]
        rfl)]
      exact lastB_cg r (fun x hx => by
        unfold rowP
        rw [li _ _ (by decide) (by omega), li _ _ (by decide) (by omega), li _ _ (by decide) (by omega)])
    have hi : inRw ν q k w = inRw μ q k w := by
      unfold inRw
      rw [hl]
      cases e : rowL μ q (w / 52) k with
      | none => rfl
      | some x =>
        have hx : x < r := by
          have := (lastB_lt (rwN μ) x e).1
          omega
        have hm := Nat.mod_lt w (show 0 < 52 by decide)
        show (if nI (w % 52) < ν.1 222 0 0 x then ν.1 224 0 0 (52 * x + w % 52) else -1) = if nI (w % 52) < μ.1 222 0 0 x then μ.1 224 0 0 (52 * x + w % 52) else -1
        rw [li _ _ (by decide) (by omega), ls _ (by omega)]
    have hr : rtn ν q k w = rtn μ q k w := by
      have e := cut_eq (S := [217, 225, 226, 227, 228]) (μ := μ) (μ' := ν) (wl _ (by decide))
      have r1 : ∀ μ : St, rtn (cut [217, 225, 226, 227, 228] μ) q k w = rtn μ q k w := fun _ => rfl
      rw [← r1 ν, e, r1]
    unfold stOf
    rw [hr, hi]
theorem step_book {N : Nat} {σ μ : St} (hN : 4000 ≤ N) (h : Inv σ μ) (a1 a2 a3 : Int32) : StQ (fX_book N a1 a2 a3 σ) (fM_book N a1 a2 a3 μ) := by
  obtain ⟨TC, tp, h⟩ := h
  have c := h.rg.cns
  have hd := c.d
  have ht : (μ.1 205 0 0 0).toInt = (tdN μ : Int) := by rw [hd.1, nI_toInt (by omega)]
  rcases e_book (N := N) (by omega) h.eq h.rg a1 a2 a3 with ⟨e1, e2⟩ | ⟨e1, e2⟩ | ⟨r, p, j, r1, r2, r3, r4, rfl, r5, r6, ⟨rfl, e1, e2⟩ | ⟨L, s, s1, rfl, s2, s3, s4, e1, e2⟩⟩
  · rw [e1, e2]
    exact StQ.fail ⟨TC, tp, h.code⟩
  · rw [e1, e2]
    exact StQ.ok ⟨TC, tp, h.code⟩ (sI_s _ _ _ _ _ _) rfl
  · rw [e1, e2]
    have er : rwN μ = r := by unfold rwN; rw [r2, nI_clamp (by omega)]
    have eP : nP μ = p := by unfold nP; rw [r3, nI_clamp (by omega)]
    unfold xRow mRow
    refine StQ.ok ⟨TC, tp, h.bk (r := r) (j := j) er r1 (by omega) ?_ ?_ (fun f a b i q1 q2 q3 => ?_) (fun q hq => ?_) ?_ (fun f a b i q1 q2 q3 q4 q5 => ?_) (fun f i q1 q2 => ?_) (fun i hi => ?_) rfl ?_ ?_ ?_ ?_⟩ ?_ rfl
    · exact ((((((h.eq.r (by decide)).w (by decide)).w (by decide)).w (by decide)).w (by decide)).w (by decide)).l (by decide) |>.r (by decide)
    · exact ((((((h.rg.o (by decide)).w (lo := 0) (hi := 19) (by decide) (by rw [nI_toInt (by omega)]; omega) (by rw [nI_toInt (by omega)]; omega)).w (lo := 0) (hi := 2) (by decide) (by omega) (by omega)).w (lo := -1) (hi := 52) (by decide) (by decide) (by decide)).w (lo := 0) (hi := 935) (by decide) (by omega) (by omega)).w (lo := 0) (hi := 60) (by decide) (by rw [nI_toInt (by omega)]; omega) (by rw [nI_toInt (by omega)]; omega)).o (by decide)
    · rw [sI_o q2, sI_o (by omega), sI_o (by omega), sI_o (by omega), sI_o (by omega), sI_o (by omega)]
    · rw [sI_i hq, sI_o (by decide), sI_o (by decide), sI_o (by decide), sI_o (by decide), sI_o (by decide)]
    · rw [sI_s]
    · rw [sI_o q5, sI_o q2, sI_o (by omega), sI_o (by omega), sI_o (by omega), sI_o (by omega), sI_o q1]
    · rw [sI_o (by omega), sI_o (by omega), sI_1, if_neg (fun z => q2 z.2.2.2), sI_1, if_neg (fun z => q2 z.2.2.2), sI_1, if_neg (fun z => q2 z.2.2.2), sI_1, if_neg (fun z => q2 z.2.2.2), sI_o (by omega)]
    · rw [sI_o (by decide), sI_o (by decide), sI_o (by decide), sI_o (by decide), sI_o (by decide), sI_o (by decide), sI_o (by decide)]
    · rw [sI_o (by decide), sI_o (by decide), sI_o (by decide), sI_o (by decide), sI_o (by decide), sI_s]
    · rw [sI_o (by decide), sI_o (by decide), sI_s]
    · unfold rwN
      rw [sI_o (by decide), sI_s, nI_clamp (by omega)]
    · rw [sI_s]
    · rw [sI_o (by decide), sI_o (by decide), sI_o (by decide), sI_o (by decide), sI_o (by decide), sI_o (by decide), sI_s]
  · rw [e1, e2]
    have er : rwN μ = r := by unfold rwN; rw [r2, nI_clamp (by omega)]
    have eP : nP μ = p := by unfold nP; rw [r3, nI_clamp (by omega)]
    have hl : (List.range' 0 L).map (fun q => clv (σ.1 110 0 0 q)) = (List.range' 0 L).map (fun q => stv ((sI μ 204 0 0 0 0).1 246 0 0 q)) := by
      refine List.map_congr_left (fun q hq => ?_)
      have hq' := List.mem_range'.mp hq
      obtain ⟨i, i1, i2⟩ := hq'
      obtain ⟨t1, t2, t3⟩ := h.tp q (by omega)
      rw [sI_o (by decide), t2, t3]
      exact clv_stv (t := nI (tp q)) (by rw [nI_toInt (by omega)]; omega)
    have hv : ∀ v ∈ (List.range' 0 L).map (fun q => stv ((sI μ 204 0 0 0 0).1 246 0 0 q)), 0 ≤ v.toInt ∧ v.toInt ≤ 6 := by
      intro v hv
      obtain ⟨q, hq, rfl⟩ := List.mem_map.mp hv
      obtain ⟨i, i1, i2⟩ := List.mem_range'.mp hq
      obtain ⟨t1, t2, t3⟩ := h.tp q (by omega)
      rw [sI_o (by decide), t3]
      exact stv_rng (by rw [nI_toInt (by omega)]; omega)
    unfold xPage mPage
    rw [hl]
    obtain ⟨vs, hvs⟩ : ∃ vs, vs = (List.range' 0 L).map (fun q => stv ((sI μ 204 0 0 0 0).1 246 0 0 q)) := ⟨_, rfl⟩
    rw [← hvs] at hv ⊢
    unfold xRow mRow
    refine StQ.ok ⟨TC, tp, h.bk (r := r) (j := j) er r1 (by omega) ?_ ?_ (fun f a b i q1 q2 q3 => ?_) (fun q hq => ?_) ?_ (fun f a b i q1 q2 q3 q4 q5 => ?_) (fun f i q1 q2 => ?_) (fun i hi => ?_) ?_ ?_ ?_ ?_ ?_⟩ ?_ rfl
    · have E0 := ((((h.eq.r (g := 204) (a := 0) (b := 0) (i := 0) (x := 0) (by decide)).w (f := 17) (g := 220) (i := r) (x := nI j) (by decide)).w (f := 18) (g := 221) (i := r) (x := a2) (by decide)).w (f := 19) (g := 222) (i := r) (x := nI L) (by decide)).w (f := 20) (g := 223) (i := r) (x := μ.1 205 0 0 0) (by decide)
      have E1 := Eq1.fw (f := 16) (g := 224) (by decide) vs _ _ (52 * r) E0
      have E2 := (E1.w (f := 111) (g := 247) (i := 0) (x := 0) (by decide)).w (f := 21) (g := 216) (i := 0) (x := nI (r + 1)) (by decide)
      rw [sI_comm (f := 111) (g := 21) (by decide)] at E2
      exact (E2.l (by decide)).r (by decide)
    · have R0 := ((((h.rg.o (g := 204) (a := 0) (b := 0) (i := 0) (x := 0) (by decide)).w (g := 220) (i := r) (x := nI j) (lo := 0) (hi := 19) (by decide) (by rw [nI_toInt (by omega)]; omega) (by rw [nI_toInt (by omega)]; omega)).w (g := 221) (i := r) (x := a2) (lo := 0) (hi := 2) (by decide) (by omega) (by omega)).w (g := 222) (i := r) (x := nI L) (lo := -1) (hi := 52) (by decide) (by rw [nI_toInt (by omega)]; omega) (by rw [nI_toInt (by omega)]; omega)).w (g := 223) (i := r) (x := μ.1 205 0 0 0) (lo := 0) (hi := 935) (by decide) (by omega) (by omega)
      exact (((Rng.fw (g := 224) (lo := 0) (hi := 6) (by decide) vs _ (52 * r) R0 hv).w (lo := 0) (hi := 600) (by decide) (by decide) (by decide)).w (lo := 0) (hi := 60) (by decide) (by rw [nI_toInt (by omega)]; omega) (by rw [nI_toInt (by omega)]; omega)).o (by decide)
    · rw [sI_o q2, sI_o q3, sI_o (by omega), foldW_o _ _ _ (by omega), sI_o (by omega), sI_o (by omega), sI_o (by omega), sI_o (by omega)]
    · rw [sI_i hq, sI_o (by decide), sI_o (by decide), foldW_o _ _ _ (by decide), sI_o (by decide), sI_o (by decide), sI_o (by decide), sI_o (by decide)]
    · rw [sI_s]
    · rw [sI_o q5, sI_o q2, sI_o q4, foldW_o _ _ _ (by omega), sI_o (by omega), sI_o (by omega), sI_o (by omega), sI_o (by omega), sI_o q1]
    · rw [sI_o (by omega), sI_o (by omega), sI_o (by omega), foldW_o _ _ _ (by omega), sI_1, if_neg (fun z => q2 z.2.2.2), sI_1, if_neg (fun z => q2 z.2.2.2), sI_1, if_neg (fun z => q2 z.2.2.2), sI_1, if_neg (fun z => q2 z.2.2.2), sI_o (by omega)]
    · rw [sI_o (by decide), sI_o (by decide), sI_o (by decide), foldW_lt _ _ _ hi, sI_o (by decide), sI_o (by decide), sI_o (by decide), sI_o (by decide), sI_o (by decide)]
    · show (foldW 224 _ _ _).2 = _
      rw [foldW_2]
      rfl
    · rw [sI_o (by decide), sI_o (by decide), sI_o (by decide), foldW_o _ _ _ (by decide), sI_o (by decide), sI_o (by decide), sI_o (by decide), sI_s]
    · rw [sI_o (by decide), sI_o (by decide), sI_o (by decide), foldW_o _ _ _ (by decide), sI_s]
    · unfold rwN
      rw [sI_o (by decide), sI_s, nI_clamp (by omega)]
    · rw [sI_s]
    · rw [sI_o (by decide), sI_o (by decide), sI_o (by decide), foldW_o _ _ _ (by decide), sI_o (by decide), sI_o (by decide), sI_o (by decide), sI_o (by decide), sI_s]
