/-! an event is told -/
def LW : List Nat := [209, 210, 211, 213, 325, 326, 327, 318, 319, 320]
theorem cW_of (μ : St) (p o w : Nat) : ofW (cut LW μ) p o w = ofW μ p o w := rfl
theorem ofM_c {μ μ' : St} {p e : Nat} (hk : kdM μ' e = kdM μ e) (hn : nuM μ' e = nuM μ e) (h : ∀ f a b i, f ∈ LW → μ'.1 f a b i = μ.1 f a b i) : ofM μ' p e = ofM μ p e := by
  unfold ofM
  rw [hk, hn, h 326 _ _ _ (by decide)]
  by_cases c : kdM μ e = 7
  · rw [if_pos c, if_pos c, ← cW_of μ', cut_eq h, cW_of]
  · rw [if_neg c, if_neg c]
theorem InvB.note {TC : Nat → List Cl} {tp : Nat → Nat} {σ μ : St} {n j kk : Nat} {v d : Int32} (h : InvB TC tp σ μ) (hn : cnM μ = n) (hn2 : n < 160) (hj : j < nP μ) (hk : kk ≤ 8) (hv : 0 ≤ v.toInt ∧ v.toInt ≤ 9999) (hd : 312 ≤ d.toInt ∧ d.toInt ≤ (tdN μ : Int)) (h8 : kk = 8 → ∃ q, q < n ∧ v = nI q ∧ peM μ q = j) (h7 : kk = 7 → ∃ o, v = nI o ∧ o < ofN μ) : InvB TC tp (xTell σ n j (nI kk) v d (μ.1 205 0 0 0)) (mNote μ n (nI kk) (nI j) v d (μ.1 205 0 0 0)) := by
  have c := h.rg.cns
  have hdd := c.d
  have hP := c.P.2
  have ht : (μ.1 205 0 0 0).toInt = (tdN μ : Int) := by rw [hdd.1, nI_toInt (by omega)]
  obtain ⟨dn, rfl, d2, d3⟩ := argN (show 0 ≤ d.toInt by omega)
  have hdn : 312 ≤ dn ∧ dn ≤ tdN μ := by omega
  obtain ⟨τ, hτ⟩ : ∃ τ, τ = xTell σ n j (nI kk) v (nI dn) (μ.1 205 0 0 0) := ⟨_, rfl⟩
  obtain ⟨ν, hν⟩ : ∃ ν, ν = mNote μ n (nI kk) (nI j) v (nI dn) (μ.1 205 0 0 0) := ⟨_, rfl⟩
  have eq' : Eq1 τ ν := by
    rw [hτ, hν]
    exact ((((((((h.eq.l (by decide)).w (by decide)).w (by decide)).w (by decide)).w (by decide)).w (by decide)).w (by decide)).w (by decide)).r (by decide)
  have rg' : Rng ν := by
    rw [hν]
    exact (((((((h.rg.w (lo := 0) (hi := 8) (by decide) (by rw [nI_toInt (by omega)]; omega) (by rw [nI_toInt (by omega)]; omega)).w (lo := 0) (hi := 19) (by decide) (by rw [nI_toInt (by omega)]; omega) (by rw [nI_toInt (by omega)]; omega)).w (lo := 0) (hi := 9999) (by decide) hv.1 hv.2).w (lo := 0) (hi := 935) (by decide) (by omega) (by omega)).w (lo := 0) (hi := 935) (by decide) (by omega) (by omega)).w (lo := -1) (hi := 935) (by decide) (by decide) (by decide)).w (lo := 0) (hi := 160) (by decide) (by rw [nI_toInt (by omega)]; omega) (by rw [nI_toInt (by omega)]; omega)).o (by decide)
  have lx : ∀ f a b i, ¬ (37 ≤ f ∧ f ≤ 43) → f ≠ 53 → τ.1 f a b i = σ.1 f a b i := fun f a b i q1 q2 => by
    rw [hτ]
    unfold xTell xAdd
    rw [sI_o (by omega), sI_o (by omega), sI_o (by omega), sI_o (by omega), sI_o (by omega), sI_o (by omega), sI_o (by omega), sI_o q2]
  have l : ∀ f a b i, ¬ (229 ≤ f ∧ f ≤ 234) → f ≠ 218 → f ≠ 273 → ν.1 f a b i = μ.1 f a b i := fun f a b i q1 q2 q3 => by
    rw [hν]
    unfold mNote
    rw [sI_o q3, sI_o q2, sI_o (by omega), sI_o (by omega), sI_o (by omega), sI_o (by omega), sI_o (by omega), sI_o (by omega)]
  have li : ∀ f i, 229 ≤ f ∧ f ≤ 234 → i ≠ n → ν.1 f 0 0 i = μ.1 f 0 0 i := fun f i q1 q2 => by
    rw [hν]
    unfold mNote
    rw [sI_o (by omega), sI_o (by omega)]
    rw [sI_1, if_neg (fun z => q2 z.2.2.2), sI_1, if_neg (fun z => q2 z.2.2.2), sI_1, if_neg (fun z => q2 z.2.2.2), sI_1, if_neg (fun z => q2 z.2.2.2), sI_1, if_neg (fun z => q2 z.2.2.2), sI_1, if_neg (fun z => q2 z.2.2.2)]
  have n29 : ν.1 229 0 0 n = nI kk := by
    rw [hν]
    unfold mNote
    rw [sI_o (by decide), sI_o (by decide), sI_o (by decide), sI_o (by decide), sI_o (by decide), sI_o (by decide), sI_o (by decide), sI_s]
  have n30 : ν.1 230 0 0 n = nI j := by
    rw [hν]
    unfold mNote
    rw [sI_o (by decide), sI_o (by decide), sI_o (by decide), sI_o (by decide), sI_o (by decide), sI_o (by decide), sI_s]
  have n31 : ν.1 231 0 0 n = v := by
    rw [hν]
    unfold mNote
    rw [sI_o (by decide), sI_o (by decide), sI_o (by decide), sI_o (by decide), sI_o (by decide), sI_s]
  have n32 : ν.1 232 0 0 n = nI dn := by
    rw [hν]
    unfold mNote
    rw [sI_o (by decide), sI_o (by decide), sI_o (by decide), sI_o (by decide), sI_s]
  have n33 : ν.1 233 0 0 n = μ.1 205 0 0 0 := by
    rw [hν]
    unfold mNote
    rw [sI_o (by decide), sI_o (by decide), sI_o (by decide), sI_s]
  have n34 : ν.1 234 0 0 n = -1 := by
    rw [hν]
    unfold mNote
    rw [sI_o (by decide), sI_o (by decide), sI_s]
  have n18 : cnM ν = n + 1 := by
    unfold cnM
    rw [hν]
    unfold mNote
    rw [sI_o (by decide), sI_s, nI_clamp (by omega)]
  have epe : peM ν n = j := by unfold peM; rw [n30, nI_clamp (by omega)]
  have ekd : kdM ν n = nI kk := n29
  have enu : nuM ν n = v := n31
  have edy : dyM ν n = dn := by unfold dyM; rw [n32, d3]
  have lpe : ∀ e, e ≠ n → peM ν e = peM μ e := fun e q => by unfold peM; rw [li _ _ (by decide) q]
  have lkd : ∀ e, e ≠ n → kdM ν e = kdM μ e := fun e q => by unfold kdM; rw [li _ _ (by decide) q]
  have lnu : ∀ e, e ≠ n → nuM ν e = nuM μ e := fun e q => by unfold nuM; rw [li _ _ (by decide) q]
  have ldy : ∀ e, e ≠ n → dyM ν e = dyM μ e := fun e q => by unfold dyM; rw [li _ _ (by decide) q]
  have lkw : ∀ k e, e ≠ n → kwM ν k e = kwM μ k e := fun k e q => by unfold kwM; rw [li _ _ (by decide) q, li _ _ (by decide) q]
  have eP : nP ν = nP μ := by unfold nP; rw [l _ _ _ _ (by decide) (by decide) (by decide)]
  have eO : ofN ν = ofN μ := by unfold ofN; rw [l _ _ _ _ (by decide) (by decide) (by decide)]
  have eV : vcN ν = vcN μ := by unfold vcN; rw [l _ _ _ _ (by decide) (by decide) (by decide)]
  have eC : csN ν = csN μ := by unfold csN; rw [l _ _ _ _ (by decide) (by decide) (by decide)]
  have eF : ocN ν = ocN μ := by unfold ocN; rw [l _ _ _ _ (by decide) (by decide) (by decide)]
  have eR : rwN ν = rwN μ := by unfold rwN; rw [l _ _ _ _ (by decide) (by decide) (by decide)]
  have eT : rtN ν = rtN μ := by unfold rtN; rw [l _ _ _ _ (by decide) (by decide) (by decide)]
  have e205 : ν.1 205 0 0 0 = μ.1 205 0 0 0 := l _ _ _ _ (by decide) (by decide) (by decide)
  rw [← hτ, ← hν]
  have hLW : ∀ f a b i, f ∈ LW → ν.1 f a b i = μ.1 f a b i := fun f a b i q => by
    have w : ∀ f ∈ LW, ¬ (229 ≤ f ∧ f ≤ 234) ∧ f ≠ 218 ∧ f ≠ 273 := by decide
    have := w f q
    exact l f a b i this.1 this.2.1 this.2.2
  refine h.tl (j := j) (by omega) eq' rg' (h.tp.mv (fun i => lx _ _ _ _ (by decide) (by decide)) (fun i => l _ _ _ _ (by decide) (by decide) (by decide))) ⟨fun e he => ?_, fun e he => ?_, fun c hc => ?_, fun o ho => ?_, fun p hp => ?_, fun v hv => ?_, fun o ho => ?_, fun r hr => ?_, fun o ho => ?_, ?_, fun r hr => ?_, fun o ho => ?_⟩ (h.ot.mv (fun f i q => lx _ _ _ _ (by omega) (by omega)) (fun f i q => l _ _ _ _ (by omega) (by omega) (by omega)) (fun i => by rw [hν]; rfl)) (fun f a b i q q2 => lx _ _ _ _ (by omega) q2) (fun p hp => ?_) ?_ (fun f i q => l _ _ _ _ (by omega) (by omega) (by omega)) (fun f a b i q => by rw [hν]; rfl) ?_ (fun q hq hqj => ⟨fun m k => ?_, fun k => ?_, fun e he hpe => ?_⟩) ?_
  · by_cases z : e = n
    · rw [z, edy, ekd, enu, epe, n33, n34]
      refine ⟨hdn.1, ⟨tdN μ, hdd.1, hdn.2, ?_⟩, ?_, fun q => ?_, fun q => ?_⟩
      · show tdN μ ≤ tdN ν
        unfold tdN
        rw [e205]
        exact Nat.le_refl _
      · rw [e205, hdd.1]
        exact Int32.le_of_lt (neg_lt (by decide) (by omega))
      · obtain ⟨q1, q2, q3, q4⟩ := h8 ((nI_eq (b := 8) (by omega) (by decide)).mp q)
        exact ⟨q1, q2, q3, (lpe q1 (by omega)).trans q4⟩
      · obtain ⟨o, o1, o2⟩ := h7 ((nI_eq (b := 7) (by omega) (by decide)).mp q)
        exact ⟨o, o1, by rw [show (ν.1 317 0 0 0).toNatClampNeg = ofN ν from rfl, eO]; exact o2⟩
    · have he' : e < n := by omega
      obtain ⟨i1, i2, i3, i4, i5⟩ := h.ev.e e (by omega)
      rw [lpe e z, lkd e z, lnu e z, ldy e z, li _ _ (by decide) z, li _ _ (by decide) z, e205]
      refine ⟨i1, i2, i3, fun q => ?_, fun q => ?_⟩
      · obtain ⟨x, x1, x2, x3⟩ := i4 q
        exact ⟨x, x1, x2, (lpe x (by omega)).trans x3⟩
      · obtain ⟨o, o1, o2⟩ := i5 q
        exact ⟨o, o1, by rw [show (ν.1 317 0 0 0).toNatClampNeg = ofN ν from rfl, eO]; exact o2⟩
  · rw [eP]
    by_cases z : e = n
    · rw [z, epe]
      exact hj
    · rw [lpe e z]
      exact h.ev.p e (by omega)
  · rw [l _ _ _ _ (by decide) (by decide) (by decide)]
    have := h.ev.c c (by omega)
    omega
  · rw [l _ _ _ _ (by decide) (by decide) (by decide), eV]
    exact h.ev.ov o (by omega)
  · rw [l _ _ _ _ (by decide) (by decide) (by decide), eF]
    exact h.ev.po p (by omega)
  · rw [l _ _ _ _ (by decide) (by decide) (by decide), eF]
    exact h.ev.vo v (by omega)
  · rw [l _ _ _ _ (by decide) (by decide) (by decide), l _ _ _ _ (by decide) (by decide) (by decide)]
    exact h.ev.so o ho
  · rw [l _ _ _ _ (by decide) (by decide) (by decide), e205]
    exact h.ev.br r (by omega)
  · rw [l _ _ _ _ (by decide) (by decide) (by decide)]
    exact h.ev.oc o (by omega)
  · rw [l _ _ _ _ (by decide) (by decide) (by decide), e205]
    exact h.ev.lk
  · rw [l _ _ _ _ (by decide) (by decide) (by decide), e205]
    exact h.ev.bt r (by omega)
  · rw [l _ _ _ _ (by decide) (by decide) (by decide), eP]
    exact h.ev.op o (by omega)
  · rw [hτ]
    unfold xTell xAdd
    rw [sI_o (by decide), sI_o (by decide), sI_o (by decide), sI_o (by decide), sI_o (by decide), sI_o (by decide), sI_o (by decide), sI_i hp]
  · rw [hτ]
    unfold xTell xAdd
    rw [sI_o (by decide), sI_o (by decide), sI_o (by decide), sI_o (by decide), sI_o (by decide), sI_o (by decide), sI_o (by decide), sI_s]
  · rw [hν]
    unfold mNote
    rw [sI_s]
  · have wB : ∀ f a b i, f ∈ LB → ν.1 f a b i = μ.1 f a b i := fun f a b i q => by
      have w : ∀ f ∈ LB, ¬ (229 ≤ f ∧ f ≤ 234) ∧ f ≠ 218 ∧ f ≠ 273 := by decide
      have := w f q
      exact l f a b i this.1 this.2.1 this.2.2
    exact ENM_c ⟨funext fun t => l _ _ _ _ (by decide) (by decide) (by decide), funext fun t => l _ _ _ _ (by decide) (by decide) (by decide)⟩ (st_c wB q k) (l _ _ _ _ (by decide) (by decide) (by decide)) (l _ _ _ _ (by decide) (by decide) (by decide)) (l _ _ _ _ (by decide) (by decide) (by decide))
  · refine evM_q (n := n) (b := 1) hn n18 (fun x q1 q2 => ?_) (fun x hx => by rw [lpe x (by omega)]) (fun x hx _ => ⟨lkd x (by omega), lnu x (by omega), ldy x (by omega), lkw k x (by omega), ofM_c (lkd x (by omega)) (lnu x (by omega)) hLW⟩)
    have : x = n := by omega
    rw [this, epe]
    exact fun z => hqj z.symm
  · have z : e ≠ n := fun z => by
      rw [z, epe] at hpe
      exact hqj hpe.symm
    rw [lpe e z] at hpe
    exact ⟨by omega, hpe, ldy e z⟩
  · have eb : bkN ν = bkN μ := by
      unfold bkN
      rw [n18, hn]
      show cnt (fun e => !decide (ν.1 234 0 0 e = -1)) n + (if (!decide (ν.1 234 0 0 n = -1)) = true then 1 else 0) = _
      rw [n34]
      simp only [decide_true, Bool.not_true, Bool.false_eq_true, if_false, Nat.add_zero]
      exact cnt_cg n (fun x hx => by rw [li _ _ (by decide) (by omega)])
    rw [eb, n18, eR, eT, hn]
    omega
