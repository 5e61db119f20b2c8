/-! the class sends: the first row with the greatest sum -/
theorem pk_none {G : Nat → Nat → Nat} {V k q : Nat} {U : Nat → Bool} (h : ¬ pkR G V k q U < V) : ∀ w, w < V → okR G V k q U w = false := fun w hw => fa_first_no (okR G V k q U) V w (by unfold pkR at h; omega)
theorem adv {G : Nat → Nat → Nat} {P V p : Nat} : ∀ d, p + d ≤ P → (∀ q v, p ≤ q → q < p + d → v < V → G q v = 0) → bU G P V (p + d) = bU G P V p ∧ bW G V (P - (p + d)) (p + d) (bU G P V p) = bW G V (P - p) p (bU G P V p) ∧ ∀ q, p ≤ q → q < p + d → ¬ bR G P V q < V
  | 0, _, _ => ⟨rfl, rfl, fun q a b => absurd b (by omega)⟩
  | d + 1, h, hz => by
    obtain ⟨a1, a2, a3⟩ := adv (G := G) (P := P) (V := V) (p := p) d (by omega) (fun q v a b => hz q v a (by omega))
    have no : ∀ w, w < V → okR G V (P - (p + d + 1)) (p + d) (bU G P V (p + d)) w = false := fun w hw => decide_eq_false fun z => z.1.2 (hz (p + d) w (by omega) (by omega) hw)
    have nb : ¬ bR G P V (p + d) < V := pkR_no no
    have e := bU_n nb
    refine ⟨(show bU G P V (p + d + 1) = _ from e.trans a1), ?_, fun q b1 b2 => ?_⟩
    · rw [← a2]
      have := bW_no no
      rw [a1, show P - (p + d + 1) + 1 = P - (p + d) by omega] at this
      exact this.symm
    · by_cases y : q = p + d
      · rw [y]; exact nb
      · exact a3 q b1 (by omega)
theorem bW_step {G : Nat → Nat → Nat} {P V p : Nat} (hp : p < P) : bW G V (P - p) p (bU G P V p) = (if bR G P V p < V then G p (bR G P V p) else 0) + bW G V (P - (p + 1)) (p + 1) (bU G P V (p + 1)) := by
  have ek : P - p = P - (p + 1) + 1 := by omega
  by_cases c : bR G P V p < V
  · rw [if_pos c, bU_t c]
    have y := fa_first_yes (okR G V (P - (p + 1)) p (bU G P V p)) V c
    have := (of_decide_eq_true y).2
    rw [ek]
    exact this.symm
  · rw [if_neg c, bU_n c, ek, bW_no (pk_none c)]
    omega
def nxP (P R : Nat) (wh : Nat → Nat) (r : Nat) : Nat := if r ≤ R then wh (r - 1) else P
theorem settleRow_e {N P V R C r q : Nat} {G : Nat → Nat → Nat} {wh wr : Nat → Nat} {σ : St} (hN : 100 ≤ N) (hr : r ≤ R) (hq : wh (r - 1) = q) (p : P2S G P V R C wh wr r σ) (hU : ∀ c, c < C → (bU G P V q (wr c) = true ↔ raX σ (c + 1) < r)) : ∃ σ', fSending_settleRow N (nI r) σ = some (nI (if bR G P V q < V then G q (bR G P V q) else 0), σ') ∧ stX σ σ' ∧ P2S G P V R C wh wr (r + 1) σ' ∧ (∀ c, c < C → (bU G P V (q + 1) (wr c) = true ↔ raX σ' (c + 1) < r + 1)) ∧ (∀ i, i ≠ q → σ'.1 123 0 0 i = σ.1 123 0 0 i) ∧ σ'.1 123 0 0 q = if bR G P V q < V then nI (bR G P V q) else σ.1 123 0 0 q := by
  have p2 := p.x.s.P2
  have v2 := p.x.s.V2
  have r2 := p.x.s.R2
  have cc2 := p.x.s.C2
  have r1 := p.g.r1
  have qP := p.x.s.a (r - 1) (by omega)
  rw [hq] at qP
  obtain ⟨σ1, σ', a1, a2, a3, a4⟩ := settle2 (N := N) (q := q) (k := P - (q + 1)) (U := bU G P V q) hN hr hq (by omega) C 1 N σ (by omega) (by omega) (Nat.le_refl 1) p hU (fun c' a => absurd a (by omega))
  have gc := a2.g.c1 r r1 (by omega)
  have P3 := a2.nx hr
  have s123 : ∀ i, σ1.1 123 0 0 i = σ.1 123 0 0 i := fun i => a1.1 _ _ _ _ (by decide)
  have raE : ∀ j, raX (sI σ1 136 0 0 (coX σ1 r) 1) j = raX σ1 j := fun j => by unfold raX; rw [sI_o (by decide)]
  have colr : ∀ c, c < C → (raX σ1 (c + 1) < r + 1 ↔ (raX σ1 (c + 1) < r ∨ c + 1 = coX σ1 r)) := fun c hc => by
    have t := a2.g.t1 (c + 1) (by omega) (by omega)
    constructor
    · intro z
      by_cases y : raX σ1 (c + 1) < r
      · exact Or.inl y
      · refine Or.inr ?_
        have e : raX σ1 (c + 1) = r := by omega
        rw [← e]
        exact t.2.2.symm
    · intro z
      rcases z with z | z
      · omega
      · rw [z, gc.2.2]; omega
  have st1 : stX σ (sI σ1 136 0 0 (coX σ1 r) 1) := ⟨fun f a b i y1 y2 => by rw [sI_o (by omega)]; exact a1.1 f a b i (by omega), a1.2⟩
  rcases a4 with ⟨c1, b1, b2, b3, b4, b5, b6⟩ | ⟨b1, b2, b3, b4⟩
  · have wc := p.x.s.b c1 b2
    have is : bR G P V q = wr c1 := pkR_is wc (fun w hw => by
      cases y : okR G V (P - (q + 1)) q (bU G P V q) w with
      | false => rfl
      | true =>
        have m := (of_decide_eq_true y).1
        obtain ⟨c', d1, d2⟩ := p.x.s.cb q w qP (by omega) m.2
        have lt : c' < c1 := by
          refine Nat.lt_of_not_le fun z => ?_
          by_cases e : c' = c1
          · rw [← d2, e] at hw; omega
          · have := p.x.s.mb c1 c' (by omega) d1
            omega
        have := b4 c' lt
        rw [d2, y] at this
        exact absurd this (by decide)) b3
    have ltV : bR G P V q < V := by omega
    rw [if_pos ltV, if_pos ltV, is, bU_t ltV, is]
    refine ⟨σ', b6, ⟨fun f a b i y1 y2 => by rw [b5, sI_o y2]; exact st1.1 f a b i y1 y2, by rw [b5]; exact st1.2⟩, ?_, fun c hc => ?_, fun i hi => by rw [b5, sI_i hi, sI_o (by decide)]; exact s123 i, by rw [b5, sI_s]⟩
    · have E : ∀ f, f ≠ 123 → ∀ a b i, σ'.1 f a b i = (sI σ1 136 0 0 (coX σ1 r) 1).1 f a b i := fun f hf a b i => by rw [b5, sI_o hf]
      have eu : rpX σ' = rpX (sI σ1 136 0 0 (coX σ1 r) 1) := funext fun i => by unfold rpX; rw [E _ (by decide)]
      have ew : cpX σ' = cpX (sI σ1 136 0 0 (coX σ1 r) 1) := funext fun i => by unfold cpX; rw [E _ (by decide)]
      have et : raX σ' = raX (sI σ1 136 0 0 (coX σ1 r) 1) := funext fun i => by unfold raX; rw [E _ (by decide)]
      have ec : coX σ' = coX (sI σ1 136 0 0 (coX σ1 r) 1) := funext fun i => by
        show (σ'.1 132 0 0 i).toNatClampNeg = ((sI σ1 136 0 0 (coX σ1 r) 1).1 132 0 0 i).toNatClampNeg
        rw [E _ (by decide)]
      exact ⟨P3.x.mv fun f a b i z => E f (by omega) a b i, by rw [eu, ew, et, ec]; exact P3.g, fun j j1 j2 => by rw [et, E _ (by decide)]; exact P3.t j j1 j2, fun i i1 i2 => by rw [ec, E _ (by decide)]; exact P3.c i i1 i2, fun j j1 j2 => by rw [et, E _ (by decide)]; exact P3.z j j1 j2, by rw [eu]; exact P3.bu, by rw [ew]; exact P3.bw⟩
    · have e : raX σ' (c + 1) = raX σ1 (c + 1) := by
        unfold raX
        rw [b5, sI_o (by decide), sI_o (by decide)]
      rw [e, colr c hc, ← a3 c hc]
      by_cases y : c = c1
      · rw [y, insU_s]
        exact ⟨fun _ => Or.inr (by omega), fun _ => rfl⟩
      · have ne : wr c ≠ wr c1 := fun z => by
          by_cases l : c < c1
          · have := p.x.s.mb c c1 l b2
            omega
          · have := p.x.s.mb c1 c (by omega) hc
            omega
        rw [insU_o ne]
        exact ⟨fun z => Or.inl z, fun z => z.resolve_right (by omega)⟩
  · have no : ¬ bR G P V q < V := pkR_no fun w hw => by
      cases y : okR G V (P - (q + 1)) q (bU G P V q) w with
      | false => rfl
      | true =>
        have m := (of_decide_eq_true y).1
        obtain ⟨c', d1, d2⟩ := p.x.s.cb q w qP hw m.2
        have := b2 c' d1
        rw [d2, y] at this
        exact absurd this (by decide)
    rw [if_neg no, if_neg no, bU_n no]
    rw [b3] at b4
    refine ⟨_, b4, st1, P3, fun c hc => ?_, fun i hi => by rw [sI_o (by decide)]; exact s123 i, by rw [sI_o (by decide)]; exact s123 q⟩
    rw [raE, colr c hc, ← a3 c hc]
    exact ⟨fun z => Or.inl z, fun z => z.resolve_right (by omega)⟩
theorem best99 {N P V R C : Nat} {G : Nat → Nat → Nat} {wh wr : Nat → Nat} (hN : 100 ≤ N) : ∀ (e r m S : Nat) (σ : St), r + e = R + 1 → e < m → P2S G P V R C wh wr r σ → (∀ c, c < C → (bU G P V (nxP P R wh r) (wr c) = true ↔ raX σ (c + 1) < r)) → S + bW G V (P - nxP P R wh r) (nxP P R wh r) (bU G P V (nxP P R wh r)) = bW G V P 0 (fun _ => false) → (∀ q, q < nxP P R wh r → σ.1 123 0 0 q = if bR G P V q < V then nI (bR G P V q) else -1) → (∀ q, nxP P R wh r ≤ q → q < 20 → σ.1 123 0 0 q = -1) → ∃ σ', fSending_sendBest_99 N m (nI S) (nI r) σ = some (nI (bW G V P 0 (fun _ => false)), σ') ∧ stX σ σ' ∧ (∀ q, q < P → σ'.1 123 0 0 q = if bR G P V q < V then nI (bR G P V q) else -1) ∧ (∀ q, P ≤ q → q < 20 → σ'.1 123 0 0 q = -1) := by
  intro e
  induction e with
  | zero =>
    intro r m S σ h1 h2 p hU hS hA hB
    obtain ⟨m, rfl⟩ : ∃ q, m = q + 1 := ⟨m - 1, by omega⟩
    have p2 := p.x.s.P2
    have r2 := p.x.s.R2
    have eN : nxP P R wh r = P := if_neg (by omega)
    rw [eN] at hS hA hB
    refine ⟨σ, ?_, stX.rfl', hA, hB⟩
    show (if σ.1 126 0 0 0 < nI r then some (nI S, σ) else _) = _
    rw [p.x.r, if_pos (nI_lt (by omega) (by omega))]
    rw [Nat.sub_self] at hS
    have : bW G V 0 P (bU G P V P) = 0 := rfl
    rw [← hS, this, Nat.add_zero]
  | succ e ih =>
    intro r m S σ h1 h2 p hU hS hA hB
    obtain ⟨m, rfl⟩ : ∃ q, m = q + 1 := ⟨m - 1, by omega⟩
    have p2 := p.x.s.P2
    have r2 := p.x.s.R2
    have r1 := p.g.r1
    have hr : r ≤ R := by omega
    obtain ⟨q, hq⟩ : ∃ q, wh (r - 1) = q := ⟨_, rfl⟩
    have eN : nxP P R wh r = q := (if_pos hr).trans hq
    rw [eN] at hU hS hA hB
    have qP := p.x.s.a (r - 1) (by omega)
    rw [hq] at qP
    obtain ⟨σ1, a1, a2, a3, a4, a5, a6⟩ := settleRow_e (N := N) hN hr hq p hU
    have st := bW_step (G := G) (P := P) (V := V) qP
    -- the next who has a pair
    have nb : q < nxP P R wh (r + 1) ∧ nxP P R wh (r + 1) ≤ P := by
      unfold nxP
      by_cases z : r + 1 ≤ R
      · rw [if_pos z]
        have := p.x.s.ma (r - 1) (r + 1 - 1) (by omega) (by omega)
        have := p.x.s.a (r + 1 - 1) (by omega)
        omega
      · rw [if_neg z]
        omega
    obtain ⟨d, hd⟩ : ∃ d, nxP P R wh (r + 1) = q + 1 + d := ⟨nxP P R wh (r + 1) - (q + 1), by omega⟩
    obtain ⟨b1, b2, b3⟩ := adv (G := G) (P := P) (V := V) (p := q + 1) d (by omega) (fun q' v y1 y2 y3 => by
      refine Classical.byContradiction fun z => ?_
      obtain ⟨i, i1, i2⟩ := p.x.s.ca q' v (by omega) y3 z
      have lo : r - 1 < i := by
        refine Nat.lt_of_not_le fun w => ?_
        by_cases x : i = r - 1
        · rw [x, hq] at i2; omega
        · have := p.x.s.ma i (r - 1) (by omega) (by omega)
          omega
      unfold nxP at hd
      rw [if_pos (by omega)] at hd
      by_cases x : i = r + 1 - 1
      · rw [x] at i2; omega
      · have := p.x.s.ma (r + 1 - 1) i (by omega) i1
        omega)
    obtain ⟨σ', c1, c2, c3, c4⟩ := ih (r + 1) m (S + (if bR G P V q < V then G q (bR G P V q) else 0)) σ1 (by omega) (by omega) a3 (by rw [hd, b1]; exact a4) (by rw [hd, b1, b2]; omega) (fun q' y => by
      rw [hd] at y
      by_cases z : q' = q
      · rw [z, a6, hB q (Nat.le_refl q) (by omega)]
      · rw [a5 q' z]
        by_cases w : q' < q
        · exact hA q' w
        · rw [hB q' (by omega) (by omega), if_neg (b3 q' (by omega) y)]) (fun q' y y2 => by
      rw [hd] at y
      rw [a5 q' (by omega)]
      exact hB q' (by omega) y2)
    refine ⟨σ', ?_, a2.tr c2, c3, c4⟩
    show (if σ.1 126 0 0 0 < nI r then _ else bnd (fSending_settleRow N (nI r) σ) fun r1 σ2 => nm ((nI S + r1)) fun (y3 : Int32) => (fSending_sendBest_99 N m) y3 (nI r + 1) σ2) = _
    rw [p.x.r, if_neg (nlt_of (by omega) (by omega) hr), a1, bnd_e, nmx, nI_add, nI_1]
    exact c1
/-- columns of rows -/
theorem cols53 {N P V R C : Nat} {G : Nat → Nat → Nat} {wh wr : Nat → Nat} {σ0 : St} (h : HS G P V R C wh wr (R + C) σ0) : ∀ (e j m : Nat) (σ : St), j + e = R + C + 1 → e < m → 1 ≤ j → (∀ f a b i, f ≠ 132 → σ.1 f a b i = σ0.1 f a b i) → σ.2 = σ0.2 → (∀ j', 1 ≤ j' → j' < j → 1 ≤ raX σ0 j' → σ.1 132 0 0 (raX σ0 j') = nI j') → ∃ σ', fSending_sendBest_53 N m (nI j) σ = (bn1 (fSending_unmark_settled N σ') fun σ1 => bn1 (fArrays_fill_Sending_sentTo N (-1) σ1) fun σ2 => fSending_sendBest_99 N N (nI 0) (nI 1) σ2) ∧ (∀ f a b i, f ≠ 132 → σ'.1 f a b i = σ0.1 f a b i) ∧ σ'.2 = σ0.2 ∧ (∀ j', 1 ≤ j' → j' ≤ R + C → 1 ≤ raX σ0 j' → σ'.1 132 0 0 (raX σ0 j') = nI j') := by
  have p2 := h.x.s.P2
  have v2 := h.x.s.V2
  have r2 := h.x.s.R2
  have cc2 := h.x.s.C2
  intro e
  induction e with
  | zero =>
    intro j m σ h1 h2 h3 hF hF2 hA
    obtain ⟨m, rfl⟩ : ∃ q, m = q + 1 := ⟨m - 1, by omega⟩
    refine ⟨σ, ?_, hF, hF2, fun j' a b => hA j' a (by omega)⟩
    show (if σ.1 128 0 0 0 < nI j then bn1 (fSending_unmark_settled N σ) fun σ1 => bn1 (fArrays_fill_Sending_sentTo N (-1) σ1) fun σ2 => fSending_sendBest_99 N N (nI 0) (nI 1) σ2 else _) = _
    rw [hF _ _ _ _ (by decide), h.x.n, if_pos (nI_lt (by omega) (by omega))]
  | succ e ih =>
    intro j m σ h1 h2 h3 hF hF2 hA
    obtain ⟨m, rfl⟩ : ∃ q, m = q + 1 := ⟨m - 1, by omega⟩
    have tl := h.g.t1 j h3 (by omega)
    have s131 : σ.1 131 0 0 j = nI (raX σ0 j) := (hF _ _ _ _ (by decide)).trans (h.t j h3 (by omega))
    have e0 : fSending_sendBest_53 N (m + 1) (nI j) σ = fSending_sendBest_53 N m (nI (j + 1)) (sI σ 132 0 0 (raX σ0 j) (nI j)) := by
      have i1 : inb (σ.1 131 0 0 (nI j).toNatClampNeg) 45 := by
        rw [nI_clamp (by omega), s131]
        exact inb_n (by omega) (by decide)
      show (if σ.1 128 0 0 0 < nI j then _ else chk (inb (nI j) 45) <| chk (inb (σ.1 131 0 0 (nI j).toNatClampNeg) 45) <| nm (sI σ 132 0 0 (σ.1 131 0 0 (nI j).toNatClampNeg).toNatClampNeg (nI j)) fun (σ3 : St) => (fSending_sendBest_53 N m) (nI j + 1) σ3) = _
      rw [hF 128 _ _ _ (by decide), h.x.n, if_neg (nlt_of (by omega) (by omega) (by omega)), chk_t (inb_n (by omega) (by decide)), chk_t i1, nmx, nI_clamp (n := j) (by omega), s131, nI_clamp (n := raX σ0 j) (by omega), nI_1]
    rw [e0]
    refine ih (j + 1) m _ (by omega) (by omega) (by omega) (fun f a b i z => by rw [sI_o z]; exact hF f a b i z) hF2 fun j' a b z => ?_
    by_cases y : raX σ0 j' = raX σ0 j
    · have := h.g.inj j' j a (by omega) h3 (by omega) z y
      rw [y, sI_s, this]
    · rw [sI_i y]
      refine hA j' a ?_ z
      refine Nat.lt_of_le_of_ne (by omega) fun w => y (by rw [w])
theorem sendBest_e {N P V : Nat} {G : Nat → Nat → Nat} {σ : St} (hN : 100 ≤ N) (hG : GnX G P V σ) : ∃ σ', fSending_sendBest N (nI P) (nI V) σ = some (nI (bW G V P 0 (fun _ => false)), σ') ∧ (∀ f a b i, ¬ (123 ≤ f ∧ f ≤ 137) → σ'.1 f a b i = σ.1 f a b i) ∧ σ'.2 = σ.2 ∧ (∀ q, q < P → σ'.1 123 0 0 q = if bR G P V q < V then nI (bR G P V q) else -1) ∧ (∀ q, P ≤ q → q < 20 → σ'.1 123 0 0 q = -1) := by
  obtain ⟨σ1, R, C, wh, wr, a1, a2, a3⟩ := gather_e (N := N) hN hG
  obtain ⟨σ2, b1, b2, b3, b4⟩ := fill_rowPrice (N := N) (x := 0) hN σ1
  obtain ⟨σ3, c1, c2, c3, c4⟩ := fill_columnPrice (N := N) (x := 0) hN σ2
  obtain ⟨σ4, d1, d2, d3, d4⟩ := fill_rowAt (N := N) (x := 0) hN σ3
  have p2 := a3.s.P2
  have v2 := a3.s.V2
  have r2 := a3.s.R2
  have cc2 := a3.s.C2
  have x4 : SX G P V R C wh wr σ4 := a3.mv fun f a b i z => by rw [d2 _ _ _ _ (by omega), c2 _ _ _ _ (by omega), b2 _ _ _ _ (by omega)]
  have u4 : ∀ i, i < 45 → rpX σ4 i = 0 := fun i hi => by unfold rpX; rw [d2 _ _ _ _ (by decide), c2 _ _ _ _ (by decide), b4 i hi]; rfl
  have w4 : ∀ i, i < 45 → cpX σ4 i = 0 := fun i hi => by unfold cpX; rw [d2 _ _ _ _ (by decide), c4 i hi]; rfl
  have t4 : ∀ i, i < 45 → raX σ4 i = 0 := fun i hi => by unfold raX; rw [d4 i hi]; rfl
  have H0 : HS G P V R C wh wr 0 σ4 := ⟨x4, ⟨fun j j1 j2 => by rw [t4 j (by omega)]; exact Nat.le_refl _, fun j j1 j2 z => by rw [t4 j (by omega)] at z; omega, fun j j' j1 j2 _ _ z => by rw [t4 j (by omega)] at z; omega, fun i j i1 i2 => by omega, fun i i1 i2 => by omega, fun j j1 j2 => by rw [w4 j (by omega)]; exact Int.le_refl _, fun j j1 j2 _ => w4 j (by omega), fun i _ i2 => u4 i (by omega), fun i i1 i2 => by omega, fun j j1 j2 => by rw [w4 j (by omega)]; omega⟩, fun j j1 j2 => by rw [d4 j (by omega), t4 j (by omega)]; rfl⟩
  obtain ⟨σ5, e1, e2, e3⟩ := place32 (N := N) hN (R + C) 0 N σ4 (by omega) (by omega) H0
  obtain ⟨σ6, f1, f2, f3, f4⟩ := cols53 (N := N) e3 (R + C) 1 N σ5 (by omega) (by omega) (Nat.le_refl 1) (fun _ _ _ _ _ => rfl) rfl (fun j' a b => absurd b (by omega))
  obtain ⟨σ7, g1, g2, g3, g4⟩ := unmark_settled (N := N) hN σ6
  obtain ⟨σ8, h1, h2, h3, h4⟩ := fill_sentTo (N := N) (x := -1) hN σ7
  have E : ∀ f a b i, f ≠ 123 → f ≠ 132 → f ≠ 136 → σ8.1 f a b i = σ5.1 f a b i := fun f a b i z1 z2 z3 => by rw [h2 _ _ _ _ z1, g2 _ _ _ _ z3, f2 _ _ _ _ z2]
  have eu : rpX σ8 = rpX σ5 := funext fun i => by unfold rpX; rw [E _ _ _ _ (by decide) (by decide) (by decide)]
  have ew : cpX σ8 = cpX σ5 := funext fun i => by unfold cpX; rw [E _ _ _ _ (by decide) (by decide) (by decide)]
  have et : raX σ8 = raX σ5 := funext fun i => by unfold raX; rw [E _ _ _ _ (by decide) (by decide) (by decide)]
  have co : ∀ j, 1 ≤ j → j ≤ R + C → 1 ≤ raX σ5 j → σ8.1 132 0 0 (raX σ5 j) = nI j ∧ coX σ8 (raX σ5 j) = j := fun j j1 j2 z => by
    have y : σ8.1 132 0 0 (raX σ5 j) = nI j := by rw [h2 _ _ _ _ (by decide), g2 _ _ _ _ (by decide)]; exact f4 j j1 j2 z
    exact ⟨y, by rw [show coX σ8 (raX σ5 j) = (σ8.1 132 0 0 (raX σ5 j)).toNatClampNeg from rfl, y]; exact nI_clamp (by omega)⟩
  have c1' : ∀ i, 1 ≤ i → i ≤ R + C → 1 ≤ coX σ8 i ∧ coX σ8 i ≤ R + C ∧ raX σ5 (coX σ8 i) = i := fun i i1 i2 => by
    obtain ⟨j, j1, j2, j3⟩ := e3.g.on i i1 i2
    have := (co j j1 j2 (by omega)).2
    rw [j3] at this
    rw [this]
    exact ⟨j1, j2, j3⟩
  have t1' : ∀ j, 1 ≤ j → j ≤ R + C → 1 ≤ raX σ5 j ∧ raX σ5 j ≤ R + C ∧ coX σ8 (raX σ5 j) = j := fun j j1 j2 => by
    have pos : 1 ≤ raX σ5 j := by
      refine Nat.one_le_iff_ne_zero.mpr fun z => ?_
      have l := inj_cnt (m := R + C) (f := fun i => coX σ8 (i + 1) - 1) (R + C) (fun _ => true) (fun x => decide (x ≠ j - 1)) (fun i hi _ => by
        obtain ⟨y1, y2, y3⟩ := c1' (i + 1) (by omega) (by omega)
        refine ⟨by omega, decide_eq_true fun w => ?_⟩
        rw [show coX σ8 (i + 1) = j by omega, z] at y3
        omega) (fun i k hi hk _ _ w => by
        obtain ⟨y1, y2, y3⟩ := c1' (i + 1) (by omega) (by omega)
        obtain ⟨z1, z2, z3⟩ := c1' (k + 1) (by omega) (by omega)
        rw [show coX σ8 (i + 1) = coX σ8 (k + 1) by omega, z3] at y3
        omega)
      have l2 := cnt_lt (p := fun x => decide (x ≠ j - 1)) (q := fun _ => true) (a := j - 1) (n := R + C) (fun _ _ _ => rfl) (by omega) rfl (decide_eq_false (by omega))
      rw [cnt_t] at l l2
      omega
    exact ⟨pos, e3.g.t1 j j1 j2, (co j j1 j2 pos).2⟩
  have P1 : P2S G P V R C wh wr 1 σ8 := by
    refine ⟨e3.x.mv fun f a b i z => E f a b i (by omega) (by omega) (by omega), ?_, fun j j1 j2 => ?_, fun i i1 i2 => ?_, fun j j1 j2 => ?_, fun i i1 i2 => ?_, fun j j1 j2 => ?_⟩
    · rw [eu, ew, et]
      refine ⟨Nat.le_refl 1, t1', c1', fun i j i1 i2 j1 j2 _ => e3.g.f i j i1 i2 j1 j2, fun i i1 i2 => ?_⟩
      obtain ⟨y1, y2, y3⟩ := c1' i i1 i2
      have := e3.g.ti (coX σ8 i) y1 y2 (by omega)
      rw [y3] at this
      exact this
    · rw [et, E _ _ _ _ (by decide) (by decide) (by decide)]
      exact e3.t j j1 j2
    · obtain ⟨y1, y2, y3⟩ := c1' i i1 i2
      have := (co (coX σ8 i) y1 y2 (by omega)).1
      rw [y3] at this
      exact this
    · rw [et, h2 _ _ _ _ (by decide), g4 j (by omega)]
      have := (t1' j j1 j2).1
      exact ⟨fun _ => this, fun _ => rfl⟩
    · rw [eu]; exact e3.g.bu i i1 i2
    · rw [ew]; exact e3.g.bw j j1 j2
  -- up to the first who has a pair
  have nP : nxP P R wh 1 ≤ P := by
    unfold nxP
    split
    · have := a3.s.a 0 (by omega)
      show wh 0 ≤ P
      omega
    · exact Nat.le_refl _
  obtain ⟨k1, k2, k3⟩ := adv (G := G) (P := P) (V := V) (p := 0) (nxP P R wh 1) (by omega) (fun q v y1 y2 y3 => by
    refine Classical.byContradiction fun z => ?_
    obtain ⟨i, i1, i2⟩ := a3.s.ca q v (by omega) y3 z
    unfold nxP at y2
    rw [if_pos (by omega)] at y2
    by_cases x : i = 0
    · rw [x] at i2
      have : wh (1 - 1) = wh 0 := rfl
      omega
    · have := a3.s.ma 0 i (by omega) i1
      have : wh (1 - 1) = wh 0 := rfl
      omega)
  rw [Nat.zero_add] at k1 k2
  obtain ⟨σ', l1, l2, l3, l4⟩ := best99 (N := N) hN R 1 N 0 σ8 (by omega) (by omega) P1 (fun c hc => by
    rw [k1, et]
    have := (t1' (c + 1) (by omega) (by omega)).1
    exact ⟨fun z => absurd z Bool.false_ne_true, fun z => by omega⟩) (by
    rw [k1, k2, Nat.zero_add]
    rfl) (fun q y => by rw [h4 q (by omega), if_neg (k3 q (Nat.zero_le _) (by omega))]) (fun q _ y => h4 q y)
  refine ⟨σ', ?_, fun f a b i z => ?_, ?_, l3, l4⟩
  · show bn1 (fSending_gather N (nI P) (nI V) σ) (fun σ1 => bn1 (fArrays_fill_Sending_rowPrice N 0 σ1) fun σ2 => bn1 (fArrays_fill_Sending_columnPrice N 0 σ2) fun σ3 => bn1 (fArrays_fill_Sending_rowAt N 0 σ3) fun σ4 => fSending_sendBest_32 N N (nI 1) σ4) = _
    rw [a1, bn1_e, b1, bn1_e, c1, bn1_e, d1, bn1_e, e1, f1, g1, bn1_e, h1, bn1_e]
    exact l1
  · rw [l2.1 f a b i (by omega) (by omega), E f a b i (by omega) (by omega) (by omega), e2.1 f a b i (by omega), d2 _ _ _ _ (by omega), c2 _ _ _ _ (by omega), b2 _ _ _ _ (by omega)]
    exact a2.1 f a b i (by omega)
  · rw [l2.2, h3, g3, f3, e2.2, d3, c3, b3]
    exact a2.2
