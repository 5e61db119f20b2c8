/-! the reference looks for one more person: all ways, turn by turn -/
theorem init2 {N P V F : Nat} {G : Nat → Nat → Nat} {u : Int32} {μ : St} (hG : GnS G P V μ) : ∀ (e v m : Nat) (ρ : St), v + e = V → e < m → FB μ ρ → (∀ w, w < v → dV ρ w = -1000000) → ∃ ρ', fM_betterBy_2 N m (nI F) u (nI v) ρ = fM_betterBy_34 N N u (nI F) ρ' ∧ FB μ ρ' ∧ ∀ w, w < V → dV ρ' w = -1000000 := by
  have v2 := hG.V2
  intro e
  induction e with
  | zero =>
    intro v m ρ h1 h2 hF hd
    obtain ⟨m, rfl⟩ : ∃ q, m = q + 1 := ⟨m - 1, by omega⟩
    have : v = V := by omega
    subst this
    refine ⟨ρ, ?_, hF, hd⟩
    show (if ρ.1 316 0 0 0 ≤ nI v then fM_betterBy_34 N N u (nI F) ρ else _) = _
    rw [(hF.gs hG).V, if_pos (Int32.le_refl _)]
  | succ e ih =>
    intro v m ρ h1 h2 hF hd
    obtain ⟨m, rfl⟩ : ∃ q, m = q + 1 := ⟨m - 1, by omega⟩
    have e0 : fM_betterBy_2 N (m + 1) (nI F) u (nI v) ρ = fM_betterBy_2 N m (nI F) u (nI (v + 1)) (sI (sI ρ 335 0 0 v (-1000000)) 336 0 0 v (-1)) := by
      show (if ρ.1 316 0 0 0 ≤ nI v then _ else chk (inb (nI v) 24) <| nm (sI ρ 335 0 0 (nI v).toNatClampNeg (-1000000)) fun (σ1 : St) => nm (sI σ1 336 0 0 (nI v).toNatClampNeg (-1)) fun (σ2 : St) => (fM_betterBy_2 N m) (nI F) u (nI v + 1) σ2) = _
      rw [(hF.gs hG).V, if_neg (nI_ge (by omega) (by omega)), chk_t (inb_n (by omega) (by decide)), nmx, nmx, nI_clamp (by omega), nI_1]
    rw [e0]
    refine ih (v + 1) m _ (by omega) (by omega) hF.dc fun w hw => ?_
    by_cases k : w = v
    · rw [k, dV_s]; decide
    · rw [dV_o k]
      exact hd w (by omega)
theorem first34 {N P V F : Nat} {G : Nat → Nat → Nat} {U : Nat → Bool} {u : Int32} {s : Nat → Nat} {μ : St} (hN : 100 ≤ N) (hG : GnS G P V μ) (hU : MU u U) (M : Mt s F P V (hV μ) V) : ∀ (e q m : Nat) (ρ : St), q + e = P → e < m → F ≤ q → FB μ ρ → P1 (gm G U) s F P V (dV ρ) (cV ρ) q 0 → ∃ ρ', fM_betterBy_34 N m u (nI q) ρ = fM_betterBy_130 N N u 1 0 ρ' ∧ FB μ ρ' ∧ P1 (gm G U) s F P V (dV ρ') (cV ρ') P 0 := by
  have v2 := hG.V2
  have p2 := hG.P2
  intro e
  induction e with
  | zero =>
    intro q m ρ h1 h2 h3 hF hP
    obtain ⟨m, rfl⟩ : ∃ q, m = q + 1 := ⟨m - 1, by omega⟩
    have : q = P := by omega
    subst this
    refine ⟨ρ, ?_, hF, hP⟩
    show (if ρ.1 208 0 0 0 ≤ nI q then fM_betterBy_130 N N u 1 0 ρ else _) = _
    rw [(hF.gs hG).P, if_pos (Int32.le_refl _)]
  | succ e ih =>
    intro q m ρ h1 h2 h3 hF hP
    obtain ⟨m, rfl⟩ : ∃ q, m = q + 1 := ⟨m - 1, by omega⟩
    have g := hF.gs hG
    have e0 : fM_betterBy_34 N (m + 1) u (nI q) ρ = if (if s q < V then nI (s q) else -1) = (-1 : Int32) then fM_betterBy_57 N (fM_betterBy_34 N m) N u (nI q) (nI 0) ρ else fM_betterBy_34 N m u (nI (q + 1)) ρ := by
      show (if ρ.1 208 0 0 0 ≤ nI q then _ else bn1 (fM_holds N (nI q) ρ) fun r1 => if r1 = (-1) then fM_betterBy_57 N (fM_betterBy_34 N m) N u (nI q) 0 ρ else (fM_betterBy_34 N m) u (nI q + 1) ρ) = _
      rw [g.P, if_neg (nI_ge (by omega) (by omega)), holds_e (s := s) (F := F) (P := P) (e := V) hN g.V v2 p2 (by rw [hF.h]; exact M) (fun z => absurd z (by omega)) h3 (by omega), bn1_e, nI_1]
      rfl
    rw [e0]
    by_cases c : s q < V
    · rw [if_pos c, if_neg (m1_ne (by omega))]
      refine ih (q + 1) m ρ (by omega) (by omega) (by omega) hF ⟨hP.r, fun r v a b c2 d f z => ?_⟩
      by_cases k : r = q
      · rw [k] at d; omega
      · exact hP.o r v a b c2 d f (by omega)
    · rw [if_neg c, if_pos rfl]
      obtain ⟨ρ', r1, r2, r3⟩ := first57 (N := N) (go := fM_betterBy_34 N m) hG hU h3 (by omega) (by omega) V 0 N ρ (by omega) (by omega) hF hP
      rw [r1]
      exact ih (q + 1) m ρ' (by omega) (by omega) (by omega) r2 r3
theorem P1.bf {γ : Nat → Nat → Nat} {s : Nat → Nat} {F P V : Nat} {x y d : Nat → Int} {c : Nat → Int32} {l : Int} (D : DU γ s F P V x y l) (h : P1 γ s F P V d c P 0) : BF γ s F P V y l d c := by
  refine ⟨fun v hv => ?_, ⟨fun _ => 0, 1, fun _ => Nat.zero_lt_one, fun v hv hd => ?_⟩, fun q v a b k e f => h.o q v a b k e f (by omega)⟩
  · rcases h.r v hv with k | ⟨q, q1, q2, q3, q4, q5, q6⟩
    · exact Or.inl k
    · have := D.f q v q1 q2 hv q5
      have := D.u q q1 q2 q3
      exact Or.inr ⟨by omega, by omega⟩
  · rcases h.r v hv with k | ⟨q, q1, q2, q3, q4, q5, q6⟩
    · omega
    · exact ⟨q, q1, q2, q4, q5, Or.inl ⟨q3, q6⟩⟩
theorem sub_add_t {a : Int32} {m n : Nat} (h1 : -100000 ≤ a.toInt) (h2 : a.toInt ≤ 100000) (hm : m ≤ 999) (hn : n ≤ 999) : ((a - nI m) + nI n).toInt = a.toInt - m + n := by
  have e1 : (a - nI m).toInt = a.toInt - m := by
    rw [Int32.toInt_sub, nI_toInt (by omega)]
    exact Int.bmod_eq_of_le (by omega) (by omega)
  rw [Int32.toInt_add, e1, nI_toInt (by omega)]
  exact Int.bmod_eq_of_le (by omega) (by omega)
/-- all that was looked at changed nothing -/
def CLn (γ : Nat → Nat → Nat) (s : Nat → Nat) (F P V : Nat) (d : Nat → Int) (fl : Int32) (a0 b0 : Nat) : Prop := fl = 0 → ∀ a b, a < V → b < V → (a < a0 ∨ (a = a0 ∧ b < b0)) → Rx γ s F P d a b
theorem relax185 {N P V F a0 q0 t : Nat} {G : Nat → Nat → Nat} {U : Nat → Bool} {u x4 : Int32} {s : Nat → Nat} {x y : Nat → Int} {l : Int} {go : Int32 → Int32 → Int32 → St → Option (Int32 × St)} {go2 : Int32 → Int32 → Int32 → Int32 → St → Option (Int32 × St)} {μ : St} (hG : GnS G P V μ) (hU : MU u U) (M : Mt s F P V (hV μ) V) (D : DU (gm G U) s F P V x y l) (ha : a0 < V) (q1 : F ≤ q0) (q2 : q0 < P) (hs : s q0 = a0) : ∀ (e b0 m : Nat) (ρ : St) (fl : Int32), b0 + e = V → e < m → FB μ ρ → BF (gm G U) s F P V y l (dV ρ) (cV ρ) → TU (gm G U) s F P V y l (dV ρ) t a0 b0 → CLn (gm G U) s F P V (dV ρ) fl a0 b0 → -1000000 < dV ρ a0 → ∃ ρ' fl', fM_betterBy_185 N go go2 m u fl x4 (nI a0) (nI b0) ρ = go2 u fl' x4 (nI (a0 + 1)) ρ' ∧ FB μ ρ' ∧ BF (gm G U) s F P V y l (dV ρ') (cV ρ') ∧ TU (gm G U) s F P V y l (dV ρ') t (a0 + 1) 0 ∧ CLn (gm G U) s F P V (dV ρ') fl' (a0 + 1) 0 := by
  have v2 := hG.V2
  have p2 := hG.P2
  have hh : hV μ a0 = nI q0 := by rw [← hs]; exact M.a q0 q1 q2 (by omega)
  intro e
  induction e with
  | zero =>
    intro b0 m ρ fl h1 h2 hF hB hT hC hd
    obtain ⟨m, rfl⟩ : ∃ q, m = q + 1 := ⟨m - 1, by omega⟩
    have : b0 = V := by omega
    subst this
    refine ⟨ρ, fl, ?_, hF, hB, hT.row, fun z a b c1 c2 c3 => hC z a b c1 c2 (by omega)⟩
    show (if ρ.1 316 0 0 0 ≤ nI b0 then go2 u fl x4 (nI a0 + 1) ρ else _) = _
    rw [(hF.gs hG).V, if_pos (Int32.le_refl _), nI_1]
  | succ e ih =>
    intro b0 m ρ fl h1 h2 hF hB hT hC hd
    obtain ⟨m, rfl⟩ : ∃ q, m = q + 1 := ⟨m - 1, by omega⟩
    have g := hF.gs hG
    have h0 : ρ.1 334 0 0 a0 = nI q0 := by
      have := congrFun hF.h a0
      unfold hV at this hh
      rw [this, hh]
    have gb := gm_le (U := U) (q := q0) (v := b0) hG.b
    have ga := gm_le (U := U) (q := q0) (v := a0) hG.b
    have e0 : fM_betterBy_185 N go go2 (m + 1) u fl x4 (nI a0) (nI b0) ρ = if nI b0 = nI a0 then fM_betterBy_185 N go go2 m u fl x4 (nI a0) (nI (b0 + 1)) ρ else if nI (gm G U q0 b0) = 0 then fM_betterBy_185 N go go2 m u fl x4 (nI a0) (nI (b0 + 1)) ρ else if ρ.1 335 0 0 b0 < (ρ.1 335 0 0 a0 - nI (gm G U q0 a0)) + nI (gm G U q0 b0) then fM_betterBy_185 N go go2 m u 1 x4 (nI a0) (nI (b0 + 1)) (sI (sI ρ 335 0 0 b0 ((ρ.1 335 0 0 a0 - nI (gm G U q0 a0)) + nI (gm G U q0 b0))) 336 0 0 b0 (nI q0)) else fM_betterBy_185 N go go2 m u fl x4 (nI a0) (nI (b0 + 1)) ρ := by
      show (if ρ.1 316 0 0 0 ≤ nI b0 then _ else chk (inb (nI a0) 24) <| bn1 (fM_gainAt N (ρ.1 334 0 0 (nI a0).toNatClampNeg) (nI b0) u ρ) fun r1 => if nI b0 = nI a0 then (fM_betterBy_185 N go go2 m) u fl x4 (nI a0) (nI b0 + 1) ρ else if r1 = 0 then (fM_betterBy_185 N go go2 m) u fl x4 (nI a0) (nI b0 + 1) ρ else bn1 (fM_gainAt N (ρ.1 334 0 0 (nI a0).toNatClampNeg) (nI a0) u ρ) fun r2 => nm ((((ρ.1 335 0 0 (nI a0).toNatClampNeg) - r2) + r1)) fun (y3 : Int32) => chk (inb (nI b0) 24) <| if (ρ.1 335 0 0 (nI b0).toNatClampNeg) < y3 then nm (sI ρ 335 0 0 (nI b0).toNatClampNeg y3) fun (σ4 : St) => nm (sI σ4 336 0 0 (nI b0).toNatClampNeg (σ4.1 334 0 0 (nI a0).toNatClampNeg)) fun (σ5 : St) => (fM_betterBy_185 N go go2 m) u 1 x4 (nI a0) (nI b0 + 1) σ5 else (fM_betterBy_185 N go go2 m) u fl x4 (nI a0) (nI b0 + 1) ρ) = _
      rw [g.V, if_neg (nI_ge (by omega) (by omega)), chk_t (inb_n (by omega) (by decide)), nI_clamp (n := a0) (by omega), h0, gainAt_e g hU q2 (by omega), bn1_e, gainAt_e g hU q2 ha, bn1_e, nmx, chk_t (inb_n (by omega) (by decide)), nI_clamp (n := b0) (by omega), nmx, nmx, sI_o (by decide), h0, nI_1]
    rw [e0]
    have skip : Rx (gm G U) s F P (dV ρ) a0 b0 → ∃ ρ' fl', fM_betterBy_185 N go go2 m u fl x4 (nI a0) (nI (b0 + 1)) ρ = go2 u fl' x4 (nI (a0 + 1)) ρ' ∧ FB μ ρ' ∧ BF (gm G U) s F P V y l (dV ρ') (cV ρ') ∧ TU (gm G U) s F P V y l (dV ρ') t (a0 + 1) 0 ∧ CLn (gm G U) s F P V (dV ρ') fl' (a0 + 1) 0 := fun r => by
      refine ih (b0 + 1) m ρ fl (by omega) (by omega) hF hB (hT.nx r) (fun z a b c1 c2 c3 => ?_) hd
      by_cases k : a = a0 ∧ b = b0
      · rw [k.1, k.2]; exact r
      · exact hC z a b c1 c2 (by omega)
    have uq : ∀ q, F ≤ q → q < P → s q = a0 → q = q0 := fun q r1 r2 r3 => D.i q q0 r1 r2 q1 q2 (by omega) (by omega)
    by_cases c1 : b0 = a0
    · rw [if_pos (by rw [c1])]
      exact skip fun q _ _ _ _ z => absurd c1 z
    rw [if_neg (fun z => c1 (nIj (by omega) (by omega) z))]
    by_cases c2 : gm G U q0 b0 = 0
    · rw [if_pos (by rw [c2]; rfl)]
      refine skip fun q r1 r2 r3 _ _ z => ?_
      rw [uq q r1 r2 r3] at z
      exact absurd c2 z
    rw [if_neg (nI_nz (by omega) c2)]
    have cl := cnt_le (rcd (dV ρ)) V
    have rA := (hB.r a0 ha).resolve_left (by omega)
    have tA := (D.t q0 q1 q2 (by omega)).2
    rw [hs] at tA
    have xl := D.xl q0 q1 q2
    have ew : ((ρ.1 335 0 0 a0 - nI (gm G U q0 a0)) + nI (gm G U q0 b0)).toInt = dV ρ a0 - (gm G U q0 a0 : Int) + (gm G U q0 b0 : Int) := by
      have b1 : -100000 ≤ dV ρ a0 := by omega
      have b2 : dV ρ a0 ≤ 100000 := by omega
      exact sub_add_t (a := ρ.1 335 0 0 a0) b1 b2 ga gb
    by_cases c3 : ρ.1 335 0 0 b0 < (ρ.1 335 0 0 a0 - nI (gm G U q0 a0)) + nI (gm G U q0 b0)
    · rw [if_pos c3]
      have c4 := Int32.lt_iff_toInt_lt.mp c3
      rw [ew] at c4
      have R := relax (a0 := a0) (b0 := b0) (q0 := q0) (d' := dV (sI (sI ρ 335 0 0 b0 ((ρ.1 335 0 0 a0 - nI (gm G U q0 a0)) + nI (gm G U q0 b0))) 336 0 0 b0 (nI q0))) (c' := cV (sI (sI ρ 335 0 0 b0 ((ρ.1 335 0 0 a0 - nI (gm G U q0 a0)) + nI (gm G U q0 b0))) 336 0 0 b0 (nI q0))) D v2 hB hT ha (by omega) q1 q2 hs hd c1 c2 c4 (by rw [dV_s, ew]) (fun v k => dV_o k) cV_s (fun v k => cV_o k)
      refine ih (b0 + 1) m _ 1 (by omega) (by omega) hF.dc R.1 R.2 (fun z => absurd z (by decide)) ?_
      rw [dV_o (fun z => c1 z.symm)]
      exact hd
    · rw [if_neg c3]
      refine skip fun q r1 r2 r3 _ _ z => ?_
      rw [uq q r1 r2 r3]
      have c4 := Int32.le_iff_toInt_le.mp (Int32.not_lt.mp c3)
      rw [ew] at c4
      exact c4
theorem turn146 {N P V F t : Nat} {G : Nat → Nat → Nat} {U : Nat → Bool} {u x4 : Int32} {s : Nat → Nat} {x y : Nat → Int} {l : Int} {go : Int32 → Int32 → Int32 → St → Option (Int32 × St)} {μ : St} (hN : 100 ≤ N) (hG : GnS G P V μ) (hU : MU u U) (M : Mt s F P V (hV μ) V) (D : DU (gm G U) s F P V x y l) : ∀ (e a0 m : Nat) (ρ : St) (fl : Int32), a0 + e = V → e < m → FB μ ρ → BF (gm G U) s F P V y l (dV ρ) (cV ρ) → TU (gm G U) s F P V y l (dV ρ) t a0 0 → CLn (gm G U) s F P V (dV ρ) fl a0 0 → ∃ ρ' fl', fM_betterBy_146 N go m u fl x4 (nI a0) ρ = go u fl' (x4 + 1) ρ' ∧ FB μ ρ' ∧ BF (gm G U) s F P V y l (dV ρ') (cV ρ') ∧ TU (gm G U) s F P V y l (dV ρ') t V 0 ∧ CLn (gm G U) s F P V (dV ρ') fl' V 0 := by
  have v2 := hG.V2
  have p2 := hG.P2
  intro e
  induction e with
  | zero =>
    intro a0 m ρ fl h1 h2 hF hB hT hC
    obtain ⟨m, rfl⟩ : ∃ q, m = q + 1 := ⟨m - 1, by omega⟩
    have : a0 = V := by omega
    subst this
    refine ⟨ρ, fl, ?_, hF, hB, hT, hC⟩
    show (if ρ.1 316 0 0 0 ≤ nI a0 then go u fl (x4 + 1) ρ else _) = _
    rw [(hF.gs hG).V, if_pos (Int32.le_refl _)]
  | succ e ih =>
    intro a0 m ρ fl h1 h2 hF hB hT hC
    obtain ⟨m, rfl⟩ : ∃ q, m = q + 1 := ⟨m - 1, by omega⟩
    have g := hF.gs hG
    have h0 : ρ.1 334 0 0 a0 = hV μ a0 := congrFun hF.h a0
    have e0 : fM_betterBy_146 N go (m + 1) u fl x4 (nI a0) ρ = if hV μ a0 = (-1) then fM_betterBy_146 N go m u fl x4 (nI (a0 + 1)) ρ else if (-1000000) < ρ.1 335 0 0 a0 then fM_betterBy_185 N go (fM_betterBy_146 N go m) N u fl x4 (nI a0) (nI 0) ρ else fM_betterBy_146 N go m u fl x4 (nI (a0 + 1)) ρ := by
      show (if ρ.1 316 0 0 0 ≤ nI a0 then _ else chk (inb (nI a0) 24) <| if (ρ.1 334 0 0 (nI a0).toNatClampNeg) = (-1) then (fM_betterBy_146 N go m) u fl x4 (nI a0 + 1) ρ else if (-1000000) < (ρ.1 335 0 0 (nI a0).toNatClampNeg) then fM_betterBy_185 N go (fM_betterBy_146 N go m) N u fl x4 (nI a0) 0 ρ else (fM_betterBy_146 N go m) u fl x4 (nI a0 + 1) ρ) = _
      rw [g.V, if_neg (nI_ge (by omega) (by omega)), chk_t (inb_n (by omega) (by decide)), nI_clamp (by omega), h0, nI_1]
      rfl
    rw [e0]
    have skip : (∀ b, Rx (gm G U) s F P (dV ρ) a0 b) → ∃ ρ' fl', fM_betterBy_146 N go m u fl x4 (nI (a0 + 1)) ρ = go u fl' (x4 + 1) ρ' ∧ FB μ ρ' ∧ BF (gm G U) s F P V y l (dV ρ') (cV ρ') ∧ TU (gm G U) s F P V y l (dV ρ') t V 0 ∧ CLn (gm G U) s F P V (dV ρ') fl' V 0 := fun r => by
      refine ih (a0 + 1) m ρ fl (by omega) (by omega) hF hB (hT.skip r) (fun z a b c1 c2 c3 => ?_)
      by_cases k : a = a0
      · rw [k]; exact r b
      · exact hC z a b c1 c2 (by omega)
    by_cases c1 : hV μ a0 = -1
    · rw [if_pos c1]
      refine skip fun b q r1 r2 r3 => ?_
      have := M.a q r1 r2 (by omega)
      rw [r3, c1] at this
      exact absurd this (m1_ne' (by omega))
    rw [if_neg c1]
    obtain ⟨q0, q1, q2, q3, q4⟩ := (M.b a0 (by omega) (by omega)).resolve_left c1
    by_cases c2 : (-1000000 : Int32) < ρ.1 335 0 0 a0
    · rw [if_pos c2]
      have c3 := Int32.lt_iff_toInt_lt.mp c2
      obtain ⟨ρ', fl', r1, r2, r3, r4, r5⟩ := relax185 (N := N) (x4 := x4) (go := go) (go2 := fM_betterBy_146 N go m) hG hU M D (by omega) q1 q2 q4 V 0 N ρ fl (by omega) (by omega) hF hB hT hC c3
      rw [r1]
      exact ih (a0 + 1) m ρ' fl' (by omega) (by omega) r2 r3 r4 r5
    · rw [if_neg c2]
      refine skip fun b q r1 r2 r3 r4 => absurd (Int32.lt_iff_toInt_lt.mpr ?_) c2
      exact r4
theorem turns130 {N P V F : Nat} {G : Nat → Nat → Nat} {U : Nat → Bool} {u : Int32} {s : Nat → Nat} {x y : Nat → Int} {l : Int} {μ : St} (hN : 100 ≤ N) (hG : GnS G P V μ) (hU : MU u U) (M : Mt s F P V (hV μ) V) (D : DU (gm G U) s F P V x y l) : ∀ (e t m : Nat) (ρ : St) (fl : Int32), t + e = 24 → e < m → FB μ ρ → BF (gm G U) s F P V y l (dV ρ) (cV ρ) → TS (gm G U) s F P V y l (dV ρ) t → CLn (gm G U) s F P V (dV ρ) fl V 0 → ∃ ρ', fM_betterBy_130 N m u fl (nI t) ρ = fM_betterBy_310 N ρ' ∧ FB μ ρ' ∧ BF (gm G U) s F P V y l (dV ρ') (cV ρ') ∧ ∀ a b, a < V → b < V → Rx (gm G U) s F P (dV ρ') a b := by
  have v2 := hG.V2
  have p2 := hG.P2
  intro e
  induction e with
  | zero =>
    intro t m ρ fl h1 h2 hF hB hT hC
    obtain ⟨m, rfl⟩ : ∃ q, m = q + 1 := ⟨m - 1, by omega⟩
    have : t = 24 := by omega
    subst this
    refine ⟨ρ, ?_, hF, hB, hT.all v2⟩
    show (if (24 : Int32) ≤ nI 24 then fM_betterBy_310 N ρ else _) = _
    exact if_pos (Int32.le_refl _)
  | succ e ih =>
    intro t m ρ fl h1 h2 hF hB hT hC
    obtain ⟨m, rfl⟩ : ∃ q, m = q + 1 := ⟨m - 1, by omega⟩
    have e0 : fM_betterBy_130 N (m + 1) u fl (nI t) ρ = if fl = 0 then fM_betterBy_310 N ρ else fM_betterBy_146 N (fM_betterBy_130 N m) N u 0 (nI t) (nI 0) ρ := by
      show (if (24 : Int32) ≤ nI t then _ else if fl = 0 then fM_betterBy_310 N ρ else fM_betterBy_146 N (fM_betterBy_130 N m) N u 0 (nI t) 0 ρ) = _
      rw [if_neg (show ¬ (24 : Int32) ≤ nI t from nI_ge (a := t) (b := 24) (by omega) (by decide))]
      rfl
    rw [e0]
    by_cases c : fl = 0
    · rw [if_pos c]
      exact ⟨ρ, rfl, hF, hB, fun a b a1 b1 => hC c a b a1 b1 (by omega)⟩
    · rw [if_neg c]
      obtain ⟨ρ', fl', r1, r2, r3, r4, r5⟩ := turn146 (N := N) (x4 := nI t) (go := fM_betterBy_130 N m) hN hG hU M D V 0 N ρ 0 (by omega) (by omega) hF hB hT.go (fun _ a b _ _ z => absurd z (by omega))
      rw [r1, nI_1]
      exact ih (t + 1) m ρ' fl' (by omega) (by omega) r2 r3 r4.fin r5
