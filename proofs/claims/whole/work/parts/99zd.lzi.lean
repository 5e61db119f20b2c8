/-! stamps asked of both -/
theorem InvB.sc {TC : Nat → List Cl} {tp : Nat → Nat} {σ μ μ' : St} (h : InvB TC tp σ μ) (hi : ∀ f a b i, ¬ ((262 ≤ f ∧ f ≤ 272) ∧ f ≠ 266) → f ≠ 204 → μ'.1 f a b i = μ.1 f a b i) (hj : ∀ f a b i, f ≠ 267 → μ'.2 f a b i = μ.2 f a b i) : InvB TC tp σ μ' := by
  refine h.mr ⟨fun f a b i q q2 => hi f a b i (by omega) q2, fun f a b i q _ _ => hj f a b i q⟩ (h.rn.mv (fun k => SmA.sr h.rg.cns.P.2 (fun f a b i q => ?_)) (fun f i q => hi f 0 0 i (by omega) (by omega)) (fun f i q => hj f 0 0 i (by omega)))
  have : ∀ S : List Nat, (S.all (fun f => decide (¬ ((262 ≤ f ∧ f ≤ 272) ∧ f ≠ 266) ∧ f ≠ 204))) = true → f ∈ S → ¬ ((262 ≤ f ∧ f ≤ 272) ∧ f ≠ 266) ∧ f ≠ 204 := fun S hS hf => of_decide_eq_true (List.all_eq_true.mp hS f hf)
  have : ¬ ((262 ≤ f ∧ f ≤ 272) ∧ f ≠ 266) ∧ f ≠ 204 := by
    rcases q with q | q | q | q | q
    · exact this LO (by decide) q
    · exact this LB (by decide) q
    · exact this LT (by decide) q
    · omega
    · omega
  exact hi f a b i this.1 this.2
def stB (a b : Int32) : Int32 := if a = -1 then b else if b = -1 then a else if b = a then a else 10 + a
theorem rowAt_X {N p w k : Nat} {σ μ : St} (hN : 200 ≤ N) (hE : Eq1 σ μ) (hR : Rng μ) (hw : w < 156) : fBooks_stampsInRow N (nI p) (nI w) (nI k) σ = some (inRw μ p k w) := by
  have c := hR.cns
  have hr := c.r
  unfold fBooks_stampsInRow fBooks_latestRow inRw
  rw [div52 hw, mod52 hw, show σ.1 21 0 0 0 = nI (rwN μ) from (hE.at (f := 21) 0 (by decide)).trans hr.1, nmx, latest_e hE hR (rwN μ) N hr.2 (by omega), bn1_e, nmx]
  rw [show lastB (rowP μ p (w / 52) k) (rwN μ) = rowL μ p (w / 52) k from rfl]
  cases e : rowL μ p (w / 52) k with
  | none => rfl
  | some r =>
    have hl := (lastB_lt (rwN μ) r e).1
    show (if nI r = -1 then _ else chk (inb (nI r) 60) (if nI (w % 52) < σ.1 19 0 0 (nI r).toNatClampNeg then chk (inb (nI r * 52 + nI (w % 52)) 3120) (some (σ.1 16 0 0 (nI r * 52 + nI (w % 52)).toNatClampNeg)) else fBooks_stampsInRow_36 N σ)) = some (if nI (w % 52) < μ.1 222 0 0 r then μ.1 224 0 0 (52 * r + w % 52) else -1)
    rw [if_neg (m1_ne (by omega)), idx52 (by omega) (Nat.mod_lt _ (by decide)), chk_t (inb_n (by omega) (by decide)), chk_t (inb_n (by have := Nat.mod_lt w (show 0 < 52 by decide); omega) (by decide)), nI_clamp (n := r) (by omega), nI_clamp (n := 52 * r + w % 52) (by have := Nat.mod_lt w (show 0 < 52 by decide); omega), hE.at (f := 19) (g := 222) r (by decide), hE.at (f := 16) (g := 224) _ (by decide)]
    by_cases z : nI (w % 52) < μ.1 222 0 0 r
    · rw [if_pos z, if_pos z]
    · rw [if_neg z, if_neg z]
      rfl
theorem retAt_loop {N p w k : Nat} {σ μ : St} (hE : Eq1 σ μ) : ∀ (n m : Nat), n ≤ 100 → n < m → fBooks_daysReturned_8 N m (nI p) (nI w) (nI k) (nI n - 1) σ = some (retV μ (lastB (retP μ p w k) n)) := by
  intro n
  induction n with
  | zero =>
    intro m h1 h2
    obtain ⟨m, rfl⟩ : ∃ q, m = q + 1 := ⟨m - 1, by omega⟩
    rfl
  | succ n ih =>
    intro m h1 h2
    obtain ⟨m, rfl⟩ : ∃ q, m = q + 1 := ⟨m - 1, by omega⟩
    rw [nI_sub1]
    show (if nI n < 0 then _ else chk (inb (nI n) 100) (if σ.1 22 0 0 (nI n).toNatClampNeg = nI p then (if σ.1 23 0 0 (nI n).toNatClampNeg = nI w then (if nI k < σ.1 25 0 0 (nI n).toNatClampNeg then fBooks_daysReturned_8 N m (nI p) (nI w) (nI k) (nI n + (-1)) σ else some (σ.1 24 0 0 (nI n).toNatClampNeg)) else fBooks_daysReturned_8 N m (nI p) (nI w) (nI k) (nI n + (-1)) σ) else fBooks_daysReturned_8 N m (nI p) (nI w) (nI k) (nI n + (-1)) σ)) = some (retV μ (if retP μ p w k n = true then some n else lastB (retP μ p w k) n))
    rw [if_neg (nI_pos (by omega)), chk_t (inb_n (by omega) (by decide)), nI_clamp (by omega), ← Int32.sub_eq_add_neg, ih m (by omega) (by omega), hE.at (g := 225) n (by decide), hE.at (g := 226) n (by decide), hE.at (g := 228) n (by decide), hE.at (g := 227) n (by decide)]
    unfold retP
    by_cases c1 : μ.1 225 0 0 n = nI p
    · rw [if_pos c1]
      by_cases c2 : μ.1 226 0 0 n = nI w
      · rw [if_pos c2]
        by_cases c3 : nI k < μ.1 228 0 0 n
        · rw [if_pos c3, if_neg (by simp [c1, c2]; exact c3)]
        · rw [if_neg c3, if_pos (by simp [c1, c2]; exact Int32.not_lt.mp c3)]
          rfl
      · rw [if_neg c2, if_neg (by simp [c2])]
    · rw [if_neg c1, if_neg (by simp [c1])]
theorem retAt_X {N p w k : Nat} {σ μ : St} (hN : 200 ≤ N) (hE : Eq1 σ μ) (hR : Rng μ) : fBooks_daysReturned N (nI p) (nI w) (nI k) σ = some (rtn μ p k w) := by
  have c := hR.cns
  have hr := c.q
  unfold fBooks_daysReturned rtn
  rw [show σ.1 26 0 0 0 = nI (rtN μ) from (hE.at (f := 26) 0 (by decide)).trans hr.1, nmx, retAt_loop hE (rtN μ) N hr.2 (by omega)]
  rfl
theorem step_stamps {N : Nat} {σ μ : St} (hN : 4000 ≤ N) (h : Inv σ μ) (a1 a2 : Int32) : ∃ q b μ', fX_stamps N a1 a2 σ = some q ∧ fM_stamps N a1 a2 μ = some (b, μ') ∧ μ'.1 204 0 0 0 = (if q.isSome then 0 else 1) ∧ (∀ r, q = some r → r = b) ∧ Inv σ μ' := by
  obtain ⟨TC, tp, h0⟩ := h
  obtain ⟨ν, hν⟩ : ∃ ν, ν = sI μ 204 0 0 0 0 := ⟨_, rfl⟩
  have h : InvB TC tp σ ν := by rw [hν]; exact h0.code
  have hc : ν.1 204 0 0 0 = 0 := by rw [hν, sI_s]
  have c := h.rg.cns
  obtain ⟨k1, k2, k3, k4⟩ := kD_e (N := N) h
  have hd := c.d
  have hP := c.P.2
  have k2' := k2 ν ⟨fun _ _ _ _ _ _ => rfl, fun _ _ _ _ _ _ _ => rfl⟩
  have fl : ∀ x, x = some none → ∃ q b μ', x = some q ∧ fM_stamps_24 N ν = some (b, μ') ∧ μ'.1 204 0 0 0 = (if q.isSome then 0 else 1) ∧ (∀ r, q = some r → r = b) ∧ Inv σ μ' := fun x hx => ⟨none, 0, sI ν 204 0 0 0 1, hx, rfl, sI_s _ _ _ _ _ _, fun r q => absurd q (by simp), TC, tp, h.code⟩
  unfold fX_stamps fM_stamps
  rw [nmx, ← hν, reqP_e, mIsPerson_e, bn1_e, btO_i, show σ.1 52 0 0 0 = ν.1 208 0 0 0 from h.eq.at (f := 52) 0 (by decide)]
  by_cases c1 : a1 < 0 ∨ ν.1 208 0 0 0 ≤ a1
  · rw [if_pos c1, if_pos c1, if_pos rfl]
    exact fl _ rfl
  · rw [if_neg c1, if_neg c1, if_neg (by decide), reqE_e, btO_i]
    obtain ⟨p, hp, rfl⟩ := prs_e h.rg c1
    by_cases c2 : a2 < 0
    · rw [if_pos (Or.inl c2), if_pos c2]
      exact fl _ rfl
    · rw [if_neg c2]
      by_cases c3 : a2 < 156
      · obtain ⟨w, hw, rfl⟩ : ∃ w, w < 156 ∧ a2 = nI w := by
          rcases arg32 a2 with q | ⟨w, w1, rfl⟩
          · exact absurd q c2
          · exact ⟨w, (nI_ltI (b := 156) (by omega) (by decide)).mp c3, rfl⟩
        have xans : (bn1 (fX_dayKnown N σ) fun r1 => bn1 (fBooks_stampsInRow N (nI p) (nI w) r1 σ) fun r2 => bn1 (fBooks_daysReturned N (nI p) (nI w) r1 σ) fun r3 => if r2 = (-1) then some (some r3) else if r3 = (-1) then fX_stamps_63 N r2 σ else if r3 = r2 then fX_stamps_63 N r2 σ else some (some (10 + r2))) = some (some (stB (inRw ν p (kD ν) w) (rtn ν p (kD ν) w))) := by
          rw [k1, bn1_e, rowAt_X (by omega) h.eq h.rg hw, bn1_e, retAt_X (by omega) h.eq h.rg, bn1_e]
          unfold fX_stamps_63 stB
          (repeat' split) <;> rfl
        have man : ∀ μ2, (∀ f i, f < 260 → μ2.1 f 0 0 i = ν.1 f 0 0 i) → BkM (kD ν) ν μ2 → fM_stamps_60 N (nI p) (nI w) μ2 = some (stB (inRw ν p (kD ν) w) (rtn ν p (kD ν) w), μ2) := by
          intro μ2 hx hB
          have ei : (156 : Int32) * nI p + nI w = nI (156 * p + w) := by
            rw [show (156 : Int32) * nI p = nI (156 * p) from (Int32.ofNat_mul 156 p).symm, nI_add]
          unfold fM_stamps_60
          rw [(stAt_e (N := N) h.rg hx hB (show p < 20 by omega) hw).1, bn1_e, ei, chk_t (inb_n (by omega) (by decide)), nI_clamp (by omega), nmx, show μ2.1 261 0 0 (156 * p + w) = _ from hB.2 p w (by omega) hw]
          unfold stB
          (repeat' split) <;> rfl
        rw [if_neg (show ¬ (nI w < 0 ∨ 156 ≤ nI w) from fun q => q.elim c2 (fun q => Int32.not_lt.mpr q c3)), if_pos c3, xans]
        have new : ∃ μ', fM_stamps_47 N (nI p) (nI w) ν = some (stB (inRw ν p (kD ν) w) (rtn ν p (kD ν) w), μ') ∧ InvB TC tp σ μ' ∧ μ'.1 204 0 0 0 = 0 := by
          obtain ⟨μ1, t1, t2, t3⟩ := tellBooks_e (N := N) (k := kD ν) (by omega) h.rg
          have hx : RnX ν (sI μ1 273 0 0 0 0) := (t2.rn (fun f q => by simp [bkM] at q; omega)).tr (RnX.s (by decide))
          refine ⟨sI μ1 273 0 0 0 0, ?_, h.mr hx.c (fun q => absurd (sI_s _ _ _ _ _ _) q), (hx.at (by decide)).trans hc⟩
          unfold fM_stamps_47
          rw [k2', bn1_e, t1, bn1_e, nmx]
          exact man _ (fun f i q => (sI_o (by omega)).trans (t2.bk (by omega))) ⟨fun p y hp hy => (sI_o (by decide)).trans (t3.1 p y hp hy), fun p w hp hw => (sI_o (by decide)).trans (t3.2 p w hp hw)⟩
        have fin : ∀ μ', InvB TC tp σ μ' ∧ μ'.1 204 0 0 0 = 0 → ∀ r : Int32, ∃ q b μ'', (some (some r) : Option (Option Int32)) = some q ∧ (some (r, μ') : Option (Int32 × St)) = some (b, μ'') ∧ μ''.1 204 0 0 0 = (if q.isSome then 0 else 1) ∧ (∀ r, q = some r → r = b) ∧ Inv σ μ'' := fun μ' hm r => ⟨some r, r, μ', rfl, rfl, hm.2, fun r q => (Option.some.inj q).symm, TC, tp, hm.1⟩
        by_cases c5 : ν.1 273 0 0 0 = 0
        · obtain ⟨μ', n1, n2⟩ := new
          rw [if_pos c5, n1]
          exact fin μ' n2 _
        · rw [if_neg c5, k2', bn1_e]
          by_cases c6 : ν.1 274 0 0 0 = nI (kD ν)
          · obtain ⟨k', n', b1, b2, b3, b4, b5⟩ := h.rn c5
            have ek : k' = kD ν := (nI_eq (by omega) (by omega)).mp (b1.symm.trans c6)
            rw [ek] at b5
            rw [if_pos c6, man ν (fun _ _ _ => rfl) b5.b]
            exact fin ν ⟨h, hc⟩ _
          · obtain ⟨μ', n1, n2⟩ := new
            rw [if_neg c6, n1]
            exact fin μ' n2 _
      · rw [if_neg c3, if_pos (Or.inr (Int32.not_lt.mp c3))]
        exact fl _ rfl
