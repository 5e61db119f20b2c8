/-! what was paid, what an event does -/
theorem AnsR.st {TC : Nat → List Cl} {tp : Nat → Nat} {σ μ μ' : St} {q : Option Int32} {b : Int32} (h : InvB TC tp σ μ) (ha : AnsR q b μ μ') : StQ (some (q, σ)) (some (b, μ')) := by
  rcases ha with ⟨rfl, rfl, rfl⟩ | ⟨rfl, rfl⟩
  · exact StQ.fail ⟨TC, tp, h.code⟩
  · exact StQ.ok ⟨TC, tp, h.code⟩ (sI_s _ _ _ _ _ _) rfl
theorem payUp_M {N p k : Nat} {μ : St} (hp : p < 20) (hk : k < 936) : ∀ (e i m : Nat), 312 + i + e = k + 1 → e < m → fM_payUpTo_7 N m (nI p) (nI k) (pyS μ p i) (nI (312 + i)) μ = some (pyS μ p (k + 1 - 312)) := by
  intro e
  induction e with
  | zero =>
    intro i m h1 h2
    obtain ⟨m, rfl⟩ : ∃ q, m = q + 1 := ⟨m - 1, by omega⟩
    show (if nI k < nI (312 + i) then some (pyS μ p i) else _) = _
    rw [if_pos (nI_lt (by omega) (by omega)), show k + 1 - 312 = i by omega]
  | succ e ih =>
    intro i m h1 h2
    obtain ⟨m, rfl⟩ : ∃ q, m = q + 1 := ⟨m - 1, by omega⟩
    have ei : (624 : Int32) * nI p + nI (312 + i) - 312 = nI (624 * p + i) := by
      rw [show (624 : Int32) * nI p = nI (624 * p) from (Int32.ofNat_mul 624 p).symm, nI_add, show 624 * p + (312 + i) = 312 + (624 * p + i) by omega]
      exact nI_subl (a := 312) (k := 624 * p + i)
    show (if nI k < nI (312 + i) then _ else chk (inb ((624 : Int32) * nI p + nI (312 + i) - 312) 12480) (nm (pyS μ p i + μ.2 308 0 0 ((624 : Int32) * nI p + nI (312 + i) - 312).toNatClampNeg) fun (y1 : Int64) => fM_payUpTo_7 N m (nI p) (nI k) y1 (nI (312 + i) + 1) μ)) = _
    rw [if_neg (nI_nlt (by omega) (by omega)), ei, chk_t (inb_n (by omega) (by decide)), nI_clamp (by omega), nmx, nI_1]
    exact ih (i + 1) m (by omega) (by omega)
theorem step_paid {N : Nat} {σ μ : St} (hN : 4000 ≤ N) (h : Inv σ μ) (a1 a2 : Int32) : StQ (fX_paid N a1 a2 σ) (fM_paid N a1 a2 μ) := by
  obtain ⟨TC, tp, h0⟩ := h
  by_cases c6 : a2 ≠ 2 ∨ ¬ (0 ≤ a1.toInt ∧ a1.toInt < (μ.1 208 0 0 0).toInt)
  · obtain ⟨q, b, μ', e1, e2, e3⟩ := e_paid (N := N) h0.eq h0.rg (fun p hp => (h0.fd.r p hp).1) (fun p hp => (h0.fd.r p hp).2.1) a1 a2 c6
    rw [e1, e2]
    exact e3.st h0
  · have c2 : a2 = 2 := Classical.byContradiction fun q => c6 (Or.inl q)
    have c1 : 0 ≤ a1.toInt ∧ a1.toInt < (μ.1 208 0 0 0).toInt := Classical.byContradiction fun q => c6 (Or.inr q)
    obtain ⟨ν, hν⟩ : ∃ ν, ν = sI μ 204 0 0 0 0 := ⟨_, rfl⟩
    have h : InvB TC tp σ ν := by rw [hν]; exact h0.code
    have hc : ν.1 204 0 0 0 = 0 := by rw [hν, sI_s]
    have c := h.rg.cns
    obtain ⟨k1, k2, k3, k4⟩ := kD_e (N := N) h
    have hd := c.d
    have hP := c.P.2
    have c1' : ¬ (a1 < 0 ∨ ν.1 208 0 0 0 ≤ a1) := by
      rw [hν, sI_o (by decide), Int32.lt_iff_toInt_lt, Int32.le_iff_toInt_le, Int32.toInt_zero]
      omega
    obtain ⟨p, hp, rfl⟩ := prs_e h.rg c1'
    obtain ⟨v, n, σ1, b1, b2, b3, b4, b5, b6, b7, b8, b9, -⟩ := asOfThe_e hN h
    obtain ⟨σ2, d1, d2, d3, d4, d5, d6⟩ := life_I hN b9 b2 b3 hp k3 k4 b4 b6 b7 b8
    obtain ⟨μ2, m1, m2, m3, m4⟩ := know_I hN d6 k3 (by omega) b3 b5
    obtain ⟨s, B⟩ := both_e d3 m2 m3 hp c.e.2 k3
    obtain ⟨nc, nb, cc, cm, q1, q2, q3, q4, q5⟩ := B.a
    have hI : Inv σ2 μ2 := ⟨TC, tp, m4⟩
    have hc2 : μ2.1 204 0 0 0 = 0 := (m2.at (by decide)).trans hc
    have et : σ2.1 81 v p 0 = (pyS μ2 p (kD ν + 1 - 312)).toInt32 := by
      have : σ2.1 81 v p 0 = sl v p σ2 81 0 := rfl
      rw [this, B.s]
      exact q4.t0
    have hpu : fM_payUpTo N (nI p) (nI (kD ν)) μ2 = some (pyS μ2 p (kD ν + 1 - 312)) := payUp_M (N := N) (by omega) (by omega) (kD ν + 1 - 312) 0 N (by omega) (by omega)
    unfold fX_paid fM_paid fM_toInt
    rw [nmx, ← hν, reqP_e, mIsPerson_e, bn1_e, btR_i, show σ.1 52 0 0 0 = ν.1 208 0 0 0 from h.eq.at (f := 52) 0 (by decide), if_neg c1', if_neg c1', c2, if_neg (show ¬ (1 : Int32) = 0 by decide), if_neg (show ¬ (2 : Int32) = 0 by decide), if_neg (show ¬ (2 : Int32) = 1 by decide), if_pos (rfl : (2 : Int32) = 2), if_neg (show ¬ (2 : Int32) < 0 by decide), if_pos (show (2 : Int32) ≤ 2 by decide), if_pos (show (2 : Int32) ≤ 2 by decide), k2 ν ⟨fun _ _ _ _ _ _ => rfl, fun _ _ _ _ _ _ _ => rfl⟩, bn1_e, b1, bnd_e, d1, bnd_e, m1, bn1_e, k2 μ2 m2.c, bn1_e, hpu, bn1_e, bn1_e]
    exact StQ.ok hI hc2 et
theorem sDo_01 (E : Env) (d : Nat) (j : Nat) : ∀ (l : List Ev) (s : Lfe) (g : Nat → Int32), (g j = 0 ∨ g j = 1) → (sDo E d l s g j = 0 ∨ sDo E d l s g j = 1)
  | [], _, _, h => h
  | e :: l, s, g, h => sDo_01 E d j l _ _ (by
    show (if j = e.1 then (sMeet E d e s).1 else g j) = 0 ∨ (if j = e.1 then (sMeet E d e s).1 else g j) = 1
    by_cases c : j = e.1
    · rw [if_pos c]
      exact sMeet_01 E d e s
    · rw [if_neg c]
      exact h)
theorem LDo_01 (E : Env) (ev : Nat → List Ev) (s0 : Lfe) (j : Nat) : ∀ n, LDo E ev s0 (fun _ => 0) n j = 0 ∨ LDo E ev s0 (fun _ => 0) n j = 1
  | 0 => Or.inl rfl
  | n + 1 => sDo_01 E _ j _ _ _ (LDo_01 E ev s0 j n)
theorem step_told {N : Nat} {σ μ : St} (hN : 4000 ≤ N) (h : Inv σ μ) (a1 a2 : Int32) : StQ (fX_told N a1 a2 σ) (fM_told N a1 a2 μ) := by
  obtain ⟨TC, tp, h0⟩ := h
  by_cases c6 : a2 ≠ 6 ∨ ¬ (0 ≤ a1.toInt ∧ a1.toInt < (μ.1 218 0 0 0).toInt)
  · obtain ⟨q, b, μ', e1, e2, e3⟩ := e_told (N := N) h0.eq h0.rg a1 a2 c6
    rw [e1, e2]
    exact e3.st h0
  · have c2 : a2 = 6 := Classical.byContradiction fun q => c6 (Or.inl q)
    have c1 : 0 ≤ a1.toInt ∧ a1.toInt < (μ.1 218 0 0 0).toInt := Classical.byContradiction fun q => c6 (Or.inr q)
    obtain ⟨ν, hν⟩ : ∃ ν, ν = sI μ 204 0 0 0 0 := ⟨_, rfl⟩
    have h : InvB TC tp σ ν := by rw [hν]; exact h0.code
    have hc : ν.1 204 0 0 0 = 0 := by rw [hν, sI_s]
    have c := h.rg.cns
    obtain ⟨k1, k2, k3, k4⟩ := kD_e (N := N) h
    have hd := c.d
    have hP := c.P.2
    have hE := c.e
    obtain ⟨e, he, rfl⟩ : ∃ e, e < cnM ν ∧ a1 = nI e := by
      obtain ⟨j, rfl, j2, -⟩ := argN c1.1
      have hm : μ.1 218 0 0 0 = nI (cnM ν) := by
        rw [← hE.1, hν]
        exact (sI_o (by decide)).symm
      rw [hm, j2, nI_toInt (n := cnM ν) (by omega)] at c1
      exact ⟨j, by omega, rfl⟩
    have e43 : σ.1 43 0 0 0 = nI (cnM ν) := (h.eq.at (f := 43) 0 (by decide)).trans hE.1
    have hpe := h.ev.p e he
    obtain ⟨v, n, σ1, b1, b2, b3, b4, b5, b6, b7, b8, b9, b10⟩ := asOfThe_e hN h
    obtain ⟨σ2, d1, d2, d3, d4, d5, d6⟩ := life_I hN b9 b2 b3 hpe k3 k4 b4 b6 b7 b8
    obtain ⟨μ2, m1, m2, m3, m4⟩ := know_I hN d6 k3 (by omega) b3 b5
    obtain ⟨μ3, m1', m2', m3', m4'⟩ := know_I hN h k3 (by omega) b3 b5
    have e23 : μ3 = μ2 := Option.some.inj (m1'.symm.trans m1)
    rw [e23] at m4'
    obtain ⟨s, B⟩ := both_e d3 m2 m3 hpe c.e.2 k3
    have hc2 : μ2.1 204 0 0 0 = 0 := (m2.at (by decide)).trans hc
    have ekd : σ.1 37 0 0 e = kdM ν e := h.eq.at (f := 37) e (by decide)
    unfold fX_told fM_told fX_doesSomething
    rw [nmx, ← hν, reqE_e, e43, btR_i, if_neg (show ¬ (nI e < 0 ∨ nI (cnM ν) ≤ nI e) from fun z => z.elim (nI_pos (by omega)) (nI_ge he (by omega))), c2, if_neg (show ¬ (6 : Int32) = 0 by decide), if_neg (show ¬ (6 : Int32) = 1 by decide), if_neg (show ¬ (6 : Int32) = 2 by decide), if_neg (show ¬ (6 : Int32) = 3 by decide), if_neg (show ¬ (6 : Int32) = 4 by decide), if_neg (show ¬ (6 : Int32) = 5 by decide), if_pos (rfl : (6 : Int32) = 6), if_neg (nI_pos (by omega)), show ν.1 218 0 0 0 = nI (cnM ν) from hE.1, if_pos (nI_lt he (by omega)), if_neg (show ¬ (6 : Int32) = 0 by decide), if_neg (show ¬ (6 : Int32) = 1 by decide), if_neg (show ¬ (6 : Int32) = 2 by decide), if_neg (show ¬ (6 : Int32) = 3 by decide), if_neg (show ¬ (6 : Int32) = 4 by decide), if_neg (show ¬ (6 : Int32) = 5 by decide), if_pos (rfl : (6 : Int32) = 6), k2 ν ⟨fun _ _ _ _ _ _ => rfl, fun _ _ _ _ _ _ _ => rfl⟩, bn1_e, m1, bn1_e, chk_t (inb_n (by omega) (by decide)), chk_t (inb_n (by omega) (by decide)), nI_clamp (by omega), ekd]
    by_cases c8 : kdM ν e = 8
    · have hdone : μ2.1 277 0 0 e = if kwM ν (kD ν) e = true then 1 else 0 := by
        have sm : SmR (nP ν) (kD ν) ν μ2 := m2.sm
        have := m3.d (fun _ _ _ => 0) e (by rw [sm.e.cn]; exact he) (by rw [sm.e.pe]; exact hpe)
        rw [sm.gD hpe] at this
        rw [show μ2.1 277 0 0 e = _ from this]
        unfold gD
        rw [if_pos c8]
        obtain ⟨-, ⟨t, t1, t2, t3⟩, -⟩ := h.ev.e e he
        have t3' : t ≤ tdN ν := t3
        have : prK ν (kD ν) (312 + (kD ν + 1 - 312)) 0 e = kwM ν (kD ν) e := by
          unfold prK
          cases z : kwM ν (kD ν) e with
          | false => rfl
          | true =>
            have : t ≤ kD ν := by
              unfold kwM knw at z
              simp only [Bool.and_eq_true, decide_eq_true_eq] at z
              have := z.1
              rw [t1] at this
              exact (nI_leI (by omega) (by omega)).mp this
            rw [decide_eq_true (show dyM ν e < 312 + (kD ν + 1 - 312) by omega)]
            rfl
        rw [this]
      have hkn : fEvents_isKnown N (nI e) (nI (kD ν)) σ = some (if kwM ν (kD ν) e = true then 1 else 0) := by
        rw [isKn_e (by omega)]
        unfold kwM
        rw [h.eq.at (f := 41) (g := 233) e (by decide), h.eq.at (f := 42) (g := 234) e (by decide)]
      rw [if_pos c8, k1, bn1_e, hkn, bn1_e, bnd_e, hdone]
      by_cases z : kwM ν (kD ν) e = true
      · rw [if_pos z, if_neg (by decide), if_neg (by decide)]
        exact StQ.ok ⟨TC, tp, m4'⟩ hc2 rfl
      · rw [if_neg z, if_pos (by decide), if_pos rfl]
        exact StQ.ok ⟨TC, tp, m4'⟩ hc2 rfl
    · have hs38 : σ1.1 38 0 0 e = nI (peM ν e) := by
        rw [b10.1 _ _ _ _ (fun q => by have := q.1; revert this; decide), h.eq.at (f := 38) (g := 230) e (by decide)]
        exact (h.rg.k (g := 230) (hi := 19) (by decide) e).1
      have hdo := B.d e he rfl c8
      have h01 : σ2.1 144 v 0 e = 0 ∨ σ2.1 144 v 0 e = 1 := by
        obtain ⟨s0, l1, l2, l3⟩ := d3
        rw [l2 e he rfl]
        exact LDo_01 _ _ _ _ _
      rw [if_neg c8, b1, bnd_e, hs38, d1, bnd_e, bnd_e, show μ2.1 277 0 0 e = σ2.1 144 v 0 e from hdo.symm]
      rcases h01 with z | z
      · rw [z, if_pos (by decide), if_pos rfl]
        exact StQ.ok ⟨TC, tp, m4⟩ hc2 rfl
      · rw [z, if_neg (by decide), if_neg (by decide)]
        exact StQ.ok ⟨TC, tp, m4⟩ hc2 rfl
