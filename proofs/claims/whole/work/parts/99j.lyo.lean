/-! kind and pay of a day, in the reference -/
theorem limJ (x : Int64) : (if 0 < (if x < 9999 then x else 9999) then (if x < 9999 then x else 9999) else 0) = (lim x).toInt64 := by
  obtain ⟨n, h1, h2, h3, h4⟩ := lim_n x
  by_cases c : 0 < (if x < 9999 then x else 9999)
  · rw [if_pos c, h2]
    exact (h4 c).2
  · rw [if_neg c, h2]
    have : n = 0 := by
      rcases Nat.eq_zero_or_pos n with z | z
      · exact z
      · exact absurd (h3.mpr z) c
    rw [this]
    rfl
theorem par_M {N n p d k : Nat} {E : Env} {fr to : Nat → Int32} {μ : St} (h : Cx N n p d E fr to μ) (hk : k < 8) : fM_param N (nI k) μ = some ((E.sh d).par k) := by
  unfold fM_param
  rw [chk_t (inb_n hk (by decide)), nI_clamp (by omega)]
  exact congrArg some (h.h.2.2.2.1 k hk)
theorem kindC_5 {E : Env} {d : Nat} {s : Lfe} (c1 : s 89 0 ≤ nI (d % 6)) (c2 : s 90 0 < nI d) (c3 : (E.sh d).par 0 ≤ s 79 (rw_ s + 2)) (c4 : s 79 (rw_ s + 1) ≤ s 79 (rw_ s + 3)) (c5 : (E.sh d).par 5 ≤ s 79 (rw_ s + 4)) : kindC E d s = 5 := by
  unfold kindC
  rw [if_pos c1, if_pos c2, if_pos c3, if_pos c4, if_pos c5]
theorem dayK_o {E : Env} {d : Nat} {s : Lfe} {k : Int32} (ho : ¬ s 85 0 = 0) (hk : kindC E d s = k) : dayK E d s = if isPd k = true then (if k = 5 ∧ payD E d (vS E d s) k = 0 then (0, 0, -1) else (k, payD E d (vS E d s) k, tI ((E.sh d).last (payW k)))) else (k, 0, -1) := by
  unfold dayK
  rw [if_neg ho, hk]
theorem kindOf_M {N n p d c nc nb : Nat} {E : Env} {fr to : Nat → Int32} {μ : St} {s : Lfe} {cm : Nat → Nat} (hN : 1000 ≤ N) (h : Cx N n p d E fr to μ) (a1 : RfP p μ s) (a2 : RfC p μ s c nc cm) (a3 : RfB p d μ s nb) (ho : ¬ s 85 0 = 0) (vm : VM N μ (vS E d s)) : ∃ μ', fM_kindOf N (nI p) (nI (cm (c - 1))) μ = some ((dayK E d s).1, μ') ∧ Sk 267 μ μ' ∧ ((dayK E d s).1 = 5 → (E.sh d).last 3 ≠ none) := by
  have hp := h.p
  have hd := h.d2
  obtain ⟨c0, e1, e2, e3⟩ := a2.c0 ho
  obtain ⟨-, -, -, z0, z1, z2, z3, z4, z5, -⟩ := a2.cl (c - 1) (by omega)
  rw [← e1] at z1 z2 z3 z4
  have t28 : s 89 0 ≤ nI (d % 6) → ∃ μ', fM_kindOf_28 N (nI p) (nI (cm (c - 1))) μ = some ((dayK E d s).1, μ') ∧ Sk 267 μ μ' ∧ ((dayK E d s).1 = 5 → (E.sh d).last 3 ≠ none) := by
    intro b1
    unfold fM_kindOf_28
    rw [barred_M (by omega) a3 hd h.n, bn1_e]
    by_cases b2 : s 90 0 < nI d
    · rw [if_pos b2, if_pos rfl, chk_t (inb_n (by omega) (by decide)), nI_clamp (by omega), show fM_param N 0 μ = _ from par_M (k := 0) h (by decide), bn1_e, show μ.1 292 0 0 (cm (c - 1)) = _ from z2]
      by_cases b3 : (E.sh d).par 0 ≤ s 79 (rw_ s + 2)
      · rw [if_pos b3, show μ.1 291 0 0 (cm (c - 1)) = _ from z1, show μ.1 293 0 0 (cm (c - 1)) = _ from z3]
        by_cases b4 : s 79 (rw_ s + 1) ≤ s 79 (rw_ s + 3)
        · rw [if_pos b4, show fM_param N 5 μ = _ from par_M (k := 5) h (by decide), bn1_e, show μ.1 294 0 0 (cm (c - 1)) = _ from z4]
          by_cases b5 : (E.sh d).par 5 ≤ s 79 (rw_ s + 4)
          · have ek := kindC_5 b1 b2 b3 b4 b5
            have ed := dayK_o ho ek
            rw [if_pos (show isPd 5 = true by decide)] at ed
            have ep : payD E d (vS E d s) 5 = (match (E.sh d).last 3 with | none => 0 | some x => lim (cv (vS E d s) x.2)) := rfl
            rw [if_pos b5, nmx]
            rcases lawC_e h.sh h.h (show 3 < 7 by decide) with ⟨a, b⟩ | ⟨t, cl, i, a, d0, d1, d2, d3, d4, d5⟩
            · rw [show μ.1 264 0 0 3 = -1 from b, if_pos rfl]
              rw [a] at ep
              rw [if_pos ⟨rfl, ep⟩] at ed
              rw [ed]
              exact ⟨μ, rfl, Sk.rfl', fun q => absurd q (by decide)⟩
            · have hl := h.l
              obtain ⟨k1, k2⟩ := (h.t t d0).2.2 i cl d3
              obtain ⟨μ1, t1, t2⟩ := told0_e (N := N) (t := t) (i := i) (vs := vS E d s) (c := cl) (μ := μ) hN d1 d2 k1 k2 (by omega) vm
              rw [a] at ep
              dsimp only at ep
              rw [show μ.1 264 0 0 3 = _ from d4, if_neg (m1_ne (by omega)), t1, bnd_e]
              by_cases b6 : lg_cmp (cv (vS E d s) cl) 0 ≤ 0
              · rw [if_pos ⟨rfl, ep.trans ((lim0 _).mpr b6)⟩] at ed
                rw [if_pos b6, ed]
                exact ⟨μ1, rfl, t2, fun q => absurd q (by decide)⟩
              · rw [if_neg (fun q => b6 ((lim0 _).mp (ep.symm.trans q.2)))] at ed
                rw [if_neg b6, ed]
                exact ⟨μ1, rfl, t2, fun _ => by rw [a]; exact fun q => by cases q⟩
          · have ek : kindC E d s = 4 := by
              unfold kindC
              rw [if_pos b1, if_pos b2, if_pos b3, if_pos b4, if_neg b5]
            have ed := dayK_o ho ek
            rw [if_pos (show isPd 4 = true by decide), if_neg (fun q => absurd q.1 (by decide))] at ed
            rw [if_neg b5, ed]
            exact ⟨μ, rfl, Sk.rfl', fun q => absurd (show (4 : Int32) = 5 from q) (by decide)⟩
        · have ek : kindC E d s = 3 := by
            unfold kindC
            rw [if_pos b1, if_pos b2, if_pos b3, if_neg b4]
          have ed := dayK_o ho ek
          rw [if_pos (show isPd 3 = true by decide), if_neg (fun q => absurd q.1 (by decide))] at ed
          rw [if_neg b4, ed]
          exact ⟨μ, rfl, Sk.rfl', fun q => absurd (show (3 : Int32) = 5 from q) (by decide)⟩
      · have ek : kindC E d s = 2 := by
          unfold kindC
          rw [if_pos b1, if_pos b2, if_neg b3]
        have ed := dayK_o ho ek
        rw [if_neg (show ¬ isPd 2 = true by decide)] at ed
        rw [if_neg b3, ed]
        exact ⟨μ, rfl, Sk.rfl', fun q => absurd q (by decide)⟩
    · have ek : kindC E d s = 1 := by
        unfold kindC
        rw [if_pos b1, if_neg b2]
      have ed := dayK_o ho ek
      rw [if_neg (show ¬ isPd 1 = true by decide)] at ed
      rw [if_neg b2, if_neg (by decide), ed]
      exact ⟨μ, rfl, Sk.rfl', fun q => absurd q (by decide)⟩
  unfold fM_kindOf
  rw [chk_t (inb_n hp (by decide)), nI_clamp (n := p) (by omega), show μ.1 279 0 0 p = _ from a1.sh, show μ.1 269 0 0 0 = nI d from h.n, mod6 hd]
  by_cases b0 : s 89 0 ≤ 0
  · rw [if_pos b0]
    refine t28 (Int32.le_trans b0 ?_)
    exact nI_le (a := 0) (Nat.zero_le _) (by omega)
  · rw [if_neg b0]
    by_cases b1 : s 89 0 ≤ nI (d % 6)
    · rw [if_pos b1]
      exact t28 b1
    · have ek : kindC E d s = 6 := by
        unfold kindC
        rw [if_neg b1]
      have ed := dayK_o ho ek
      rw [if_neg (show ¬ isPd 6 = true by decide)] at ed
      rw [if_neg b1, ed]
      exact ⟨μ, rfl, Sk.rfl', fun q => absurd q (by decide)⟩
theorem pay_M {N n p d y : Nat} {E : Env} {fr to : Nat → Int32} {μ : St} {vs : Nat → Int64} {k : Int32} (hN : 1000 ≤ N) (h : Cx N n p d E fr to μ) (vm : VM N μ vs) (hy : y < 12480) (hk : k = 3 ∨ k = 4 ∨ k = 5) (h5 : k = 5 → (E.sh d).last 3 ≠ none) : ∃ μ', fM_pay N (nI y) k μ = some μ' ∧ (∀ f a b i, ¬ (f = 305 ∧ a = 0 ∧ b = 0 ∧ i = y) → μ'.1 f a b i = μ.1 f a b i) ∧ (∀ f a b i, f ≠ 267 → ¬ (f = 308 ∧ a = 0 ∧ b = 0 ∧ i = y) → μ'.2 f a b i = μ.2 f a b i) ∧ μ'.1 305 0 0 y = tI ((E.sh d).last (payW k)) ∧ μ'.2 308 0 0 y = (payD E d vs k).toInt64 := by
  have hl := h.l
  have p44 : ∀ (x3 tx : Int32) (x : Int64) (μ1 : St), Sk 267 μ μ1 → (if x3 = -1 then (-1 : Int32) else x3 / 24) = tx → ∃ μ', fM_pay_44 N (nI y) x3 (nI y) 0 9999 x μ1 = some μ' ∧ (∀ f a b i, ¬ (f = 305 ∧ a = 0 ∧ b = 0 ∧ i = y) → μ'.1 f a b i = μ.1 f a b i) ∧ (∀ f a b i, f ≠ 267 → ¬ (f = 308 ∧ a = 0 ∧ b = 0 ∧ i = y) → μ'.2 f a b i = μ.2 f a b i) ∧ μ'.1 305 0 0 y = tx ∧ μ'.2 308 0 0 y = (lim x).toInt64 := by
    intro x3 tx x μ1 hs hx
    refine ⟨sI (sJ μ1 308 0 0 y (lim x).toInt64) 305 0 0 y tx, ?_, fun f a b i q => ?_, fun f a b i q1 q2 => ?_, sI_s .., ?_⟩
    · unfold fM_pay_44 fM_pay_69
      rw [minJ, bn1_e, maxJ, bn1_e, limJ, chk_t (inb_n hy (by decide)), nmx]
      by_cases c : x3 = -1
      · rw [if_pos c] at hx
        rw [if_pos c, chk_t (inb_n hy (by decide)), nmx, hx, nI_clamp (n := y) (by omega)]
      · rw [if_neg c] at hx
        rw [if_neg c, chk_t (inb_n hy (by decide)), nmx, hx, nI_clamp (n := y) (by omega)]
    · rw [sI_1, if_neg q, sJ_1, hs.1]
    · show (sJ μ1 308 0 0 y (lim x).toInt64).2 f a b i = _
      rw [sJ_2, if_neg q2]
      exact hs.2 f a b i q1
    · show (sJ μ1 308 0 0 y (lim x).toInt64).2 308 0 0 y = _
      rw [sJ_2, if_pos ⟨rfl, rfl, rfl, rfl⟩]
  have p14 : ∀ w : Nat, w < 7 → 2 ≤ w → payW k = w → (w = 3 ↔ k = 5) → ∃ μ', fM_pay_14 N (nI y) (nI w) μ = some μ' ∧ (∀ f a b i, ¬ (f = 305 ∧ a = 0 ∧ b = 0 ∧ i = y) → μ'.1 f a b i = μ.1 f a b i) ∧ (∀ f a b i, f ≠ 267 → ¬ (f = 308 ∧ a = 0 ∧ b = 0 ∧ i = y) → μ'.2 f a b i = μ.2 f a b i) ∧ μ'.1 305 0 0 y = tI ((E.sh d).last (payW k)) ∧ μ'.2 308 0 0 y = (payD E d vs k).toInt64 := by
    intro w hw hw2 hpw hw5
    unfold fM_pay_14 payD
    rw [chk_t (inb_n hw (by decide)), nI_clamp (n := w) (by omega), nmx, hpw]
    rcases lawC_e h.sh h.h hw with ⟨a, b⟩ | ⟨t, cl, i, a, d0, d1, d2, d3, d4, d5⟩
    · have k5 : ¬ k = 5 := fun q => by
        rw [hw5.mpr q] at a
        exact h5 q a
      rw [show μ.1 264 0 0 w = -1 from b, if_pos rfl, show fM_param N 2 μ = _ from par_M (k := 2) h (by decide), bn1_e, a]
      dsimp only
      rw [if_neg k5]
      exact p44 (-1) (tI none) _ μ Sk.rfl' rfl
    · obtain ⟨k1, k2⟩ := (h.t t d0).2.2 i cl d3
      obtain ⟨μ1, t1, t2⟩ := told0_e (N := N) (t := t) (i := i) (vs := vs) (c := cl) (μ := μ) hN d1 d2 k1 k2 (by omega) vm
      rw [show μ.1 264 0 0 w = _ from d4, if_neg (m1_ne (by omega)), t1, bnd_e, a]
      refine p44 (nI (24 * t + i)) (tI (some (t, cl))) _ μ1 t2 ?_
      rw [if_neg (m1_ne (by omega)), div24 (by omega), show (24 * t + i) / 24 = t by omega]
      rfl
  unfold fM_pay
  rcases hk with q | q | q
  · rw [if_neg (by rw [q]; decide)]
    exact p14 2 (by decide) (by decide) (by rw [q]; rfl) ⟨fun z => absurd z (by decide), fun z => absurd (q.symm.trans z) (by decide)⟩
  · rw [if_neg (by rw [q]; decide)]
    exact p14 2 (by decide) (by decide) (by rw [q]; rfl) ⟨fun z => absurd z (by decide), fun z => absurd (q.symm.trans z) (by decide)⟩
  · rw [if_pos q]
    exact p14 3 (by decide) (by decide) (by rw [q]; rfl) ⟨fun _ => q, fun _ => rfl⟩
