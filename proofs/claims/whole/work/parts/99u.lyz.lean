/-! a run of the reference, from its first day to its last -/
theorem tell_run {N P n k d : Nat} {TC : Nat → List Cl} {μ0 μ : St} (H : RnH N P n k TC μ0) (hI : RnI k μ0 μ) : ∃ μ', fM_tellLaw N (nI d) (nI k) μ = some μ' ∧ Fx lawM μ μ' ∧ ShM (TCn TC n) (shOf (TCn TC n) (frM μ0) (toM μ0) n d) μ' := by
  have hN := H.N
  obtain ⟨μ', a, b, c⟩ := tellLaw_e (N := N) (d := nI d) (by omega) (H.t.mv (fun f i q1 q2 => hI.lo (by omega))) (fun j hj => (hI.lo (by decide)).trans (H.d j hj)) (H.tk.mv (fun f i q => hI.lo (by omega)))
  refine ⟨μ', a, b, ?_⟩
  rw [show (fun t => μ.1 235 0 0 t) = frM μ0 from funext fun t => hI.lo (by decide), show (fun t => μ.1 236 0 0 t) = toM μ0 from funext fun t => hI.lo (by decide)] at c
  exact c
/-- a day's insured trades, as told -/
def inD (μ0 : St) (TC : Nat → List Cl) (n d : Nat) : Int32 := (shOf (TCn TC n) (frM μ0) (toM μ0) n d).ins
theorem day_loop {N P n k u : Nat} {TC : Nat → List Cl} {μ0 : St} {S0 : Nat → Lfe} (H : RnH N P n k TC μ0) (hu : u < 936) : ∀ (g t m : Nat) (μ : St) (nc nb : Nat), 312 + t + g = u + 1 → g < m → RnI k μ0 μ → μ.1 269 0 0 0 = nI (312 + t) → (∀ p, p < P → RfA p (312 + t) μ (gS μ0 TC n k S0 t 0 p) nc nb) → (∀ e, e < cnM μ0 → μ.1 277 0 0 e = gD μ0 TC n k S0 t 0 e) → nc ≤ cnt (prK μ0 k (312 + t) 0) (cnM μ0) → nb ≤ cnt (prK μ0 k (312 + t) 0) (cnM μ0) → (∀ j, j < t → μ.1 307 0 0 j = inD μ0 TC n (312 + j)) →
    ∃ μ' nc' nb', fM_run_12 N m (nI k) (nI u) μ = some μ' ∧ RnI k μ0 μ' ∧ μ'.1 269 0 0 0 = nI u ∧ (∀ p, p < P → RfA p (u + 1) μ' (gS μ0 TC n k S0 (u + 1 - 312) 0 p) nc' nb') ∧ (∀ e, e < cnM μ0 → μ'.1 277 0 0 e = gD μ0 TC n k S0 (u + 1 - 312) 0 e) ∧ ∀ j, 312 + j ≤ u → μ'.1 307 0 0 j = inD μ0 TC n (312 + j) := by
  have hN := H.N
  have hl := H.n
  have hR := H.r
  obtain ⟨ncn, c1, c2, c3, c4, c5⟩ := hR.n (g := 218) (lo := 0) (hi := 160) 0 (by decide) (by decide)
  have hcn : cnM μ0 = ncn := by unfold cnM; rw [c1, c3]
  intro g
  induction g with
  | zero =>
    intro t m μ nc nb h1 h2 hI hn hA hD hc hb hi
    obtain ⟨m, rfl⟩ : ∃ q, m = q + 1 := ⟨m - 1, by omega⟩
    obtain rfl : u = 312 + t - 1 := by omega
    have et : 312 + t - 1 + 1 - 312 = t := by omega
    have et2 : 312 + t - 1 + 1 = 312 + t := by omega
    refine ⟨sI μ 269 0 0 0 (nI (312 + t - 1)), nc, nb, ?_, hI.mv (RnX.s (by decide)) (fun f i q => sI_o (by omega)), sI_s _ _ _ _ _ _, fun p hp => ?_, fun e he => ?_, fun j hj => (sI_o (by decide)).trans (hi j (by omega))⟩
    · show (if nI (312 + t - 1) < μ.1 269 0 0 0 then nm (sI μ 269 0 0 0 (nI (312 + t - 1))) (fun σ1 => some σ1) else _) = _
      rw [hn, if_pos (nI_lt (by omega) (by omega)), nmx]
    · rw [et, et2]
      exact (hA p hp).g (by omega) (fun f i q => sI_o (by omega)) (fun _ _ _ => rfl)
    · rw [et, sI_o (by decide)]
      exact hD e he
  | succ g ih =>
    intro t m μ nc nb h1 h2 hI hn hA hD hc hb hi
    obtain ⟨m, rfl⟩ : ∃ q, m = q + 1 := ⟨m - 1, by omega⟩
    obtain ⟨μ1, a1, a2, a3⟩ := tell_run (d := 312 + t) H hI
    have l1 : ∀ f a b i, ¬ (262 ≤ f ∧ f ≤ 265) → μ1.1 f a b i = μ.1 f a b i := fun f a b i q => a2.law q
    have hI1 : RnI k μ0 μ1 := hI.mv (a2.rn (fun f q => by simp [lawM] at q; omega)) (fun f i q => l1 f 0 0 i (by omega))
    have hn1 : μ1.1 269 0 0 0 = nI (312 + t) := (l1 _ _ _ _ (by decide)).trans hn
    have hins : (nm (μ1.1 264 0 0 0) fun (y3 : Int32) => if y3 = (-1) then fM_run_63 N (fM_run_12 N m) (nI k) (nI u) (μ1.1 269 0 0 0 - 312) 0 μ1 else chk (inb y3 408) <| fM_run_63 N (fM_run_12 N m) (nI k) (nI u) (μ1.1 269 0 0 0 - 312) (μ1.1 240 0 0 y3.toNatClampNeg) μ1) = fM_run_67 N (fM_run_12 N m) N (nI k) (nI u) 0 (sI μ1 307 0 0 t (inD μ0 TC n (312 + t))) := by
      have s1 : (μ1.1 269 0 0 0 - 312 : Int32) = nI t := by
        rw [show μ1.1 269 0 0 0 = nI (312 + t) from hn1]
        exact nI_subl (a := 312) (k := t)
      rw [nmx, s1]
      rcases ins_M (H.t.mv (fun f i q1 q2 => hI1.lo (by omega))) hl a3 with ⟨x1, x2⟩ | ⟨j, x0, x1, x2⟩
      · rw [show μ1.1 264 0 0 0 = -1 from x1, if_pos rfl]
        unfold fM_run_63 inD
        rw [chk_t (inb_n (by omega) (by decide)), nmx, nI_clamp (by omega), x2]
      · rw [show μ1.1 264 0 0 0 = nI j from x1, if_neg (m1_ne (by omega)), chk_t (inb_n (by omega) (by decide)), nI_clamp (n := j) (by omega), show μ1.1 240 0 0 j = _ from x2]
        unfold fM_run_63 inD
        rw [chk_t (inb_n (by omega) (by decide)), nmx, nI_clamp (by omega)]
    obtain ⟨μ2, hμ2⟩ : ∃ μ2, μ2 = sI μ1 307 0 0 t (inD μ0 TC n (312 + t)) := ⟨_, rfl⟩
    have l2 : ∀ f a b i, f ≠ 307 → μ2.1 f a b i = μ1.1 f a b i := fun f a b i q => by rw [hμ2, sI_o q]
    obtain ⟨μ3, nc3, nb3, b1, b2, b3, b4, b5, b6, b7, b8⟩ := evs_loopM (S0 := S0) (go := fM_run_12 N m) (x2 := nI u) H (t := t) (by omega) (cnM μ0) 0 N μ2 nc nb (by omega) (by omega) (hI1.mv (by rw [hμ2]; exact RnX.s (by decide)) (fun f i q => l2 f 0 0 i (by omega))) ((l2 _ _ _ _ (by decide)).trans hn1) (a3.mv2 (fun f i q1 q2 => l2 f 0 0 i (by omega))) (fun p hp => (hA p hp).g (by omega) (fun f i q => (l2 f 0 0 i (by omega)).trans (l1 f 0 0 i (by omega))) (fun f i q => by rw [hμ2]; exact congrFun (congrFun (congrFun (congrFun a2.2 f) 0) 0) i)) (fun e he => (l2 _ _ _ _ (by decide)).trans ((l1 _ _ _ _ (by decide)).trans (hD e he))) hc hb
    obtain ⟨μ', nc', nb', w1, w2, w3, w4, w5, w6⟩ := ih (t + 1) m μ3 nc3 nb3 (by omega) (by omega) b2 b3 b4 b5 b6 b7 (fun j hj => by
      rw [b8, hμ2]
      by_cases z : j = t
      · rw [z, sI_s]
      · rw [sI_i z, l1 _ _ _ _ (by decide)]
        exact hi j (by omega))
    refine ⟨μ', nc', nb', ?_, w2, w3, w4, w5, w6⟩
    show (if nI u < μ.1 269 0 0 0 then _ else bn1 (fM_tellLaw N (μ.1 269 0 0 0) (nI k) μ) fun σ2 => nm (σ2.1 264 0 0 0) fun (y3 : Int32) => if y3 = (-1) then fM_run_63 N (fM_run_12 N m) (nI k) (nI u) (σ2.1 269 0 0 0 - 312) 0 σ2 else chk (inb y3 408) <| fM_run_63 N (fM_run_12 N m) (nI k) (nI u) (σ2.1 269 0 0 0 - 312) (σ2.1 240 0 0 y3.toNatClampNeg) σ2) = _
    rw [hn, if_neg (nI_nlt (by omega) (by omega)), a1, bn1_e, hins, ← hμ2]
    exact b1.trans w1
/-- a whole run -/
theorem run_M {N P n k u : Nat} {TC : Nat → List Cl} {μ0 : St} (S0 : Nat → Lfe) (H : RnH N P n k TC μ0) (hu1 : 311 ≤ u) (hu : u < 936) : ∃ μ' nc' nb', fM_run N (nI k) (nI u) μ0 = some μ' ∧ RnI k μ0 μ' ∧ μ'.1 269 0 0 0 = nI u ∧ (∀ p, p < P → RfA p (u + 1) μ' (gS μ0 TC n k S0 (u + 1 - 312) 0 p) nc' nb') ∧ (∀ e, e < cnM μ0 → μ'.1 277 0 0 e = gD μ0 TC n k S0 (u + 1 - 312) 0 e) ∧ ∀ j, 312 + j ≤ u → μ'.1 307 0 0 j = inD μ0 TC n (312 + j) := by
  have hN := H.N
  have hP := H.pl
  obtain ⟨ncn, c1, c2, c3, c4, c5⟩ := H.r.n (g := 218) (lo := 0) (hi := 160) 0 (by decide) (by decide)
  have hcn : cnM μ0 = ncn := by unfold cnM; rw [c1, c3]
  obtain ⟨μ1, a1, a2, a3, a4, a5, a6, a7, a8, a9⟩ := beginRun_e (N := N) (k := k) (by omega) H.r H.e
  have l2 : ∀ f a b i, f ≠ 269 → (sI μ1 269 0 0 0 312).1 f a b i = μ1.1 f a b i := fun f a b i q => sI_o q
  have hI1 : RnI k μ0 μ1 := ⟨⟨fun f a b i q => a2 f a b i (by omega), fun f a b i _ _ _ => by rw [a3]⟩, a4, a9⟩
  have hev : ∀ e, e < cnM μ0 → 312 ≤ dyM μ0 e := fun e he => (H.e e he).1
  have hA0 : ∀ p, p < P → RfA p (312 + 0) (sI μ1 269 0 0 0 312) (gS μ0 TC n k S0 0 0 p) 0 0 := fun p hp => RfA.g (RfA.start (E := ENM μ0 TC p n k) (s0 := S0 p) (a7 p (by omega)) a5 a6) (by omega) (fun f i q => l2 f 0 0 i (by omega)) (fun _ _ _ => rfl)
  have hD0 : ∀ e, e < cnM μ0 → (sI μ1 269 0 0 0 312).1 277 0 0 e = gD μ0 TC n k S0 0 0 e := by
    intro e he
    rw [l2 _ _ _ _ (by decide), a8 e (by omega)]
    unfold gD
    by_cases c8 : kdM μ0 e = 8
    · rw [if_pos c8, if_neg]
      unfold prK
      rw [decide_eq_false (show ¬ e < 0 by omega), decide_eq_false (show ¬ dyM μ0 e < 312 + 0 from by have := hev e he; omega)]
      simp
    · rw [if_neg c8]
      rfl
  obtain ⟨μ', nc', nb', w1, w2, w3, w4, w5, w6⟩ := day_loop (S0 := S0) H hu (u + 1 - 312) 0 N (sI μ1 269 0 0 0 312) 0 0 (by omega) (by omega) (hI1.mv (RnX.s (by decide)) (fun f i q => l2 f 0 0 i (by omega))) (sI_s _ _ _ _ _ _) hA0 hD0 (Nat.zero_le _) (Nat.zero_le _) (fun j hj => absurd hj (by omega))
  refine ⟨μ', nc', nb', ?_, w2, w3, w4, w5, w6⟩
  unfold fM_run
  rw [a1, bn1_e, nmx]
  exact w1
