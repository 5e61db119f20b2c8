/-! a run of the reference: the days -/
theorem RfA.g2 {p d nc nb : Nat} {μ μ' : St} {s : Lfe} (h : RfA p d μ s nc nb) (hd : d ≤ 936) (h1 : ∀ f i, (275 ≤ f ∧ f ≤ 276) ∨ (279 ≤ f ∧ f ≤ 306) → μ'.1 f 0 0 i = μ.1 f 0 0 i) (hj : ∀ f i, f = 300 ∨ f = 308 → μ'.2 f 0 0 i = μ.2 f 0 0 i) : RfA p d μ' s nc nb :=
  h.u hd (fun q => ⟨(h1 _ _ (by decide)).trans q.wk, (h1 _ _ (by decide)).trans q.aw, (h1 _ _ (by decide)).trans q.sh, (h1 _ _ (by decide)).trans q.us, (h1 _ _ (by decide)).trans q.lf, (h1 _ _ (by decide)).trans q.me, (h1 _ _ (by decide)).trans q.re⟩) (fun f i q => h1 f i (by omega)) hj (fun _ _ _ => rfl)
def prK (μ : St) (k d i e : Nat) : Bool := kwM μ k e && (decide (dyM μ e < d) || (decide (dyM μ e = d) && decide (e < i)))
def gS (μ0 : St) (TC : Nat → List Cl) (n k : Nat) (S0 : Nat → Lfe) (t i p : Nat) : Lfe := sEvs (ENM μ0 TC p n k) (312 + t) (evI μ0 p k (312 + t) i) (LRun (ENM μ0 TC p n k) (evM μ0 p k) (S0 p) t)
def gD (μ0 : St) (TC : Nat → List Cl) (n k : Nat) (S0 : Nat → Lfe) (t i e : Nat) : Int32 := if kdM μ0 e = 8 then (if prK μ0 k (312 + t) i e = true then 1 else 0) else sDo (ENM μ0 TC (peM μ0 e) n k) (312 + t) (evI μ0 (peM μ0 e) k (312 + t) i) (LRun (ENM μ0 TC (peM μ0 e) n k) (evM μ0 (peM μ0 e) k) (S0 (peM μ0 e)) t) (LDo (ENM μ0 TC (peM μ0 e) n k) (evM μ0 (peM μ0 e) k) (S0 (peM μ0 e)) (fun _ => 0) t) e
theorem prK_t {μ : St} {k d i : Nat} (hk : kwM μ k i = true) (hd : dyM μ i = d) : prK μ k d i i = false ∧ prK μ k d (i + 1) i = true ∧ ∀ x, x ≠ i → prK μ k d (i + 1) x = prK μ k d i x := by
  refine ⟨?_, ?_, fun x hx => ?_⟩
  · unfold prK
    rw [hk, hd]
    simp
  · unfold prK
    rw [hk, hd]
    simp
  · unfold prK
    rw [show decide (x < i + 1) = decide (x < i) from decide_eq_decide.mpr (by omega)]
theorem prK_f {μ : St} {k d i : Nat} (h : kwM μ k i = false ∨ dyM μ i ≠ d) (x : Nat) : prK μ k d (i + 1) x = prK μ k d i x := by
  by_cases c : x = i
  · rw [c]
    unfold prK
    rcases h with h | h
    · rw [h]
      simp
    · rw [decide_eq_false h]
      simp
  · unfold prK
    rw [show decide (x < i + 1) = decide (x < i) from decide_eq_decide.mpr (by omega)]
theorem prK_e {μ : St} {k d e : Nat} (he : e < cnM μ) : prK μ k d (cnM μ) e = prK μ k (d + 1) 0 e := by
  unfold prK
  rw [decide_eq_true he, decide_eq_false (show ¬ e < 0 by omega), Bool.and_true, Bool.and_false, Bool.or_false]
  congr 1
  rw [← Bool.decide_or]
  exact decide_eq_decide.mpr (by omega)
theorem slM_f {μ : St} {p k i : Nat} (h : kwM μ k i = false) : slM μ p k i = false := by
  unfold slM
  rw [h]
  simp
section
variable {μ0 : St} {TC : Nat → List Cl} {n k t i : Nat} {S0 : Nat → Lfe}
theorem gS_t (hd : dyM μ0 i = 312 + t) (p : Nat) : gS μ0 TC n k S0 t (i + 1) p = if slM μ0 p k i = true then (sMeet (ENM μ0 TC p n k) (312 + t) (EVM μ0 p k i) (gS μ0 TC n k S0 t i p)).2 else gS μ0 TC n k S0 t i p := by
  unfold gS
  by_cases c : slM μ0 p k i = true
  · rw [if_pos c, evI_t c hd, sEvs_app]
  · rw [if_neg c, evI_f (Or.inl (by simpa using c))]
theorem gS_f (h : kwM μ0 k i = false ∨ dyM μ0 i ≠ 312 + t) (p : Nat) : gS μ0 TC n k S0 t (i + 1) p = gS μ0 TC n k S0 t i p := by
  unfold gS
  rw [evI_f (h.imp slM_f id)]
theorem gD_t (hk : kwM μ0 k i = true) (hd : dyM μ0 i = 312 + t) (e : Nat) : gD μ0 TC n k S0 t (i + 1) e = if e = i then (if kdM μ0 i = 8 then 1 else (sMeet (ENM μ0 TC (peM μ0 i) n k) (312 + t) (EVM μ0 (peM μ0 i) k i) (gS μ0 TC n k S0 t i (peM μ0 i))).1) else gD μ0 TC n k S0 t i e := by
  obtain ⟨-, b2, b3⟩ := prK_t hk hd
  unfold gD
  by_cases c8 : kdM μ0 e = 8
  · rw [if_pos c8, if_pos c8]
    by_cases c : e = i
    · rw [if_pos c, ← c, if_pos c8, c, if_pos b2]
    · rw [if_neg c, b3 e c]
  · rw [if_neg c8, if_neg c8]
    by_cases s : slM μ0 (peM μ0 e) k i = true
    · rw [evI_t s hd, sDo_app]
      by_cases c : e = i
      · rw [if_pos c, if_pos (show e = (EVM μ0 (peM μ0 e) k i).1 from c), ← c, if_neg c8]
        rfl
      · rw [if_neg c, if_neg (show ¬ e = (EVM μ0 (peM μ0 e) k i).1 from c)]
    · have c : ¬ e = i := fun c => s (by
        unfold slM
        rw [← c] at hk ⊢
        rw [hk]
        simp [c8])
      rw [if_neg c, evI_f (Or.inl (by simpa using s))]
theorem gD_f (h : kwM μ0 k i = false ∨ dyM μ0 i ≠ 312 + t) (e : Nat) : gD μ0 TC n k S0 t (i + 1) e = gD μ0 TC n k S0 t i e := by
  unfold gD
  rw [prK_f h, evI_f (h.imp slM_f id)]
theorem gD_e {e : Nat} (he : e < cnM μ0) : gD μ0 TC n k S0 t (cnM μ0) e = gD μ0 TC n k S0 (t + 1) 0 e := by
  unfold gD
  rw [prK_e he]
  rfl
theorem gS_W {p : Nat} (h : cnM μ0 ≤ 160) : WL (gS μ0 TC n k S0 t (cnM μ0) p) := by
  have h1 := evN_cn (μ := μ0) (p := p) (k := k) (t + 1)
  have h2 : evN (evM μ0 p k) (t + 1) = evN (evM μ0 p k) t + (evM μ0 p k (312 + t)).length := rfl
  exact (WP.evs (evM μ0 p k (312 + t)) _ _ (WP.run t (by omega)) (by omega)).1
theorem evs_loopM {N P : Nat} {go : Int32 → Int32 → St → Option St} {x2 : Int32} (H : RnH N P n k TC μ0) (ht : t < 624) : ∀ (g i m : Nat) (μ : St) (nc nb : Nat), i + g = cnM μ0 → g < m → RnI k μ0 μ → μ.1 269 0 0 0 = nI (312 + t) → ShM (TCn TC n) (shOf (TCn TC n) (frM μ0) (toM μ0) n (312 + t)) μ → (∀ p, p < P → RfA p (312 + t) μ (gS μ0 TC n k S0 t i p) nc nb) → (∀ e, e < cnM μ0 → μ.1 277 0 0 e = gD μ0 TC n k S0 t i e) → nc ≤ cnt (prK μ0 k (312 + t) i) (cnM μ0) → nb ≤ cnt (prK μ0 k (312 + t) i) (cnM μ0) →
    ∃ μ' nc' nb', fM_run_67 N go m (nI k) x2 (nI i) μ = go (nI k) x2 μ' ∧ RnI k μ0 μ' ∧ μ'.1 269 0 0 0 = nI (312 + (t + 1)) ∧ (∀ p, p < P → RfA p (312 + (t + 1)) μ' (gS μ0 TC n k S0 (t + 1) 0 p) nc' nb') ∧ (∀ e, e < cnM μ0 → μ'.1 277 0 0 e = gD μ0 TC n k S0 (t + 1) 0 e) ∧ nc' ≤ cnt (prK μ0 k (312 + (t + 1)) 0) (cnM μ0) ∧ nb' ≤ cnt (prK μ0 k (312 + (t + 1)) 0) (cnM μ0) ∧ ∀ j, μ'.1 307 0 0 j = μ.1 307 0 0 j := by
  have hR := H.r
  have hN := H.N
  have hP := H.pl
  obtain ⟨ncn, c1, c2, c3, c4, c5⟩ := hR.n (g := 218) (lo := 0) (hi := 160) 0 (by decide) (by decide)
  have hcn : cnM μ0 = ncn := by unfold cnM; rw [c1, c3]
  intro g
  induction g with
  | zero =>
    intro i m μ nc nb h1 h2 hI hn hS hA hD hc hb
    obtain ⟨m, rfl⟩ : ∃ q, m = q + 1 := ⟨m - 1, by omega⟩
    obtain rfl : i = cnM μ0 := by omega
    obtain ⟨μ', j1, j2, j3, j4, j5⟩ := people_loop (go := go) (x1 := nI k) (x2 := x2) H (d := 312 + t) (by omega) (by omega) (fun p _ => gS_W (by omega)) P 0 N μ (by omega) (by omega) hI hn hS (fun p hp => absurd hp (by omega)) (fun p _ hp => hA p hp)
    have ec := cnt_cg (p := prK μ0 k (312 + t) (cnM μ0)) (q := prK μ0 k (312 + (t + 1)) 0) (cnM μ0) (fun e he => prK_e he)
    refine ⟨μ', nc, nb, ?_, j2, j3, j4, fun e he => ?_, by omega, by omega, fun j => j5 _ _ (Or.inr rfl)⟩
    · show (if μ.1 218 0 0 0 ≤ nI (cnM μ0) then fM_run_122 N go N (nI k) x2 0 μ else _) = _
      rw [show μ.1 218 0 0 0 = nI (cnM μ0) from (hI.lo (by decide)).trans (by rw [hcn]; exact c1), if_pos (Int32.le_refl _)]
      exact j1
    · rw [j5 _ _ (Or.inl rfl), hD e he, gD_e he]
  | succ g ih =>
    intro i m μ nc nb h1 h2 hI hn hS hA hD hc hb
    obtain ⟨m, rfl⟩ : ∃ q, m = q + 1 := ⟨m - 1, by omega⟩
    obtain ⟨nd, d1, d2, d3, d4, d5⟩ := hR.n (g := 232) (lo := 0) (hi := 935) i (by decide) (by decide)
    have hdy : dyM μ0 i = nd := by unfold dyM; rw [d1, d3]
    have hkn : fM_isKnown N (nI i) (nI k) μ = some (if kwM μ0 k i = true then 1 else 0) := by
      rw [isKn_M (by omega)]
      unfold kwM
      rw [show μ.1 233 0 0 i = μ0.1 233 0 0 i from hI.lo (by decide), show μ.1 234 0 0 i = μ0.1 234 0 0 i from hI.lo (by decide)]
    have e0 : fM_run_67 N go (m + 1) (nI k) x2 (nI i) μ = if dyM μ0 i = 312 + t then (if kwM μ0 k i = true then bnd (fM_done0 N (nI i) μ) fun r2 σ3 => fM_run_67 N go m (nI k) x2 (nI (i + 1)) (sI σ3 277 0 0 i (r2 &&& 1)) else fM_run_67 N go m (nI k) x2 (nI (i + 1)) μ) else fM_run_67 N go m (nI k) x2 (nI (i + 1)) μ := by
      show (if μ.1 218 0 0 0 ≤ nI i then _ else chk (inb (nI i) 160) (if μ.1 232 0 0 (nI i).toNatClampNeg = μ.1 269 0 0 0 then (bn1 (fM_isKnown N (nI i) (nI k) μ) fun r1 => if r1 = 0 then fM_run_67 N go m (nI k) x2 (nI i + 1) μ else bnd (fM_done0 N (nI i) μ) fun r2 σ3 => nm (sI σ3 277 0 0 (nI i).toNatClampNeg (r2 &&& 1)) fun σ4 => fM_run_67 N go m (nI k) x2 (nI i + 1) σ4) else fM_run_67 N go m (nI k) x2 (nI i + 1) μ)) = _
      rw [show μ.1 218 0 0 0 = nI ncn from (hI.lo (by decide)).trans c1, if_neg (nI_ge (by omega) (by omega)), chk_t (inb_n (by omega) (by decide)), nI_clamp (by omega), show μ.1 232 0 0 i = nI nd from (hI.lo (by decide)).trans d1, hn, hkn, bn1_e, nI_1, hdy]
      by_cases z : nd = 312 + t
      · rw [if_pos z, if_pos (show nI nd = nI (312 + t) by rw [z])]
        by_cases y : kwM μ0 k i = true
        · rw [if_pos y, if_pos y, if_neg (by decide)]
          rfl
        · rw [if_neg y, if_neg y, if_pos rfl]
      · rw [if_neg z, if_neg (fun q => z ((nI_eq (by omega) (by omega)).mp q))]
    rw [e0]
    by_cases z : dyM μ0 i = 312 + t
    · rw [if_pos z]
      by_cases y : kwM μ0 k i = true
      · rw [if_pos y]
        obtain ⟨b1, b2, b3⟩ := prK_t y z
        have ec := cnt_add b1 b2 b3 (cnM μ0) (by omega)
        have el := cnt_le (prK μ0 k (312 + t) (i + 1)) (cnM μ0)
        obtain ⟨r, μ1, nc1, nb1, q1, q2, q3, q4, q5, q6, q7, q8, q9⟩ := ev_step (i := i) H (d := 312 + t) (by omega) (by omega) hI hn hS (by omega) y hA (by omega) (by omega)
        obtain ⟨μ', nc', nb', w1, w2, w3, w4, w5, w6, w7, w8⟩ := ih (i + 1) m (sI μ1 277 0 0 i (r &&& 1)) nc1 nb1 (by omega) (by omega) (q2.mv (RnX.s (by decide)) (fun f j q => sI_o (by omega))) ((sI_o (by decide)).trans q3) (q4.mv2 (fun f j z1 z2 => sI_o (by omega))) (fun p hp => by
          rw [gS_t z]
          exact (q9 p hp).g2 (by omega) (fun f j q => sI_o (by omega)) (fun _ _ _ => rfl)) (fun e he => by
          rw [gD_t y z]
          by_cases zz : e = i
          · rw [if_pos zz, zz, sI_s]
            exact q8
          · rw [if_neg zz, sI_i zz, q7 _ _ (Or.inl rfl)]
            exact hD e he) (by omega) (by omega)
        refine ⟨μ', nc', nb', by rw [q1, bnd_e]; exact w1, w2, w3, w4, w5, w6, w7, fun j => (w8 j).trans ((sI_o (by decide)).trans (q7 _ _ (Or.inr rfl)))⟩
      · rw [if_neg y]
        have hf : kwM μ0 k i = false ∨ dyM μ0 i ≠ 312 + t := Or.inl (by simpa using y)
        have ec := cnt_cg (p := prK μ0 k (312 + t) (i + 1)) (q := prK μ0 k (312 + t) i) (cnM μ0) (fun e _ => prK_f hf e)
        exact ih (i + 1) m μ nc nb (by omega) (by omega) hI hn hS (fun p hp => by rw [gS_f hf]; exact hA p hp) (fun e he => by rw [gD_f hf]; exact hD e he) (by omega) (by omega)
    · rw [if_neg z]
      have hf : kwM μ0 k i = false ∨ dyM μ0 i ≠ 312 + t := Or.inr z
      have ec := cnt_cg (p := prK μ0 k (312 + t) (i + 1)) (q := prK μ0 k (312 + t) i) (cnM μ0) (fun e _ => prK_f hf e)
      exact ih (i + 1) m μ nc nb (by omega) (by omega) hI hn hS (fun p hp => by rw [gS_f hf]; exact hA p hp) (fun e he => by rw [gD_f hf]; exact hD e he) (by omega) (by omega)
end
