/-! what a run says, and when it needs no second one -/
def cut (S : List Nat) (μ : St) : St := (fun f a b i => if List.elem f S = true then μ.1 f a b i else 0, fun _ _ _ _ => 0)
theorem cut_eq {S : List Nat} {μ μ' : St} (h : ∀ f a b i, f ∈ S → μ'.1 f a b i = μ.1 f a b i) : cut S μ' = cut S μ := by
  unfold cut
  refine Prod.ext (funext fun f => funext fun a => funext fun b => funext fun i => ?_) rfl
  dsimp only
  by_cases c : List.elem f S = true
  · rw [if_pos c, if_pos c, h f a b i (List.elem_iff.mp c)]
  · rw [if_neg c, if_neg c]
/-- events; offers; books; texts and people -/
def LE : List Nat := [218, 229, 230, 231, 232, 233, 234]
def LO : List Nat := [209, 210, 211, 213, 325, 326, 327, 318, 319, 320, 218, 229, 230, 231, 232, 233, 234]
def LB : List Nat := [216, 220, 221, 222, 223, 224, 217, 225, 226, 227, 228]
def LT : List Nat := [235, 236]
theorem cE_cn (μ : St) : cnM (cut LE μ) = cnM μ := rfl
theorem cE_pe (μ : St) : peM (cut LE μ) = peM μ := rfl
theorem cE_kd (μ : St) : kdM (cut LE μ) = kdM μ := rfl
theorem cE_nu (μ : St) : nuM (cut LE μ) = nuM μ := rfl
theorem cE_dy (μ : St) : dyM (cut LE μ) = dyM μ := rfl
theorem cE_kw (μ : St) (k : Nat) : kwM (cut LE μ) k = kwM μ k := rfl
theorem cE_pr (μ : St) (k d i e : Nat) : prK (cut LE μ) k d i e = prK μ k d i e := rfl
theorem cO_ev (μ : St) (p k : Nat) : evM (cut LO μ) p k = evM μ p k := rfl
theorem cB_row (μ : St) (p y k : Nat) : rowL (cut LB μ) p y k = rowL μ p y k := rfl
theorem cB_rtn (μ : St) (p k w : Nat) : rtn (cut LB μ) p k w = rtn μ p k w := rfl
theorem cB_st (μ : St) (p k : Nat) : stOf (cut LB μ) p k = stOf μ p k := rfl
theorem cT_fr (μ : St) : frM (cut LT μ) = frM μ := rfl
theorem cT_to (μ : St) : toM (cut LT μ) = toM μ := rfl
theorem cT_in (μ : St) (TC : Nat → List Cl) (n d : Nat) : inD (cut LT μ) TC n d = inD μ TC n d := rfl
/-- the same events, each as it was -/
abbrev SmE (μ μ' : St) : Prop := (cnM μ' = cnM μ) ∧ (peM μ' = peM μ) ∧ (kdM μ' = kdM μ) ∧ (nuM μ' = nuM μ) ∧ (dyM μ' = dyM μ) ∧ (∀ k, kwM μ' k = kwM μ k)
theorem SmE.cn {μ μ' : St} (h : SmE μ μ') : cnM μ' = cnM μ := h.1
theorem SmE.pe {μ μ' : St} (h : SmE μ μ') : peM μ' = peM μ := h.2.1
theorem SmE.kd {μ μ' : St} (h : SmE μ μ') : kdM μ' = kdM μ := h.2.2.1
theorem SmE.nu {μ μ' : St} (h : SmE μ μ') : nuM μ' = nuM μ := h.2.2.2.1
theorem SmE.dy {μ μ' : St} (h : SmE μ μ') : dyM μ' = dyM μ := h.2.2.2.2.1
theorem SmE.kw {μ μ' : St} (h : SmE μ μ') : ∀ k, kwM μ' k = kwM μ k := h.2.2.2.2.2
theorem SmE.mk {μ μ' : St} (h : ∀ f a b i, f ∈ LE → μ'.1 f a b i = μ.1 f a b i) : SmE μ μ' := by
  have e := cut_eq h
  refine ⟨?_, ?_, ?_, ?_, ?_, fun k => ?_⟩
  · rw [← cE_cn μ', e, cE_cn]
  · rw [← cE_pe μ', e, cE_pe]
  · rw [← cE_kd μ', e, cE_kd]
  · rw [← cE_nu μ', e, cE_nu]
  · rw [← cE_dy μ', e, cE_dy]
  · rw [← cE_kw μ', e, cE_kw]
theorem evM_c {μ μ' : St} (h : ∀ f a b i, f ∈ LO → μ'.1 f a b i = μ.1 f a b i) (p k : Nat) : evM μ' p k = evM μ p k := by
  rw [← cO_ev μ', cut_eq h, cO_ev]
theorem evM_o {μ μ' : St} (h : SmE μ μ') {p : Nat} (ho : ∀ e, e < cnM μ → kdM μ e = 7 → peM μ e = p → ofM μ' p e = ofM μ p e) (k : Nat) : evM μ' p k = evM μ p k := by
  funext d
  unfold evM
  rw [h.cn]
  have e1 : (fun e => slM μ' p k e && decide (dyM μ' e = d)) = fun e => slM μ p k e && decide (dyM μ e = d) := by
    funext e
    unfold slM
    rw [h.pe, h.kd, h.kw, h.dy]
  rw [e1]
  refine List.map_congr_left (fun e he => ?_)
  obtain ⟨h1, h2⟩ := List.mem_filter.mp he
  have h3 : e < cnM μ := List.mem_range.mp h1
  have h4 : peM μ e = p := by
    unfold slM at h2
    simp only [Bool.and_eq_true, decide_eq_true_eq] at h2
    exact h2.1.1.1
  unfold EVM
  rw [h.cn, h.pe, h.kd, h.nu, h.kw]
  by_cases c : kdM μ e = 7
  · rw [ho e h3 c h4]
  · have : ofM μ' p e = ofM μ p e := by
      unfold ofM
      rw [h.kd, if_neg c, if_neg c]
    rw [this]
theorem st_c {μ μ' : St} (h : ∀ f a b i, f ∈ LB → μ'.1 f a b i = μ.1 f a b i) (p k : Nat) : stOf μ' p k = stOf μ p k := by
  rw [← cB_st μ', cut_eq h, cB_st]
theorem ENM_c {μ μ' : St} {TC : Nat → List Cl} {p n k k' : Nat} (hT : frM μ' = frM μ ∧ toM μ' = toM μ) (hB : stOf μ' p k' = stOf μ p k) (h1 : μ'.1 212 0 0 p = μ.1 212 0 0 p) (h2 : μ'.1 211 0 0 p = μ.1 211 0 0 p) (h3 : μ'.1 214 0 0 p = μ.1 214 0 0 p) : ENM μ' TC p n k' = ENM μ TC p n k := by
  unfold ENM
  rw [hT.1, hT.2, hB, h1, h2, h3]
/-- what a run rests on is as it was -/
abbrev SmR (P k : Nat) (μ μ' : St) : Prop := (SmE μ μ') ∧ (∀ p, p < P → evM μ' p k = evM μ p k) ∧ (∀ f a b i, f ∈ LB → μ'.1 f a b i = μ.1 f a b i) ∧ (∀ f a b i, f ∈ LT → μ'.1 f a b i = μ.1 f a b i) ∧ (∀ p, p < P → μ'.1 212 0 0 p = μ.1 212 0 0 p ∧ μ'.1 211 0 0 p = μ.1 211 0 0 p ∧ μ'.1 214 0 0 p = μ.1 214 0 0 p)
theorem SmR.e {P k : Nat} {μ μ' : St} (h : SmR P k μ μ') : SmE μ μ' := h.1
theorem SmR.v {P k : Nat} {μ μ' : St} (h : SmR P k μ μ') : ∀ p, p < P → evM μ' p k = evM μ p k := h.2.1
theorem SmR.b {P k : Nat} {μ μ' : St} (h : SmR P k μ μ') : ∀ f a b i, f ∈ LB → μ'.1 f a b i = μ.1 f a b i := h.2.2.1
theorem SmR.t {P k : Nat} {μ μ' : St} (h : SmR P k μ μ') : ∀ f a b i, f ∈ LT → μ'.1 f a b i = μ.1 f a b i := h.2.2.2.1
theorem SmR.p {P k : Nat} {μ μ' : St} (h : SmR P k μ μ') : ∀ p, p < P → μ'.1 212 0 0 p = μ.1 212 0 0 p ∧ μ'.1 211 0 0 p = μ.1 211 0 0 p ∧ μ'.1 214 0 0 p = μ.1 214 0 0 p := h.2.2.2.2
theorem SmR.en {P k p : Nat} {μ μ' : St} (h : SmR P k μ μ') (TC : Nat → List Cl) (n : Nat) (hp : p < P) : ENM μ' TC p n k = ENM μ TC p n k :=
  ENM_c ⟨by rw [← cT_fr μ', cut_eq h.t, cT_fr], by rw [← cT_to μ', cut_eq h.t, cT_to]⟩ (st_c h.b p k) (h.p p hp).1 (h.p p hp).2.1 (h.p p hp).2.2
theorem SmR.gS {P k p n t : Nat} {μ μ' : St} {TC : Nat → List Cl} {S0 : Nat → Lfe} (h : SmR P k μ μ') (hp : p < P) : gS μ' TC n k S0 t 0 p = gS μ TC n k S0 t 0 p := by
  show LRun (ENM μ' TC p n k) (evM μ' p k) (S0 p) t = LRun (ENM μ TC p n k) (evM μ p k) (S0 p) t
  rw [h.en TC n hp, h.v p hp]
theorem SmR.gD {P k e n t : Nat} {μ μ' : St} {TC : Nat → List Cl} {S0 : Nat → Lfe} (h : SmR P k μ μ') (hp : peM μ e < P) : gD μ' TC n k S0 t 0 e = gD μ TC n k S0 t 0 e := by
  show (if kdM μ' e = 8 then (if prK μ' k (312 + t) 0 e = true then 1 else 0) else LDo (ENM μ' TC (peM μ' e) n k) (evM μ' (peM μ' e) k) (S0 (peM μ' e)) (fun _ => 0) t e) = (if kdM μ e = 8 then (if prK μ k (312 + t) 0 e = true then 1 else 0) else LDo (ENM μ TC (peM μ e) n k) (evM μ (peM μ e) k) (S0 (peM μ e)) (fun _ => 0) t e)
  have h1 : prK μ' k (312 + t) 0 e = prK μ k (312 + t) 0 e := by
    unfold prK
    rw [h.e.kw, h.e.dy]
  rw [h.e.kd, h1, h.e.pe, h.en TC n hp, h.v _ hp]
/-- the reference's run is that of a day -/
abbrev RunOK (P n k : Nat) (TC : Nat → List Cl) (μ : St) : Prop := (BkM k μ μ) ∧ (∀ S0 : Nat → Lfe, ∃ nc nb, ∀ p, p < P → RfA p (k + 1) μ (gS μ TC n k S0 (k + 1 - 312) 0 p) nc nb) ∧ (∀ S0 : Nat → Lfe, ∀ e, e < cnM μ → peM μ e < P → μ.1 277 0 0 e = gD μ TC n k S0 (k + 1 - 312) 0 e) ∧ (∀ j, 312 + j ≤ k → μ.1 307 0 0 j = inD μ TC n (312 + j))
theorem RunOK.b {P n k : Nat} {TC : Nat → List Cl} {μ : St} (h : RunOK P n k TC μ) : BkM k μ μ := h.1
theorem RunOK.a {P n k : Nat} {TC : Nat → List Cl} {μ : St} (h : RunOK P n k TC μ) : ∀ S0 : Nat → Lfe, ∃ nc nb, ∀ p, p < P → RfA p (k + 1) μ (gS μ TC n k S0 (k + 1 - 312) 0 p) nc nb := h.2.1
theorem RunOK.d {P n k : Nat} {TC : Nat → List Cl} {μ : St} (h : RunOK P n k TC μ) : ∀ S0 : Nat → Lfe, ∀ e, e < cnM μ → peM μ e < P → μ.1 277 0 0 e = gD μ TC n k S0 (k + 1 - 312) 0 e := h.2.2.1
theorem RunOK.i {P n k : Nat} {TC : Nat → List Cl} {μ : St} (h : RunOK P n k TC μ) : ∀ j, 312 + j ≤ k → μ.1 307 0 0 j = inD μ TC n (312 + j) := h.2.2.2
theorem RnX.sm {P k : Nat} {μ μ' : St} (h : RnX μ μ') : SmR P k μ μ' := by
  have g : ∀ f a b i, (f < 260 ∨ 308 < f) → μ'.1 f a b i = μ.1 f a b i := fun f a b i q => h.1 f a b i (by omega)
  have w : ∀ (S : List Nat), (∀ f ∈ S, f < 260 ∨ 308 < f) → ∀ f a b i, f ∈ S → μ'.1 f a b i = μ.1 f a b i := fun S hS f a b i q => g f a b i (hS f q)
  exact ⟨SmE.mk (w LE (by decide)), fun p _ => evM_c (w LO (by decide)) p k, w LB (by decide), w LT (by decide), fun p _ => ⟨g _ _ _ _ (by decide), g _ _ _ _ (by decide), g _ _ _ _ (by decide)⟩⟩
/-- the run stays if its own places do and what it rests on -/
theorem RunOK.mv {P n k : Nat} {TC : Nat → List Cl} {μ μ' : St} (h : RunOK P n k TC μ) (hk : k < 936) (hs : SmR P k μ μ') (h1 : ∀ f i, (260 ≤ f ∧ f ≤ 261) ∨ (275 ≤ f ∧ f ≤ 307 ∧ f ≠ 278) → μ'.1 f 0 0 i = μ.1 f 0 0 i) (hj : ∀ f i, f = 300 ∨ f = 308 → μ'.2 f 0 0 i = μ.2 f 0 0 i) : RunOK P n k TC μ' := by
  refine ⟨⟨fun p y hp hy => ?_, fun p w hp hw => ?_⟩, fun S0 => ?_, fun S0 e he hP => ?_, fun j hk' => ?_⟩
  · rw [h1 _ _ (by decide), ← cB_row μ', cut_eq hs.b, cB_row]
    exact h.b.1 p y hp hy
  · rw [h1 _ _ (by decide), ← cB_rtn μ', cut_eq hs.b, cB_rtn]
    exact h.b.2 p w hp hw
  · obtain ⟨nc, nb, h2⟩ := h.a S0
    refine ⟨nc, nb, fun p hp => ?_⟩
    rw [hs.gS hp]
    exact (h2 p hp).g2 (by omega) (fun f i q => h1 f i (by omega)) hj
  · rw [hs.e.pe] at hP
    rw [h1 _ _ (by decide), hs.gD hP]
    exact h.d S0 e (by rw [← hs.e.cn]; exact he) hP
  · rw [h1 _ _ (by decide), ← cT_in μ', cut_eq hs.t, cT_in]
    exact h.i j hk'
theorem takes.un {μ : St} {k : Int32} {n m : Nat} (h : takes μ k n) (h2 : takes μ k m) : n = m := by
  obtain ⟨a, a1, a2⟩ := h
  obtain ⟨b, b1, b2⟩ := h2
  rcases a2 with ⟨x1, x2, x3, x4, x5⟩ | ⟨x1, x2, x3, x4⟩ <;> rcases b2 with ⟨y1, y2, y3, y4, y5⟩ | ⟨y1, y2, y3, y4⟩
  · have ab : a = b := (nI_eq (by omega) (by omega)).mp (a1.symm.trans b1)
    rcases Nat.lt_trichotomy n m with q | q | q
    · exact absurd (y4 n q) (Int32.not_le.mpr (x5 n (Nat.le_refl _) (by omega)))
    · exact q
    · exact absurd (x4 m q) (Int32.not_le.mpr (y5 m (Nat.le_refl _) (by omega)))
  · exact absurd x1 y1
  · exact absurd y1 x1
  · have ab : a = b := (nI_eq (by omega) (by omega)).mp (a1.symm.trans b1)
    omega
theorem RnH.mv {N P n k : Nat} {TC : Nat → List Cl} {μ μ' : St} (h : RnH N P n k TC μ) (hx : RnX μ μ') : RnH N P n k TC μ' := by
  have hd : SmE μ μ' := (hx.sm (P := P) (k := k)).e
  refine ⟨h.r.mv (fun f i q => hx.at (by omega)), (h.e.mv (fun f i q => hx.at (by omega))).1, h.t.mv (fun f i q1 q2 => hx.at (by omega)), fun j hj => (hx.at (by decide)).trans (h.d j hj), h.tk.mv (fun f i q => hx.at (by omega)), h.n, (hx.at (by decide)).trans h.p, h.pl, fun e he => ?_, fun o ho => ?_, h.N, h.k1, h.k2⟩
  · have e1 : peM μ' e = peM μ e := by unfold peM; rw [hx.at (by decide)]
    rw [e1]
    exact h.ep e (by rw [← hd.cn]; exact he)
  · rw [hx.at (by decide), hx.at (by decide)]
    exact h.su o ho
/-- what the reference knows of its run -/
def RunI (P : Nat) (TC : Nat → List Cl) (μ : St) : Prop := μ.1 273 0 0 0 ≠ 0 → ∃ k n, μ.1 274 0 0 0 = nI k ∧ 312 ≤ k ∧ k < 936 ∧ takes μ (nI k) n ∧ RunOK P n k TC μ
theorem know_M {N P n k : Nat} {TC : Nat → List Cl} {μ : St} (H : RnH N P n k TC μ) (hr : RunI P TC μ) : ∃ μ', fM_know N (nI k) μ = some μ' ∧ RnX μ μ' ∧ RunOK P n k TC μ' ∧ μ'.1 273 0 0 0 ≠ 0 ∧ μ'.1 274 0 0 0 = nI k ∧ RunI P TC μ' := by
  have hk2 := H.k2
  have fin : ∀ μ', RnX μ μ' → RunOK P n k TC μ' → μ'.1 273 0 0 0 ≠ 0 → μ'.1 274 0 0 0 = nI k → RunI P TC μ' := fun μ' q1 q2 q3 q4 _ => ⟨k, n, q4, H.k1, H.k2, H.tk.mv (fun f i q => q1.at (by omega)), q2⟩
  have new : ∃ μ', fM_know_16 N (nI k) μ = some μ' ∧ RnX μ μ' ∧ RunOK P n k TC μ' ∧ μ'.1 273 0 0 0 ≠ 0 ∧ μ'.1 274 0 0 0 = nI k ∧ RunI P TC μ' := by
    obtain ⟨μ1, nc, nb, a1, a2, a3, a4, a5, a6⟩ := run_M (u := k) (fun _ _ _ => 0) H (by have := H.k1; omega) H.k2
    have hd1 : SmR P k μ μ1 := a2.x.sm
    have ok : RunOK P n k TC μ1 := by
      refine ⟨⟨fun p y hp hy => ?_, fun p w hp hw => ?_⟩, fun S0 => ?_, fun S0 e he hP => ?_, fun j hj => ?_⟩
      · rw [← cB_row μ1, cut_eq hd1.b, cB_row]
        exact a2.b.1 p y hp hy
      · rw [← cB_rtn μ1, cut_eq hd1.b, cB_rtn]
        exact a2.b.2 p w hp hw
      · obtain ⟨μ2, nc2, nb2, b1, b2, b3, b4, b5, b6⟩ := run_M (u := k) S0 H (by have := H.k1; omega) H.k2
        rw [a1] at b1
        cases b1
        refine ⟨nc2, nb2, fun p hp => ?_⟩
        rw [hd1.gS hp]
        exact b4 p hp
      · obtain ⟨μ2, nc2, nb2, b1, b2, b3, b4, b5, b6⟩ := run_M (u := k) S0 H (by have := H.k1; omega) H.k2
        rw [a1] at b1
        cases b1
        rw [hd1.gD (by rw [← hd1.e.pe]; exact hP)]
        exact b5 e (by rw [← hd1.e.cn]; exact he)
      · rw [← cT_in μ1, cut_eq hd1.t, cT_in]
        exact a6 j hj
    obtain ⟨μ2, hμ2⟩ : ∃ μ2, μ2 = sI (sI μ1 273 0 0 0 1) 274 0 0 0 (nI k) := ⟨_, rfl⟩
    have x2 : RnX μ1 μ2 := by
      rw [hμ2]
      exact (RnX.s (by decide)).tr (RnX.s (by decide))
    have r2 : RunOK P n k TC μ2 := ok.mv hk2 x2.sm (fun f i q => by rw [hμ2, sI_o (by omega), sI_o (by omega)]) (fun f i _ => by rw [hμ2]; rfl)
    have i2 : μ2.1 273 0 0 0 ≠ 0 := by
      rw [hμ2, sI_o (by decide), sI_s]
      decide
    have k2 : μ2.1 274 0 0 0 = nI k := by rw [hμ2, sI_s]
    refine ⟨μ2, ?_, a2.x.tr x2, r2, i2, k2, fin μ2 (a2.x.tr x2) r2 i2 k2⟩
    unfold fM_know_16
    rw [a1, bn1_e, nmx, nmx, hμ2]
  unfold fM_know
  by_cases c : μ.1 273 0 0 0 = 0
  · rw [if_pos c]
    exact new
  · rw [if_neg c]
    by_cases c2 : μ.1 274 0 0 0 = nI k
    · rw [if_pos c2]
      obtain ⟨k', n', b1, b2, b3, b4, b5⟩ := hr c
      have ek : k' = k := (nI_eq (by omega) (by omega)).mp (b1.symm.trans c2)
      rw [ek] at b4 b5
      have en : n' = n := b4.un H.tk
      rw [en] at b5
      exact ⟨μ, rfl, RnX.rf, b5, c, c2, fin μ RnX.rf b5 c c2⟩
    · rw [if_neg c2]
      exact new
