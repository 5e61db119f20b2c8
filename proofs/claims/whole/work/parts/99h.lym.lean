/-! an event, in the reference -/
def DnR (N p d nc nb e : Nat) (E : Env) (ev : Ev) (μ : St) (s : Lfe) (x : Option (Int32 × St)) : Prop := ∃ μ' nc' nb', x = some ((sMeet E d ev s).1, μ') ∧ PnX p nc nc' nb nb' μ μ' ∧ nc' ≤ nc + 1 ∧ nb' ≤ nb + 1 ∧ RfA p d μ' (sMeet E d ev s).2 nc' nb'
theorem d185 {N n p d nc nb e : Nat} {E : Env} {fr to : Nat → Int32} {ev : Ev} {μ : St} {s : Lfe} (hN : 1000 ≤ N) (h : Cx N n p d E fr to μ) (hA : RfA p d μ s nc nb) (hk : ev.k = 2) (hnc : nc < 160) (hc : s 87 0 = 0 ∨ s 89 0 ≠ 0) : DnR N p d nc nb e E ev μ s (fM_done0_185 N (nI p) μ) := by
  have hA' := hA
  obtain ⟨c, cm, a1, a2, -, -, -⟩ := hA'
  have hp := h.p
  have em : sMeet E d ev s = if (s 87 0 = 0 ∨ s 89 0 ≠ 0) ∧ s 88 0 = 0 ∧ s 85 0 = 0 ∧ insD E d = true then (1, sSign E d s) else (0, s) := by
    unfold sMeet
    rw [hk, if_neg (by decide), if_neg (by decide), if_pos rfl]
  unfold fM_done0_185 DnR
  rw [em, chk_t (inb_n hp (by decide)), nI_clamp (by omega), show μ.1 276 0 0 p = s 88 0 from a1.aw]
  by_cases c1 : s 88 0 = 0
  · rw [if_pos c1, openOf_e a2 hp, bn1_e]
    by_cases c2 : s 85 0 = 0
    · rw [if_pos ((open_m1 a2).mpr c2), show μ.1 211 0 0 p = E.trade from h.tr, insured_M h, bn1_e]
      by_cases c3 : insD E d = true
      · obtain ⟨μ', nc', i1, i2, i3, i4⟩ := signs_M (N := N) (E := E) (by omega) hp h.d1 h.d2 h.n hnc hA c2 (fun k hk => h.h.2.2.2.1 k hk) h.st
        rw [if_pos c3, if_neg (by decide), if_pos ⟨hc, c1, c2, c3⟩, i1, bn1_e]
        exact ⟨μ', nc', nb, rfl, i2, i3, Nat.le_succ _, i4⟩
      · rw [if_neg c3, if_pos rfl, if_neg (fun q => c3 q.2.2.2)]
        exact ⟨μ, nc, nb, rfl, PnX.rf, Nat.le_succ _, Nat.le_succ _, hA⟩
    · rw [if_neg (fun q => c2 ((open_m1 a2).mp q)), if_neg (fun q => c2 q.2.2.1)]
      exact ⟨μ, nc, nb, rfl, PnX.rf, Nat.le_succ _, Nat.le_succ _, hA⟩
  · rw [if_neg c1, if_neg (fun q => c1 q.2.1)]
    exact ⟨μ, nc, nb, rfl, PnX.rf, Nat.le_succ _, Nat.le_succ _, hA⟩
theorem done_e {N n p d nc nb e : Nat} {E : Env} {fr to : Nat → Int32} {ev : Ev} {μ : St} {s : Lfe} (hN : 1000 ≤ N) (h0 : Cx N n p d E fr to μ) (hA0 : RfA p d μ s nc nb) (he : e < 160) (hep : μ.1 230 0 0 e = nI p) (hek : μ.1 229 0 0 e = ev.k) (hen : μ.1 231 0 0 e = ev.n) (hec : μ.1 278 0 0 e = ev.cl) (hk : ∃ k : Nat, k ≤ 7 ∧ ev.k = nI k) (h7 : ev.k = 7 → OfM N p ev μ) (hnc : nc < 160) (hnb : nb < 160) : DnR N p d nc nb e E ev μ s (fM_done0 N (nI e) μ) := by
  obtain ⟨ν, hν⟩ : ∃ ν, ν = sI (sI (sI (sI μ 268 0 0 0 (nI p)) 270 0 0 0 0) 271 0 0 0 0) 272 0 0 0 0 := ⟨_, rfl⟩
  have fν : ∀ f i, f ≠ 268 → ¬ (270 ≤ f ∧ f ≤ 272) → ν.1 f 0 0 i = μ.1 f 0 0 i := fun f i q q2 => by rw [hν, sI_o (by omega), sI_o (by omega), sI_o (by omega), sI_o q]
  have pν : PnX p nc nc nb nb μ ν := by
    rw [hν]
    exact (((PnX.g (by decide)).tr (PnX.g (by decide))).tr (PnX.g (by decide))).tr (PnX.g (by decide))
  have hp := h0.p
  have hd := h0.d2
  have h : Cx N n p d E fr to ν := h0.pn pν
  have hA : RfA p d ν s nc nb := hA0.g (by omega) (fun f i q => fν f i (by omega) (by omega)) (fun f i _ => by rw [hν]; rfl)
  have hwho : ν.1 268 0 0 0 = nI p := by rw [hν, sI_o (by decide), sI_o (by decide), sI_o (by decide), sI_s]
  have e0 : ν.1 229 0 0 e = ev.k := (fν _ _ (by decide) (by decide)).trans hek
  have ec : ν.1 278 0 0 e = ev.cl := (fν _ _ (by decide) (by decide)).trans hec
  have z1 : ν.1 270 0 0 0 = 0 := by rw [hν, sI_o (by decide), sI_o (by decide), sI_s]
  have z2 : ν.1 271 0 0 0 = 0 := by rw [hν, sI_o (by decide), sI_s]
  have z3 : ν.1 272 0 0 0 = 0 := by rw [hν, sI_s]
  have goν : ∀ x, DnR N p d nc nb e E ev ν s x → DnR N p d nc nb e E ev μ s x := by
    rintro x ⟨μ', nc', nb', q1, q2, q3, q4, q5⟩
    exact ⟨μ', nc', nb', q1, pν.tr q2, q3, q4, q5⟩
  have nothing : ∀ x, x = some (0, ν) → sMeet E d ev s = (0, s) → DnR N p d nc nb e E ev ν s x := by
    intro x hx hm
    unfold DnR
    rw [hx, hm]
    exact ⟨ν, nc, nb, rfl, PnX.rf, Nat.le_succ _, Nat.le_succ _, hA⟩
  have hA' := hA
  obtain ⟨c, cm, a1, a2, -, -, -⟩ := hA'
  have w0 : ν.1 275 0 0 p = s 87 0 := a1.wk
  have w1 : ν.1 276 0 0 p = s 88 0 := a1.aw
  have w2 : ν.1 279 0 0 p = s 89 0 := a1.sh
  have e229 : ν.1 229 0 0 e = ev.k := e0
  refine goν _ ?_
  unfold fM_done0 fM_noOffer
  rw [chk_t (inb_n he (by decide)), nI_clamp (by omega), show μ.1 230 0 0 e = nI p from hep, show μ.1 231 0 0 e = ev.n from hen, nmx, nmx, nmx, nmx, nmx, nmx, bn1_e, ← hν, e229]
  obtain ⟨k, k7, hk⟩ := hk
  rw [hk]
  rcases (show k = 0 ∨ k = 1 ∨ k = 2 ∨ k = 3 ∨ k = 4 ∨ k = 5 ∨ k = 6 ∨ k = 7 by omega) with rfl | rfl | rfl | rfl | rfl | rfl | rfl | rfl
  · -- leaves
    rw [if_pos (by decide), chk_t (inb_n hp (by decide)), nI_clamp (n := p) (by omega), w0]
    by_cases c1 : s 87 0 = 0
    · rw [if_pos c1]
      refine nothing _ rfl ?_
      unfold sMeet
      rw [hk, if_pos (by decide), if_pos c1]
    · rw [if_neg c1, nmx, nmx, nmx, nmx]
      obtain ⟨τ, hτ⟩ : ∃ τ, τ = sI (sI (sI (sI ν 275 0 0 p 0) 279 0 0 p 0) 281 0 0 p (nI d)) 283 0 0 p ev.n := ⟨_, rfl⟩
      have n6 : (sI (sI ν 275 0 0 p (0 &&& 1)) 279 0 0 p 0).1 269 0 0 0 = nI d := (sI_o (by decide)).trans ((sI_o (by decide)).trans h.n)
      rw [n6, show ((0 : Int32) &&& 1) = 0 by decide, ← hτ]
      have pτ : PnX p nc nc nb nb ν τ := by
        rw [hτ]
        exact (((PnX.s (by decide)).tr (PnX.s (by decide))).tr (PnX.s (by decide))).tr (PnX.s (by decide))
      have Aτ : RfA p d τ (uL (uL (uL (uL s 87 0 0) 89 0 0) 91 0 (nI d)) 92 0 ev.n) nc nb := by
        rw [hτ]
        exact RfA.set (g := 283) (by decide) (by omega) (RfA.set (g := 281) (by decide) (by omega) (RfA.set (g := 279) (by decide) (by omega) (RfA.set (g := 275) (by decide) (by omega) hA)))
      have fτ : ∀ f i, f < 275 ∨ f = 278 → τ.1 f 0 0 i = ν.1 f 0 0 i := fun f i q => by rw [hτ, sI_o (by omega), sI_o (by omega), sI_o (by omega), sI_o (by omega)]
      have vm := (Cx.vm (by omega) (h.pn pτ) Aτ ((fτ _ _ (by decide)).trans hwho)).congr (vO_0 ((fτ _ _ (by decide)).trans z1) ((fτ _ _ (by decide)).trans z2) ((fτ _ _ (by decide)).trans z3))
      obtain ⟨μ1, nb', i1, i2, i3, i4, i5⟩ := bar_A (e := e) hN (h.pn pτ) Aτ vm he hnb
      rw [fτ _ _ (by decide), ec] at i5
      rw [i1, bn1_e]
      unfold DnR sMeet
      rw [hk, if_pos (by decide), if_neg c1]
      exact ⟨μ1, nc, nb', rfl, pτ.tr i3, Nat.le_succ _, i4, i5⟩
  · -- hired
    rw [if_neg (by decide), if_pos (by decide), chk_t (inb_n hp (by decide)), nI_clamp (n := p) (by omega), w0, w1]
    have em : sMeet E d ev s = if s 87 0 = 0 then (if s 88 0 = 0 then (1, sClose d (uL (uL s 87 0 1) 93 0 ev.n)) else (0, s)) else (0, s) := by
      unfold sMeet
      rw [hk, if_neg (by decide), if_pos (by decide)]
    by_cases c1 : s 87 0 = 0
    · rw [if_pos c1]
      by_cases c2 : s 88 0 = 0
      · rw [if_pos c2, nmx, nmx, show ((1 : Int32) &&& 1) = 1 by decide]
        have Aτ : RfA p d (sI (sI ν 275 0 0 p 1) 280 0 0 p ev.n) (uL (uL s 87 0 1) 93 0 ev.n) nc nb := RfA.set (g := 280) (by decide) (by omega) (RfA.set (g := 275) (by decide) (by omega) hA)
        have pτ : PnX p nc nc nb nb ν (sI (sI ν 275 0 0 p 1) 280 0 0 p ev.n) := (PnX.s (by decide)).tr (PnX.s (by decide))
        obtain ⟨μ1, i1, i2, i3, -, -⟩ := close_M (N := N) Aτ hp hd (h.pn pτ).n
        unfold DnR
        rw [i1, bn1_e, em, if_pos c1, if_pos c2]
        exact ⟨μ1, nc, nb, rfl, pτ.tr i2, Nat.le_succ _, Nat.le_succ _, i3⟩
      · rw [if_neg c2]
        exact nothing _ rfl (by rw [em, if_pos c1, if_neg c2])
    · rw [if_neg c1]
      exact nothing _ rfl (by rw [em, if_neg c1])
  · -- signs
    rw [if_neg (by decide), if_neg (by decide), if_pos (by decide), chk_t (inb_n hp (by decide)), nI_clamp (n := p) (by omega), w0, w2]
    by_cases c1 : s 87 0 = 0
    · rw [if_pos c1]
      exact d185 hN h hA (by rw [hk]; rfl) hnc (Or.inl c1)
    · rw [if_neg c1]
      by_cases c2 : s 89 0 = 0
      · rw [if_pos c2]
        refine nothing _ rfl ?_
        unfold sMeet
        rw [hk, if_neg (by decide), if_neg (by decide), if_pos (by decide), if_neg (fun q => by rcases q.1 with y | y; exact c1 y; exact y c2)]
      · rw [if_neg c2]
        exact d185 hN h hA (by rw [hk]; rfl) hnc (Or.inr c2)
  · -- goes away
    rw [if_neg (by decide), if_neg (by decide), if_neg (by decide), if_pos (by decide), chk_t (inb_n hp (by decide)), nI_clamp (n := p) (by omega), w1]
    have em : sMeet E d ev s = if s 88 0 = 0 then (1, uL (sClose d s) 88 0 1) else (0, s) := by
      unfold sMeet
      rw [hk, if_neg (by decide), if_neg (by decide), if_neg (by decide), if_pos (by decide)]
    by_cases c1 : s 88 0 = 0
    · obtain ⟨μ1, i1, i2, i3, -, -⟩ := close_M (N := N) hA hp hd h.n
      unfold DnR
      rw [if_pos c1, i1, bn1_e, nmx, show ((1 : Int32) &&& 1) = 1 by decide, em, if_pos c1]
      exact ⟨_, nc, nb, rfl, i2.tr (PnX.s (by decide)), Nat.le_succ _, Nat.le_succ _, RfA.set (g := 276) (by decide) (by omega) i3⟩
    · rw [if_neg c1]
      exact nothing _ rfl (by rw [em, if_neg c1])
  · -- comes back
    rw [if_neg (by decide), if_neg (by decide), if_neg (by decide), if_neg (by decide), if_pos (by decide), chk_t (inb_n hp (by decide)), nI_clamp (n := p) (by omega), w1]
    have em : sMeet E d ev s = if s 88 0 = 0 then (0, s) else (1, uL s 88 0 0) := by
      unfold sMeet
      rw [hk, if_neg (by decide), if_neg (by decide), if_neg (by decide), if_neg (by decide), if_pos (by decide)]
    by_cases c1 : s 88 0 = 0
    · rw [if_pos c1]
      exact nothing _ rfl (by rw [em, if_pos c1])
    · unfold DnR
      rw [if_neg c1, nmx, show ((0 : Int32) &&& 1) = 0 by decide, em, if_neg c1]
      exact ⟨_, nc, nb, rfl, PnX.s (by decide), Nat.le_succ _, Nat.le_succ _, RfA.set (g := 276) (by decide) (by omega) hA⟩
  · -- has means
    rw [if_neg (by decide), if_neg (by decide), if_neg (by decide), if_neg (by decide), if_neg (by decide), if_pos (by decide), chk_t (inb_n hp (by decide)), nI_clamp (n := p) (by omega), nmx]
    have em : sMeet E d ev s = (1, uL s 94 0 ev.n) := by
      unfold sMeet
      rw [hk, if_neg (by decide), if_neg (by decide), if_neg (by decide), if_neg (by decide), if_neg (by decide), if_pos (by decide)]
    unfold DnR
    rw [em]
    exact ⟨_, nc, nb, rfl, PnX.s (by decide), Nat.le_succ _, Nat.le_succ _, RfA.set (g := 282) (by decide) (by omega) hA⟩
  · -- goes short
    rw [if_neg (by decide), if_neg (by decide), if_neg (by decide), if_neg (by decide), if_neg (by decide), if_neg (by decide), if_pos (by decide), chk_t (inb_n hp (by decide)), nI_clamp (n := p) (by omega), w0, w2]
    have em : sMeet E d ev s = if s 87 0 = 0 then (0, s) else if ev.n = 6 then (if s 89 0 = 0 then (0, s) else (1, sClose d (uL s 89 0 0))) else (1, uL s 89 0 ev.n) := by
      unfold sMeet
      rw [hk, if_neg (by decide), if_neg (by decide), if_neg (by decide), if_neg (by decide), if_neg (by decide), if_neg (by decide), if_pos (by decide)]
    by_cases c1 : s 87 0 = 0
    · rw [if_pos c1]
      exact nothing _ rfl (by rw [em, if_pos c1])
    · rw [if_neg c1]
      unfold fM_done0_305 fM_done0_321
      by_cases c2 : ev.n = 6
      · rw [if_pos c2]
        by_cases c3 : s 89 0 = 0
        · rw [if_pos c3]
          exact nothing _ rfl (by rw [em, if_neg c1, if_pos c2, if_pos c3])
        · have pτ : PnX p nc nc nb nb ν (sI ν 279 0 0 p 0) := PnX.s (by decide)
          obtain ⟨μ1, i1, i2, i3, -, -⟩ := close_M (N := N) (RfA.set (g := 279) (f := 89) (x := 0) (by decide) (by omega) hA) hp hd (h.pn pτ).n
          unfold DnR
          rw [if_neg c3, if_pos c2, chk_t (inb_n hp (by decide)), nI_clamp (n := p) (by omega), nmx, if_pos c2, i1, bn1_e, em, if_neg c1, if_pos c2, if_neg c3]
          exact ⟨μ1, nc, nb, rfl, pτ.tr i2, Nat.le_succ _, Nat.le_succ _, i3⟩
      · unfold DnR
        rw [if_neg c2, if_neg c2, chk_t (inb_n hp (by decide)), nI_clamp (n := p) (by omega), nmx, if_neg c2, em, if_neg c1, if_neg c2]
        exact ⟨_, nc, nb, rfl, PnX.s (by decide), Nat.le_succ _, Nat.le_succ _, RfA.set (g := 279) (by decide) (by omega) hA⟩
  · -- refuses
    rw [if_neg (by decide), if_neg (by decide), if_neg (by decide), if_neg (by decide), if_neg (by decide), if_neg (by decide), if_neg (by decide), if_pos (by decide), openOf_e a2 hp, bn1_e]
    have em : sMeet E d ev s = if s 85 0 = 0 then (0, s) else if ev.ok = 0 then (0, s) else (1, if ev.cl = 0 then sBar E d (vR (v4 (vS E d s)) ev.o) s else s) := by
      unfold sMeet
      rw [hk, if_neg (by decide), if_neg (by decide), if_neg (by decide), if_neg (by decide), if_neg (by decide), if_neg (by decide), if_neg (by decide), if_pos (by decide)]
    by_cases c1 : s 85 0 = 0
    · rw [if_pos ((open_m1 a2).mpr c1)]
      exact nothing _ rfl (by rw [em, if_pos c1])
    · rw [if_neg (fun q => c1 ((open_m1 a2).mp q))]
      obtain ⟨o, w, o1, o2, o3, o4, o5, o6, o7, o8⟩ := (h7 (by rw [hk]; rfl)).mv (μ' := ν) (fun f i q => fν f i (by omega) (by omega))
      rw [o3, chk_t (inb_n o1 (by decide)), nI_clamp (n := o) (by omega)]
      by_cases c2 : ν.1 325 0 0 o = nI p
      · rw [if_pos c2] at o4
        rw [if_pos (show ν.1 325 0 0 o = nI p from c2)]
        by_cases c3 : ν.1 324 0 0 o = 0
        · rw [if_pos c3] at o4
          rw [if_pos (show ν.1 324 0 0 o = 0 from c3)]
          exact nothing _ rfl (by rw [em, if_neg c1, if_pos o4])
        · rw [if_neg c3] at o4
          obtain ⟨μ1, nb', i1, i2, i3, i4⟩ := refuses_M (ev := ev) hN h hA hwho he hnb ec o1 o2 o5 o6 o7 o8
          unfold DnR
          rw [if_neg (show ¬ ν.1 324 0 0 o = 0 from c3), i1, bn1_e, em, if_neg c1, if_neg (by rw [o4]; decide)]
          exact ⟨μ1, nc, nb', rfl, i2, Nat.le_succ _, i3, i4⟩
      · rw [if_neg c2] at o4
        rw [if_neg (show ¬ ν.1 325 0 0 o = nI p from c2)]
        exact nothing _ rfl (by rw [em, if_neg c1, if_pos o4])
