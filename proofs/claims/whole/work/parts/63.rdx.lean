/-! reading expressions -/
theorem gS_e {N n t c : Nat} {tp : Nat → Nat} {σ μ : St} {tk : Tok} {b a L C : Nat} (h : GS tp n t σ μ tk b a L C) (hc : sn? c = true) :
    (tk = .sign c ∧ fReader_isSign N (nI c) σ = some 1 ∧ fM_isSign N (nI c) μ = some 1) ∨ (tk ≠ .sign c ∧ fReader_isSign N (nI c) σ = some 0 ∧ fM_isSign N (nI c) μ = some 0) := by
  have hcs : 40 ≤ c ∧ c < 100 := by
    have := sn_cases.mp hc
    omega
  have h1 := h.ps.kX
  have h2 := h.ps.kM
  unfold fReader_isSign fM_isSign
  rw [if_pos h.f0, if_pos h.g0]
  rcases tk.cs with rfl | ⟨w, rfl⟩ | ⟨l, v, rfl⟩ | rfl | ⟨d, rfl⟩
  · refine Or.inr ⟨nofun, ?_, ?_⟩
    · rw [show σ.1 117 0 0 0 = 0 from h1, if_neg (fun q => nI_ne0 (by omega) (by omega) q.symm)]
    · rw [show μ.1 250 0 0 0 = 0 from h2, if_neg (by decide)]
  · refine Or.inr ⟨nofun, ?_, ?_⟩
    · rw [h1.1, if_neg (fun q => by have := (nI_eq (a := 1) (by omega) (by omega)).mp q; omega)]
    · rw [h2.1, if_neg (by decide)]
  · refine Or.inr ⟨nofun, ?_, ?_⟩
    · rw [h1.1, if_neg (fun q => by have := (nI_eq (a := 2) (by omega) (by omega)).mp q; omega)]
    · rw [h2.1, if_neg (by decide)]
  · refine Or.inr ⟨nofun, ?_, ?_⟩
    · rw [show σ.1 117 0 0 0 = 3 from h1, if_neg (fun q => by have := (nI_eq (a := 3) (by omega) (by omega)).mp q; omega)]
    · rw [show μ.1 250 0 0 0 = 4 from h2, if_neg (by decide)]
  · have hd := sn_cases.mp h1.1
    rw [h1.2, h2.1, if_pos rfl, h2.2]
    by_cases e : d = c
    · subst e
      exact Or.inl ⟨rfl, if_pos rfl, if_pos rfl⟩
    · have e2 : ¬ nI d = nI c := fun q => e ((nI_eq (by omega) (by omega)).mp q)
      exact Or.inr ⟨fun q => e (Sum.inl.inj (Sum.inr.inj (Sum.inr.inj (Sum.inr.inj q)))), if_neg e2, if_neg e2⟩
theorem gW_e {N n t k ks : Nat} {tp : Nat → Nat} {σ μ : St} {tk : Tok} {b a L C : Nat} (hN : 200 ≤ N) (h : GS tp n t σ μ tk b a L C) (hk : k < 11) (hks : ks < 34) (he : KWL.getD k [] = sTab.getD ks []) :
    (tk = .word (sTab.getD ks []) ∧ fReader_isWord N (nI k) σ = some 1 ∧ fM_is N ks μ = some 1) ∨ (tk ≠ .word (sTab.getD ks []) ∧ fReader_isWord N (nI k) σ = some 0 ∧ fM_is N ks μ = some 0) := by
  have h1 := h.ps.kX
  have h2 := h.ps.kM
  have g : ∀ tk', tk' = tk → (∀ w, tk' ≠ .word w) → σ.1 117 0 0 0 ≠ 1 → μ.1 250 0 0 0 ≠ 1 → (tk = .word (sTab.getD ks []) ∧ fReader_isWord N (nI k) σ = some 1 ∧ fM_is N ks μ = some 1) ∨ (tk ≠ .word (sTab.getD ks []) ∧ fReader_isWord N (nI k) σ = some 0 ∧ fM_is N ks μ = some 0) := by
    intro tk' e hw e1 e2
    subst e
    refine Or.inr ⟨hw _, ?_, is0_e (by omega) (Or.inr e2)⟩
    unfold fReader_isWord
    rw [if_pos h.f0, if_neg e1]
  rcases tk.cs with rfl | ⟨w, rfl⟩ | ⟨l, v, rfl⟩ | rfl | ⟨d, rfl⟩
  · exact g _ rfl (fun _ => nofun) (by rw [show σ.1 117 0 0 0 = 0 from h1]; decide) (by rw [show μ.1 250 0 0 0 = 0 from h2]; decide)
  · have ew : fReader_isWord N (nI k) σ = some (if KWL.getD k [] = w then 1 else 0) := by
      unfold fReader_isWord
      rw [if_pos h.f0, if_pos h1.1, h1.2.1]
      have := fidx_is (w := w) (L := KWL) (k := k) (by decide) (by decide +kernel) (show k < 11 from hk)
      by_cases c : KWL.getD k [] = w
      · rw [if_pos (this.mpr c), if_pos c]
      · rw [if_neg (fun q => c (this.mp q)), if_neg c]
    have em : fM_is N ks μ = some (if sTab.getD ks [] = w then 1 else 0) := by
      have := isW_e (N := N) (ks := ks) hN rfl (tabs ks hks).1 (tabs ks hks).2 h.ps.lx h.ps.bM h.ps.eM h.ps.hba h.g0 h2.1
      rw [this, ← h2.2]
    rw [ew, em, he]
    by_cases c : sTab.getD ks [] = w
    · exact Or.inl ⟨by rw [c], by rw [if_pos c], by rw [if_pos c]⟩
    · exact Or.inr ⟨fun q => c (Sum.inl.inj (Sum.inr.inj q)).symm, by rw [if_neg c], by rw [if_neg c]⟩
  · exact g _ rfl (fun _ => nofun) (by rw [h1.1]; decide) (by rw [h2.1]; decide)
  · exact g _ rfl (fun _ => nofun) (by rw [show σ.1 117 0 0 0 = 3 from h1]; decide) (by rw [show μ.1 250 0 0 0 = 4 from h2]; decide)
  · have hd := sn_cases.mp h1.1
    exact g _ rfl (fun _ => nofun) (by rw [h1.2]; exact fun q => by have := (nI_eq (b := 1) (by omega) (by omega)).mp q; omega) (by rw [h2.1]; decide)
/-- any word of the table, asked by the reference -/
theorem gis_e {N n t ks : Nat} {tp : Nat → Nat} {σ μ : St} {w : List Nat} {b a L C : Nat} (hN : 200 ≤ N) (h : GS tp n t σ μ (.word w) b a L C) (hks : ks < 34) : fM_is N ks μ = some (if sTab.getD ks [] = w then 1 else 0) := by
  have h2 := h.ps.kM
  have := isW_e (N := N) (ks := ks) hN rfl (tabs ks hks).1 (tabs ks hks).2 h.ps.lx h.ps.bM h.ps.eM h.ps.hba h.g0 h2.1
  rw [this, ← h2.2]
theorem par_loop {N n t : Nat} {tp : Nat → Nat} {σ μ : St} {w : List Nat} {b a L C : Nat} (hN : 200 ≤ N) (h : GS tp n t σ μ (.word w) b a L C) : ∀ (d i m : Nat), i + d = 8 → d < m → fM_paramNow_2 N m (nI i) μ = some (fidx i (PARL.drop i) w) := by
  intro d
  induction d with
  | zero =>
    intro i m hi hm
    obtain ⟨m, rfl⟩ : ∃ q, m = q + 1 := ⟨m - 1, by omega⟩
    obtain rfl : i = 8 := by omega
    rfl
  | succ d ih =>
    intro i m hi hm
    obtain ⟨m, rfl⟩ : ∃ q, m = q + 1 := ⟨m - 1, by omega⟩
    have hd : PARL.drop i = sTab.getD i [] :: PARL.drop (i + 1) := by
      have : ∀ i, i < 8 → PARL.drop i = sTab.getD i [] :: PARL.drop (i + 1) := by decide +kernel
      exact this i (by omega)
    rw [hd]
    show (if 8 ≤ nI i then _ else chk (inb (nI i) 8) (bn1 (fM_is N (0 + (nI i).toNatClampNeg) μ) fun r1 => if r1 = 0 then fM_paramNow_2 N m (nI i + 1) μ else some (nI i))) = some (if sTab.getD i [] = w then nI i else fidx (i + 1) (PARL.drop (i + 1)) w)
    rw [if_neg (show ¬ (8 : Int32) ≤ nI i from nI_ge (a := i) (b := 8) (by omega) (by omega)), chk_t (inb_n (by omega) (by decide)), nI_clamp (by omega), Nat.zero_add, gis_e hN h (by omega), bn1_e, nI_1, ih (i + 1) m (by omega) (by omega)]
    by_cases c : sTab.getD i [] = w
    · rw [if_pos c, if_pos c, if_neg (by decide)]
    · rw [if_neg c, if_neg c, if_pos rfl]
theorem val_loop {N n t : Nat} {tp : Nat → Nat} {σ μ : St} {w : List Nat} {b a L C : Nat} (hN : 200 ≤ N) (h : GS tp n t σ μ (.word w) b a L C) : ∀ (d i m : Nat) (x : Int32), i + d = 12 → d < m → fM_valueNow_7 N m x (nI i) μ = some (if fidx i (FACTL.drop i) w = -1 then x else 8 + fidx i (FACTL.drop i) w) := by
  intro d
  induction d with
  | zero =>
    intro i m x hi hm
    obtain ⟨m, rfl⟩ : ∃ q, m = q + 1 := ⟨m - 1, by omega⟩
    obtain rfl : i = 12 := by omega
    rfl
  | succ d ih =>
    intro i m x hi hm
    obtain ⟨m, rfl⟩ : ∃ q, m = q + 1 := ⟨m - 1, by omega⟩
    have hd : FACTL.drop i = sTab.getD (8 + i) [] :: FACTL.drop (i + 1) ∧ ¬ sTab.getD (8 + i) [] ∈ FACTL.drop (i + 1) ∧ i + 1 + (FACTL.drop (i + 1)).length < 2 ^ 31 := by
      have : ∀ i, i < 12 → FACTL.drop i = sTab.getD (8 + i) [] :: FACTL.drop (i + 1) ∧ ¬ sTab.getD (8 + i) [] ∈ FACTL.drop (i + 1) ∧ i + 1 + (FACTL.drop (i + 1)).length < 2 ^ 31 := by decide +kernel
      exact this i (by omega)
    rw [hd.1]
    show (if 12 ≤ nI i then _ else chk (inb (nI i) 12) (bn1 (fM_is N (8 + (nI i).toNatClampNeg) μ) fun r1 => if r1 = 0 then fM_valueNow_7 N m x (nI i + 1) μ else nm (8 + nI i) fun y2 => fM_valueNow_7 N m y2 (nI i + 1) μ)) = some (if (if sTab.getD (8 + i) [] = w then nI i else fidx (i + 1) (FACTL.drop (i + 1)) w) = -1 then x else 8 + (if sTab.getD (8 + i) [] = w then nI i else fidx (i + 1) (FACTL.drop (i + 1)) w))
    rw [if_neg (show ¬ (12 : Int32) ≤ nI i from nI_ge (a := i) (b := 12) (by omega) (by omega)), chk_t (inb_n (by omega) (by decide)), nI_clamp (by omega), gis_e hN h (by omega), bn1_e, nI_1]
    by_cases c : sTab.getD (8 + i) [] = w
    · rw [if_pos c, if_pos c, if_neg (by decide), nmx, ih (i + 1) m _ (by omega) (by omega), if_neg (m1_ne (by omega))]
      have := (fidx_no (w := w) (FACTL.drop (i + 1)) (i + 1) hd.2.2).mpr (by rw [← c]; exact hd.2.1)
      rw [if_pos this]
    · rw [if_neg c, if_neg c, if_pos rfl, ih (i + 1) m _ (by omega) (by omega)]
theorem valNow_e {N n t : Nat} {tp : Nat → Nat} {σ μ : St} {w : List Nat} {b a L C : Nat} (hN : 200 ≤ N) (h : GS tp n t σ μ (.word w) b a L C) : fM_paramNow N μ = some (fidx 0 PARL w) ∧ fM_valueNow N μ = some (valI w) := by
  have e1 : fM_paramNow N μ = some (fidx 0 PARL w) := par_loop hN h 8 0 N (by omega) (by omega)
  refine ⟨e1, ?_⟩
  unfold fM_valueNow valI
  rw [e1, bn1_e]
  exact val_loop hN h 12 0 N _ (by omega) (by omega)
theorem par_no {N : Nat} {μ : St} (hN : 200 ≤ N) (h : μ.1 255 0 0 0 ≠ 0 ∨ μ.1 250 0 0 0 ≠ 1) : fM_paramNow N μ = some (-1) := by
  have : ∀ (d i m : Nat), i + d = 8 → d < m → fM_paramNow_2 N m (nI i) μ = some (-1) := by
    intro d
    induction d with
    | zero =>
      intro i m hi hm
      obtain ⟨m, rfl⟩ : ∃ q, m = q + 1 := ⟨m - 1, by omega⟩
      obtain rfl : i = 8 := by omega
      rfl
    | succ d ih =>
      intro i m hi hm
      obtain ⟨m, rfl⟩ : ∃ q, m = q + 1 := ⟨m - 1, by omega⟩
      show (if 8 ≤ nI i then _ else chk (inb (nI i) 8) (bn1 (fM_is N (0 + (nI i).toNatClampNeg) μ) fun r1 => if r1 = 0 then fM_paramNow_2 N m (nI i + 1) μ else some (nI i))) = _
      rw [if_neg (show ¬ (8 : Int32) ≤ nI i from nI_ge (a := i) (b := 8) (by omega) (by omega)), chk_t (inb_n (by omega) (by decide)), is0_e (by omega) h, bn1_e, if_pos rfl, nI_1, ih (i + 1) m (by omega) (by omega)]
  exact this 8 0 N (by omega) (by omega)
/-- a word that is a value: which one -/
theorem valI_v (w : List Nat) : valI w = -1 ∨ ∃ k, k < 20 ∧ valI w = nI k := by
  unfold valI
  by_cases c : fidx 0 FACTL w = -1
  · rw [if_pos c]
    by_cases c2 : w ∈ PARL
    · obtain ⟨j, -, h2, h3, -⟩ := fidx_ge PARL 0 (by decide +kernel) c2
      have : j < 8 := h2
      exact Or.inr ⟨j, by omega, h3⟩
    · exact Or.inl ((fidx_no PARL 0 (by decide +kernel)).mpr c2)
  · rw [if_neg c]
    have c2 : w ∈ FACTL := by
      apply Classical.byContradiction
      intro q
      exact c ((fidx_no FACTL 0 (by decide +kernel)).mpr q)
    obtain ⟨j, -, h2, h3, -⟩ := fidx_ge FACTL 0 (by decide +kernel) c2
    have : j < 12 := h2
    exact Or.inr ⟨8 + j, by omega, by rw [h3, show (8 : Int32) = nI 8 from rfl, nI_add]⟩
/-- a number is read by both, or it is a fault to both -/
theorem gnum_e {N n t : Nat} {tp : Nat → Nat} {σ μ : St} {tk : Tok} {b a L C : Nat} (hN : 2000 ≤ N) (h : GS tp n t σ μ tk b a L C) (hL : L ≤ 600) :
    ∃ r r' σ' μ', fReader_readNumber N σ = some (r, σ') ∧ fM_readNumber N μ = some (r', μ') ∧ Fx rdX σ σ' ∧ Fx rdM μ μ' ∧ (BS t σ' μ' ∨ ∃ v tk' b' a', v < 100000 ∧ r = nI v ∧ r' = nI v ∧ (∃ l, tk = .num l v ∧ l ≤ 5) ∧ GS tp n t σ' μ' tk' b' a' L C ∧ a ≤ b') := by
  have h1 := h.ps.kX
  have h2 := h.ps.kM
  have no : σ.1 117 0 0 0 ≠ 2 → μ.1 250 0 0 0 ≠ 2 → ∃ r r' σ' μ', fReader_readNumber N σ = some (r, σ') ∧ fM_readNumber N μ = some (r', μ') ∧ Fx rdX σ σ' ∧ Fx rdM μ μ' ∧ BS t σ' μ' := by
    intro e1 e2
    obtain ⟨σ', μ', g1, g2, g3, g4, g5⟩ := rfail_e (N := N) (k := 1) h hL (by omega)
    refine ⟨σ.1 120 0 0 0, μ'.1 252 0 0 0, σ', μ', ?_, ?_, g4.mono flt_rdX, g5.mono flt_rdM, g3⟩
    · unfold fReader_readNumber
      rw [nmx, if_neg e1, show fReader_fail N 1 σ = some σ' from g1, bn1_e]
    · unfold fM_readNumber
      rw [if_pos h.g0, if_neg e2, show fM_wrong N 1 μ = some μ' from g2, bn1_e]
      unfold fM_readNumber_43
      rw [nmx, if_neg g3.y]
  rcases tk.cs with rfl | ⟨w, rfl⟩ | ⟨l, v, rfl⟩ | rfl | ⟨d, rfl⟩
  · obtain ⟨r, r', σ', μ', k1, k2, k3, k4, k5⟩ := no (by rw [show σ.1 117 0 0 0 = 0 from h1]; decide) (by rw [show μ.1 250 0 0 0 = 0 from h2]; decide)
    exact ⟨r, r', σ', μ', k1, k2, k3, k4, Or.inl k5⟩
  · obtain ⟨r, r', σ', μ', k1, k2, k3, k4, k5⟩ := no (by rw [h1.1]; decide) (by rw [h2.1]; decide)
    exact ⟨r, r', σ', μ', k1, k2, k3, k4, Or.inl k5⟩
  · obtain ⟨n1, n2, n3⟩ := h.ps.bn
    obtain ⟨h2a, h2b, h2c, v', h2d, h2e, h2f⟩ := h2
    have el : μ.1 254 0 0 0 - μ.1 253 0 0 0 = nI l := by
      rw [h.ps.eM, h.ps.bM, h2b, show a = b + (a - b) by omega, nI_subl, show b + (a - b) - b = a - b by omega]
    by_cases c : l ≤ 5
    · obtain ⟨tk', b', a', σ', μ', k1, k2, k3, k4, k5, k6⟩ := rstep_e hN h
      refine ⟨nI v, nI v, σ', μ', ?_, ?_, k5.mono lexX_rd, k6.mono lexM_rd, Or.inr ⟨v, tk', b', a', h2c, rfl, rfl, ⟨l, rfl, c⟩, k3, k4⟩⟩
      · unfold fReader_readNumber
        rw [nmx, if_pos h1.1, h1.2, if_pos c, if_pos (show nI v < 100000 from nI_lt (b := 100000) h2c (by omega)), k1, bn1_e]
      · unfold fM_readNumber
        rw [if_pos h.g0, if_pos h2a, el, if_pos (show nI l ≤ 5 from nI_le (b := 5) c (by omega))]
        unfold fM_readNumber_43
        rw [nmx, if_pos h.g0, k2, bn1_e, h2e, h2f c]
    · obtain ⟨σ', μ', g1, g2, g3, g4, g5⟩ := rfail_e (N := N) (k := 2) h hL (by omega)
      refine ⟨nI 100000, μ'.1 252 0 0 0, σ', μ', ?_, ?_, g4.mono flt_rdX, g5.mono flt_rdM, Or.inl g3⟩
      · unfold fReader_readNumber
        rw [nmx, if_pos h1.1, h1.2, if_neg c, if_neg (show ¬ nI 100000 < 100000 by decide), show fReader_fail N 2 σ = some σ' from g1, bn1_e]
      · unfold fM_readNumber
        rw [if_pos h.g0, if_pos h2a, el, if_neg (show ¬ nI l ≤ 5 from nI_ge (a := 5) (b := l) (by omega) (by omega)), show fM_wrong N 2 μ = some μ' from g2, bn1_e]
        unfold fM_readNumber_43
        rw [nmx, if_neg g3.y]
  · obtain ⟨r, r', σ', μ', k1, k2, k3, k4, k5⟩ := no (by rw [show σ.1 117 0 0 0 = 3 from h1]; decide) (by rw [show μ.1 250 0 0 0 = 4 from h2]; decide)
    exact ⟨r, r', σ', μ', k1, k2, k3, k4, Or.inl k5⟩
  · have hd := sn_cases.mp h1.1
    obtain ⟨r, r', σ', μ', k1, k2, k3, k4, k5⟩ := no (by rw [h1.2]; exact fun q => by have := (nI_eq (b := 2) (by omega) (by omega)).mp q; omega) (by rw [h2.1]; decide)
    exact ⟨r, r', σ', μ', k1, k2, k3, k4, Or.inl k5⟩
def SubOk (fX fM : St → Option St) (tp : Nat → Nat) (n t H : Nat) : Prop := ∀ σ μ tk b a L C, GS tp n t σ μ tk b a L C → L ≤ b → 2 * C ≤ 3 * b → ∃ σ' μ', fX σ = some σ' ∧ fM μ = some μ' ∧ PostE tp H n t b L C σ μ σ' μ'
/-- what must stand: an end of a part, or a fault -/
theorem gneed_e {N n t c : Nat} {tp : Nat → Nat} {σ μ : St} {tk : Tok} {b a L C : Nat} (hN : 2000 ≤ N) (h : GS tp n t σ μ tk b a L C) (hL : L ≤ 600) (hc : sn? c = true) :
    ∃ σ' μ', fReader_expect N (nI c) σ = some σ' ∧ fM_need N (nI c) μ = some μ' ∧ Fx rdX σ σ' ∧ Fx rdM μ μ' ∧ (BS t σ' μ' ∨ ∃ tk' b' a', GS tp n t σ' μ' tk' b' a' L C ∧ a ≤ b' ∧ b < a) := by
  unfold fReader_expect fM_need
  rcases gS_e (N := N) h hc with ⟨e1, e2, e3⟩ | ⟨e1, e2, e3⟩
  · obtain ⟨tk', b', a', σ', μ', k1, k2, k3, k4, k5, k6⟩ := rstep_e hN h
    refine ⟨σ', μ', ?_, ?_, k5.mono lexX_rd, k6.mono lexM_rd, Or.inr ⟨tk', b', a', k3, k4, ?_⟩⟩
    · rw [e2, bn1_e, if_neg (by decide), k1, bn1_e]
    · rw [if_pos h.g0, e3, bn1_e, if_neg (by decide)]
      unfold fM_need_20
      rw [if_pos h.g0, k2, bn1_e]
    · rcases h.ps.hp with q | q
      · rw [e1] at q
        exact absurd q.1 nofun
      · exact q.2
  · obtain ⟨σ', μ', g1, g2, g3, g4, g5⟩ := rfail_e (N := N) (k := 1) h hL (by omega)
    refine ⟨σ', μ', ?_, ?_, g4.mono flt_rdX, g5.mono flt_rdM, Or.inl g3⟩
    · rw [e2, bn1_e, if_pos rfl, show fReader_fail N 1 σ = some σ' from g1, bn1_e]
    · rw [if_pos h.g0, e3, bn1_e, if_pos rfl, show fM_wrong N 1 μ = some μ' from g2, bn1_e]
      unfold fM_need_20
      rw [if_neg g3.y]
theorem BS.need {N t : Nat} {σ μ : St} (h : BS t σ μ) (k : Int32) : fReader_expect N k σ = some σ ∧ fM_need N k μ = some μ := by
  unfold fReader_expect fM_need fM_need_20
  rw [h.isX, bn1_e, if_pos rfl, h.fail, bn1_e, if_neg h.y, if_neg h.y]
  exact ⟨rfl, rfl⟩
theorem BS.fx {t : Nat} {σ μ : St} (h : BS t σ μ) : True := trivial
