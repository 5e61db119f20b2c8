/-! a clause read by both -/
theorem m24 {t k : Nat} : 24 * nI t + nI k = nI (24 * t + k) := by
  rw [show (24 : Int32) * nI t = nI (24 * t) from (Int32.ofNat_mul 24 t).symm, nI_add]
theorem ins37 {N t k C : Nat} {x : Int32} {μ μ4 : St} (hb : μ.1 255 0 0 0 = 0) (ht : μ.1 259 0 0 0 = nI t) (hc : μ.1 238 0 0 t = nI k) (h17 : t < 17) (hk : k < 24) (hs : fM_step N (sI (sI μ 238 0 0 t (nI (k + 1))) 239 0 0 (24 * t + k) x) = some μ4) (hC : μ4.1 258 0 0 0 = nI C) :
    fM_readClause_37 N x μ = (fun σ6 : St => if x = 0 then bn1 (fM_readTrades N (nI (24 * t + k)) σ6) fun σ16 => fM_readClause_278 N (nI (24 * t + k)) σ16 else if x = 1 then mSet N (24 * t + k) σ6 else if x = 6 then mLike N (24 * t + k) σ6 else bn1 (mUnl N (24 * t + k) σ6) fun μ1 => fM_readClause_278 N (nI (24 * t + k)) μ1) (sI (sI μ4 242 0 0 (24 * t + k) (nI C)) 243 0 0 (24 * t + k) (nI C)) := by
  unfold fM_readClause_37
  rw [if_pos hb, ht, chk_t (inb_n h17 (by decide)), nI_clamp (by omega), hc, m24, nmx, nmx, chk_t (inb_n (by omega) (by decide)), nmx, nI_clamp (by omega), nI_1, hs, bn1_e, nmx, hC, nmx, sI_o (by decide), hC]
  dsimp only
  by_cases c0 : x = 0
  · rw [if_pos c0, if_pos c0]
  · rw [if_neg c0, if_neg c0]
    by_cases c1 : x = 1
    · rw [if_pos c1, if_pos c1]
      unfold mSet
      simp only [nmx]
    · rw [if_neg c1, if_neg c1]
      unfold mLike mUnl
      by_cases c6 : x = 6
      · simp only [if_pos c6]
      · simp only [if_neg c6, bn1_as, bn1_ite, bn1_e, nmx]
theorem fil_le {p : Cl → Bool} {l : List Cl} : (l.filter p).length ≤ l.length := List.length_filter_le p l
theorem clause_e {N n t k : Nat} {tp : Nat → Nat} {σ μ : St} {tk : Tok} {b a L C : Nat} {l : List Cl} (hN : 2000 ≤ N) (hl : l.length = k) (hk : k ≤ 24) (g : GS tp n t σ μ tk b a L C) (hL : L ≤ b) (hC : 2 * C ≤ 3 * b) (hT : Txt t l L C σ μ) (hcl : μ.1 238 0 0 t = nI k) :
    ∃ σ' μ', fReader_readClause N (nI k) σ = some σ' ∧ fM_readClause N μ = some μ' ∧ TFX t σ σ' ∧ TFM t μ μ' ∧ (BS t σ' μ' ∨ ∃ c tk' b' a' L' C', k < 24 ∧ GS tp n t σ' μ' tk' b' a' L' C' ∧ b < b' ∧ L' ≤ b' ∧ 2 * C' ≤ 3 * b' ∧ Txt t (l ++ [c]) L' C' σ' μ' ∧ μ'.1 238 0 0 t = nI (k + 1)) := by
  have ht := g.ps.ht
  have h1 := g.ps.kX
  have h2 := g.ps.kM
  obtain ⟨n1, n2, n3⟩ := g.ps.bn
  have r37 : ∀ x μ1 σ1, BS t σ1 μ1 → fM_readClause_37 N x μ1 = some μ1 := fun x μ1 σ1 h => if_neg h.y
  have no : fReader_readClause N (nI k) σ = fReader_readClause_25 N σ → fM_clauseNow N μ = some (-1) → ∃ σ' μ', fReader_readClause N (nI k) σ = some σ' ∧ fM_readClause N μ = some μ' ∧ TFX t σ σ' ∧ TFM t μ μ' ∧ BS t σ' μ' := by
    intro e1 e2
    obtain ⟨σ', μ', g1, g2, g3, g4, g5⟩ := rfail_e (N := N) (k := 1) g (by omega) (by omega)
    refine ⟨σ', μ', ?_, ?_, (g4.mono flt_rdX).tX, (RM.tm (k := k) (C := C) (g5.mono flt_rdM).rm), g3⟩
    · rw [e1]
      unfold fReader_readClause_25
      rw [show fReader_fail N 1 σ = some σ' from g1, bn1_e]
    · unfold fM_readClause
      rw [e2, bn1_e, if_pos rfl, show fM_wrong N 1 μ = some μ' from g2, bn1_e, r37 _ _ _ g3]
  have no2 : fReader_readClause N (nI k) σ = fReader_readClause_25 N σ → fM_clauseNow N μ = some (-1) → ∃ σ' μ', fReader_readClause N (nI k) σ = some σ' ∧ fM_readClause N μ = some μ' ∧ TFX t σ σ' ∧ TFM t μ μ' ∧ (BS t σ' μ' ∨ ∃ c tk' b' a' L' C', k < 24 ∧ GS tp n t σ' μ' tk' b' a' L' C' ∧ b < b' ∧ L' ≤ b' ∧ 2 * C' ≤ 3 * b' ∧ Txt t (l ++ [c]) L' C' σ' μ' ∧ μ'.1 238 0 0 t = nI (k + 1)) := by
    intro e1 e2
    obtain ⟨σ', μ', q1, q2, q3, q4, q5⟩ := no e1 e2
    exact ⟨σ', μ', q1, q2, q3, q4, Or.inl q5⟩
  have nt : σ.1 117 0 0 0 ≠ 1 → fReader_readClause N (nI k) σ = fReader_readClause_25 N σ := fun e => by
    unfold fReader_readClause
    rw [if_neg e]
  rcases tk.cs with rfl | ⟨w, rfl⟩ | ⟨l', v, rfl⟩ | rfl | ⟨d, rfl⟩
  · exact no2 (nt (by rw [show σ.1 117 0 0 0 = 0 from h1]; decide)) (cn_no (by omega) (Or.inr (by rw [show μ.1 250 0 0 0 = 0 from h2]; decide)))
  · rcases cn_e (N := N) (by omega) g with ⟨wh, w1, w2, w3⟩ | ⟨w1, w2⟩
    · have eX : fReader_readClause N (nI k) σ = if nI k < 24 then bn1 (fReader_advance N σ) fun σ2 => (if nI wh = 0 then bn1 (fReader_readInsured N σ2) fun σ3 => fReader_readClause_114 N σ3 else if nI wh = 1 then bn1 (fReader_readParam N σ2) fun σ4 => fReader_readClause_114 N σ4 else if nI wh = 6 then bn1 (fReader_readLike N σ2) fun σ5 => fReader_readClause_114 N σ5 else bn1 (fReader_readWorth N (nI wh) σ2) fun σ6 => fReader_readClause_114 N σ6) else bn1 (fReader_fail N 2 σ) fun σ7 => some σ7 := by
        unfold fReader_readClause
        rw [if_pos h1.1, h1.2.1, w2, if_neg (m1_ne (by omega)), if_pos (show nI wh ≤ 6 from nI_le (b := 6) w1 (by omega)), nmx]
      have eM : fM_readClause N μ = if nI k = 24 then bn1 (fM_wrong N 2 μ) fun σ2 => fM_readClause_37 N (nI wh) σ2 else fM_readClause_37 N (nI wh) μ := by
        unfold fM_readClause
        rw [w3, bn1_e, if_neg (m1_ne (by omega)), g.ps.tM, chk_t (inb_n ht (by decide)), nI_clamp (by omega), hcl]
      rw [eX, eM]
      by_cases hk4 : k = 24
      · obtain ⟨σ', μ', g1, g2, g3, g4, g5⟩ := rfail_e (N := N) (k := 2) g (by omega) (by omega)
        refine ⟨σ', μ', ?_, ?_, (g4.mono flt_rdX).tX, (RM.tm (k := k) (C := C) (g5.mono flt_rdM).rm), Or.inl g3⟩
        · rw [if_neg (show ¬ nI k < 24 from nI_nlt (b := 24) (by omega) (by omega)), show fReader_fail N 2 σ = some σ' from g1, bn1_e]
        · rw [if_pos (by rw [hk4]; rfl), show fM_wrong N 2 μ = some μ' from g2, bn1_e, r37 _ _ _ g3]
      · have hk3 : k < 24 := by omega
        rw [if_pos (show nI k < 24 from nI_lt (b := 24) hk3 (by omega)), if_neg (show ¬ nI k = 24 from fun q => hk4 ((nI_eq (b := 24) (by omega) (by omega)).mp q))]
        have hba := g.lt nofun
        have gA : GS tp n t σ (sI (sI μ 238 0 0 t (nI (k + 1))) 239 0 0 (24 * t + k) (nI wh)) (Tok.word w) b a L C := (g.wM (by decide)).wM (by decide)
        obtain ⟨tk2, b2, a2, σ2, μ2, k1, k2, k3, k4, k5, k6⟩ := rstep_e hN gA
        have gB : GS tp n t σ2 (sI (sI μ2 242 0 0 (24 * t + k) (nI C)) 243 0 0 (24 * t + k) (nI C)) tk2 b2 a2 L C := (k3.wM (by decide)).wM (by decide)
        rw [k1, bn1_e, ins37 g.g0 g.ps.tM hcl ht hk3 k2 k3.hC]
        have pX : Fx rdX σ σ2 := lexX_rdX k5
        have pM : RM t k C (sI μ 238 0 0 t (nI (k + 1))) (sI (sI μ2 242 0 0 (24 * t + k) (nI C)) 243 0 0 (24 * t + k) (nI C)) := ((((RM.s (by decide)).tr (lexM_rdM k6).rm).tr (RM.s (by decide))).tr (RM.s (by decide)))
        generalize hμ3 : sI (sI μ2 242 0 0 (24 * t + k) (nI C)) 243 0 0 (24 * t + k) (nI C) = μ3 at gB pM
        have c3 : μ3.1 238 0 0 t = nI (k + 1) := by
          rw [← hμ3, sI_o (by decide), sI_o (by decide), k6.1 _ _ _ _ (by decide), sI_o (by decide), sI_s]
        have is3 : μ3.1 239 0 0 (24 * t + k) = nI wh := by
          rw [← hμ3, sI_o (by decide), sI_o (by decide), k6.1 _ _ _ _ (by decide), sI_s]
        have cf3 : μ3.1 242 0 0 (24 * t + k) = nI C := by
          rw [← hμ3, sI_o (by decide), sI_s]
        obtain ⟨hT1, hT2⟩ := hT
        have hA2 : ActX t l σ2 := by
          have s : ∀ f i, 3 ≤ f → f ≤ 12 → σ2.1 f t 0 i = σ.1 f t 0 i := fun f i q1 q2 => pX.1 f t 0 i (by simp [rdX, lexX]; omega)
          obtain ⟨h1, h2, h3, h4, h5, h6, h7, h8, h9⟩ := hT2
          exact ⟨(s _ _ (by decide) (by decide)).trans h1, fun k hk => (s _ _ (by decide) (by decide)).trans (h2 k hk), (s _ _ (by decide) (by decide)).trans h3, (s _ _ (by decide) (by decide)).trans h4, (s _ _ (by decide) (by decide)).trans h5, (s _ _ (by decide) (by decide)).trans h6, fun i c hc => (s _ _ (by decide) (by decide)).trans (h7 i c hc), (s _ _ (by decide) (by decide)).trans h8, fun i c hc => ⟨(s _ _ (by decide) (by decide)).trans (h9 i c hc).1, (s _ _ (by decide) (by decide)).trans (h9 i c hc).2⟩⟩
        have hT' : Txt t l L C σ (sI μ 238 0 0 t (nI (k + 1))) := Txt.c ⟨hT1, hT2⟩
        have ckX : CK t L σ σ2 := pX.ck (by decide)
        have tm : ∀ μ', RM t k C μ3 μ' → TFM t μ μ' := fun μ' q => TFM.c.tr (pM.tr q).tm
        -- what every kind of clause comes to
        have fin : ∀ (σ' μ' : St) (c : Cl) (tk' : Tok) (b' a' L' C' : Nat), TFX t σ2 σ' → RM t k C μ3 μ' → CK t L σ2 σ' → GS tp n t σ' μ' tk' b' a' L' C' → b2 ≤ b' → L' ≤ b' → 2 * C' ≤ 3 * b' → L ≤ L' → C ≤ C' → ClOk c → ClX t L' c σ' → ClM t C' k c μ' → ActX t (l ++ [c]) σ' →
            (TFX t σ σ' ∧ TFM t μ μ' ∧ (BS t σ' μ' ∨ ∃ c tk' b' a' L' C', k < 24 ∧ GS tp n t σ' μ' tk' b' a' L' C' ∧ b < b' ∧ L' ≤ b' ∧ 2 * C' ≤ 3 * b' ∧ Txt t (l ++ [c]) L' C' σ' μ' ∧ μ'.1 238 0 0 t = nI (k + 1))) := by
          intro σ' μ' c tk' b' a' L' C' q1 q2 q3 q6 q7 q8 q9 q10 q11 q12 q13 q14 q15
          refine ⟨pX.tX.tr q1, tm μ' q2, Or.inr ⟨c, tk', b', a', L', C', hk3, q6, by omega, q8, q9, ?_, (q2.2.1 t).trans c3⟩⟩
          subst hl
          exact hT'.app (ckX.tr q3 (Nat.le_refl _)) (pM.tr q2) q10 q11 q12 q13 q14 q15
        have bad : ∀ (σ' μ' : St), TFX t σ2 σ' → RM t k C μ3 μ' → BS t σ' μ' → (TFX t σ σ' ∧ TFM t μ μ' ∧ (BS t σ' μ' ∨ ∃ c tk' b' a' L' C', k < 24 ∧ GS tp n t σ' μ' tk' b' a' L' C' ∧ b < b' ∧ L' ≤ b' ∧ 2 * C' ≤ 3 * b' ∧ Txt t (l ++ [c]) L' C' σ' μ' ∧ μ'.1 238 0 0 t = nI (k + 1))) := fun σ' μ' q1 q2 q3 => ⟨pX.tX.tr q1, tm μ' q2, Or.inl q3⟩
        have sl : (l.filter (isW 5)).length < 24 ∧ (l.filter (isW 6)).length < 24 := by
          have f5 := fil_le (p := isW 5) (l := l)
          have f6 := fil_le (p := isW 6) (l := l)
          omega
        have A6 := hA2.2.2.2.2.2.1
        have A8 := hA2.2.2.2.2.2.2.2.1
        dsimp only
        rcases (by omega : wh = 0 ∨ wh = 1 ∨ wh = 6 ∨ (2 ≤ wh ∧ wh ≤ 5)) with rfl | rfl | rfl | hw
        · rw [if_pos (by decide), if_pos (by decide)]
          obtain ⟨σ4, μ4, i1, i2, i3, i4, i5, i6⟩ := ins_e (k := k) hN hk3 gB (by omega)
          rw [i1, i2, bn1_e, bn1_e]
          rcases i6 with i6 | ⟨m', tk5, b5, a5, i6, i7, i8, i9, i10, i11, i12, i13⟩
          · obtain ⟨t1, t2, t3⟩ := tail_B (N := N) (k := k) i6 hk3
            exact ⟨σ4, _, t1, t2, bad _ _ i3 (i5.tr (RM.s (by decide))) t3⟩
          · obtain ⟨m1, m2, m3⟩ := i8.ps.bn
            obtain ⟨σ5, μ5, t1, t2, t3, t4, t5⟩ := tail_G (k := k) hN i8 (by omega) hk3
            have r5 : RM t k C μ3 μ5 := (i5.tr (RM.s (by decide))).tr t4.rm
            refine ⟨σ5, μ5, t1, t2, ?_⟩
            rcases t5 with t5 | ⟨tk6, b6, a6, t5, t6, t7⟩
            · exact bad _ _ (i3.tr t3.tX) r5 t5
            · refine fin _ _ (0, m', 0, 0, 0, Ex.num 0, none) tk6 b6 a6 L C (i3.tr t3.tX) r5 (i4.tr (t3.ck (L := L) (by decide)) (Nat.le_refl _)) t5 (by omega) (by omega) (by omega) (Nat.le_refl _) (Nat.le_refl _) ⟨(by decide : 0 ≤ 6), fun _ => ⟨i6, i7⟩, nofun, nofun, fun q => absurd (show 2 ≤ 0 from q) (by decide)⟩ (fun q => absurd (show 2 ≤ 0 from q) (by decide)) ⟨?_, fun _ => ?_, nofun, nofun, fun q => absurd (show 2 ≤ 0 from q) (by decide)⟩ (act0 hA2 rfl (i12.tr t3.sa) ?_)
              · show μ5.1 239 0 0 (24 * t + k) = nI 0
                rw [t4.1 _ _ _ _ (by decide), sI_o (by decide), i13 _ (by decide) (by decide) (by decide), is3]
              · show μ5.1 240 0 0 (24 * t + k) = nI m'
                rw [t4.1 _ _ _ _ (by decide), sI_o (by decide), i11]
              · show σ5.1 4 t 0 0 = nI m'
                rw [t3.1 _ _ _ _ (by decide), i10]
        · rw [if_neg (by decide), if_pos (by decide), if_neg (by decide), if_pos (by decide)]
          obtain ⟨σ4, μ4, i1, i2, i3, i4, i5, i6⟩ := set_e (k := k) hN hk3 gB (by omega)
          refine ⟨σ4, μ4, i1, i2, ?_⟩
          rcases i6 with i6 | ⟨p, v, tk5, b5, a5, i6, i7, i8, i9, i10, i11, i12, i13, i14, i15⟩
          · exact bad _ _ i3 i5 i6
          · refine fin _ _ (1, p, v, 0, 0, Ex.num 0, none) tk5 b5 a5 L C i3 i5 i4 i8 i9 (by omega) (by omega) (Nat.le_refl _) (Nat.le_refl _) ⟨(by decide : 1 ≤ 6), nofun, fun _ => ⟨i6, i7⟩, nofun, fun q => absurd (show 2 ≤ 1 from q) (by decide)⟩ (fun q => absurd (show 2 ≤ 1 from q) (by decide)) ⟨i15.trans is3, nofun, fun _ => ⟨i13, i14⟩, nofun, fun q => absurd (show 2 ≤ 1 from q) (by decide)⟩ (act1 hA2 rfl i12 i10 i11)
        · rw [if_neg (by decide), if_neg (by decide), if_pos (by decide), if_neg (by decide), if_neg (by decide), if_pos (by decide)]
          obtain ⟨σ4, μ4, i1, i2, i3, i5, i6⟩ := like_e (k := k) hN hk3 A8 sl.2 gB (by omega) (by omega)
          refine ⟨σ4, μ4, i1, i2, ?_⟩
          rcases i6 with i6 | ⟨i4, tk5, b5, a5, e, v, j1, j2, j3, j4, j5, j6, j7, j8, j9, j10, j11, j12, j13, j14, j15, j16, j17, j18⟩
          · exact bad _ _ i3 i5 i6
          · refine fin _ _ (6, 0, v, L, C, e, none) tk5 b5 a5 _ _ i3 i5 i4 j1 j2 j3 j4 (by omega) (by omega) ⟨(by decide : 6 ≤ 6), nofun, nofun, fun _ => ⟨j7, rfl⟩, fun _ => ⟨j5, j6, nofun⟩⟩ (fun _ => ⟨j8, Nat.le_refl _⟩) ⟨?_, nofun, nofun, fun _ => j12, fun _ => ⟨?_, j10, ?_, j9, trivial, Nat.le_refl _⟩⟩ (act6 hA2 rfl rfl j14 j15 j16 j17 j18)
            · show μ4.1 239 0 0 (24 * t + k) = nI 6
              rw [j13 _ (by decide) (by decide) (by decide), is3]
            · show μ4.1 242 0 0 (24 * t + k) = nI C
              rw [j13 _ (by decide) (by decide) (by decide), cf3]
            · exact j11
        · have hw0 : ¬ nI wh = 0 := nI_ne0 (by omega) (by omega)
          have hw1 : ¬ nI wh = 1 := fun q => by have := (nI_eq (b := 1) (by omega) (by omega)).mp q; omega
          have hw6 : ¬ nI wh = 6 := fun q => by have := (nI_eq (b := 6) (by omega) (by omega)).mp q; omega
          rw [if_neg hw0, if_neg hw1, if_neg hw6, if_neg hw0, if_neg hw1, if_neg hw6]
          obtain ⟨σ4, μ4, i1, i2, i3, i5, i6⟩ := worth_e (k := k) hN hk3 hw A6 sl.1 gB (by omega) (by omega)
          refine ⟨σ4, μ4, i1, i2, ?_⟩
          rcases i6 with i6 | ⟨i4, tk5, b5, a5, e, u, j1, j2, j3, j4, j5, j6, j7, j8, j9, j10, j11, j12, j13, j14, j15, j16, j17⟩
          · exact bad _ _ i3 i5 i6
          · refine fin _ _ (wh, 0, 0, L, C, e, u) tk5 b5 a5 _ _ i3 i5 i4 j1 j2 j3 j4 (by omega) (by omega) ⟨by show wh ≤ 6; omega, fun q => by have : wh = 0 := q; omega, fun q => by have : wh = 1 := q; omega, fun q => by have : wh = 6 := q; omega, fun _ => ⟨j5, j6, j7⟩⟩ (fun _ => ⟨j8, Nat.le_refl _⟩) ⟨?_, fun q => by have : wh = 0 := q; omega, fun q => by have : wh = 1 := q; omega, fun q => by have : wh = 6 := q; omega, fun _ => ⟨?_, j11, j12, j9, j10, Nat.le_refl _⟩⟩ ?_
            · show μ4.1 239 0 0 (24 * t + k) = nI wh
              rw [j13 _ (by decide) (by decide) (by decide), is3]
            · show μ4.1 242 0 0 (24 * t + k) = nI C
              rw [j13 _ (by decide) (by decide) (by decide), cf3]
            · rcases (by omega : wh = 2 ∨ wh = 3 ∨ wh = 4 ∨ wh = 5) with rfl | rfl | rfl | rfl
              · exact act234 hA2 rfl (Or.inl ⟨rfl, rfl⟩) (j14 rfl).2 (j14 rfl).1
              · exact act234 hA2 rfl (Or.inr (Or.inl ⟨rfl, rfl⟩)) (j15 rfl).2 (j15 rfl).1
              · exact act234 hA2 rfl (Or.inr (Or.inr ⟨rfl, rfl⟩)) (j16 rfl).2 (j16 rfl).1
              · obtain ⟨z1, z2, z3, z4⟩ := j17 rfl
                exact act5 hA2 rfl rfl z1 z2 z3 z4
    · refine no2 ?_ w2
      unfold fReader_readClause
      rw [if_pos h1.1, h1.2.1]
      by_cases c : fidx 0 KWL w = -1
      · rw [if_pos c]
      · rw [if_neg c, if_neg (w1.resolve_left c)]
  · exact no2 (nt (by rw [h1.1]; decide)) (cn_no (by omega) (Or.inr (by rw [h2.1]; decide)))
  · exact no2 (nt (by rw [show σ.1 117 0 0 0 = 3 from h1]; decide)) (cn_no (by omega) (Or.inr (by rw [show μ.1 250 0 0 0 = 4 from h2]; decide)))
  · have hd := sn_lt h1.1
    exact no2 (nt (by rw [h1.2]; exact fun q => by have := (nI_eq (b := 1) (by omega) (by omega)).mp q; omega)) (cn_no (by omega) (Or.inr (by rw [h2.1]; decide)))
