/-! the tokens that both stand at -/
abbrev Tok : Type := Unit ⊕ List Nat ⊕ (Nat × Nat) ⊕ Nat ⊕ Unit
abbrev Tok.fin : Tok := .inl ()
abbrev Tok.word (w : List Nat) : Tok := .inr (.inl w)
abbrev Tok.num (l v : Nat) : Tok := .inr (.inr (.inl (l, v)))
abbrev Tok.sign (c : Nat) : Tok := .inr (.inr (.inr (.inl c)))
abbrev Tok.bad : Tok := .inr (.inr (.inr (.inr ())))
theorem Tok.cs : ∀ tk : Tok, tk = .fin ∨ (∃ w, tk = .word w) ∨ (∃ l v, tk = .num l v) ∨ tk = .bad ∨ ∃ c, tk = .sign c
  | .inl () => Or.inl rfl
  | .inr (.inl w) => Or.inr (Or.inl ⟨w, rfl⟩)
  | .inr (.inr (.inl (l, v))) => Or.inr (Or.inr (Or.inl ⟨l, v, rfl⟩))
  | .inr (.inr (.inr (.inl c))) => Or.inr (Or.inr (Or.inr (Or.inr ⟨c, rfl⟩)))
  | .inr (.inr (.inr (.inr ()))) => Or.inr (Or.inr (Or.inr (Or.inl rfl)))
def TokX (σ : St) : Tok → Prop
  | .inl () => σ.1 117 0 0 0 = 0
  | .inr (.inl w) => σ.1 117 0 0 0 = 1 ∧ σ.1 118 0 0 0 = fidx 0 KWL w ∧ σ.1 119 0 0 0 = valI w
  | .inr (.inr (.inl (l, v))) => σ.1 117 0 0 0 = 2 ∧ σ.1 120 0 0 0 = nI (if l ≤ 5 then v else 100000)
  | .inr (.inr (.inr (.inl c))) => sn? c = true ∧ σ.1 117 0 0 0 = nI c
  | .inr (.inr (.inr (.inr ()))) => σ.1 117 0 0 0 = 3
def TokM (tp : Nat → Nat) (μ : St) (b a : Nat) : Tok → Prop
  | .inl () => μ.1 250 0 0 0 = 0
  | .inr (.inl w) => μ.1 250 0 0 0 = 1 ∧ w = Wrd tp b a
  | .inr (.inr (.inl (l, v))) => μ.1 250 0 0 0 = 2 ∧ l = a - b ∧ v < 100000 ∧ ∃ v', v' ≤ 1000000 ∧ μ.1 252 0 0 0 = nI v' ∧ (l ≤ 5 → v' = v)
  | .inr (.inr (.inr (.inl c))) => μ.1 250 0 0 0 = 3 ∧ μ.1 251 0 0 0 = nI c
  | .inr (.inr (.inr (.inr ()))) => μ.1 250 0 0 0 = 4
abbrev PS (tp : Nat → Nat) (n t : Nat) (σ μ : St) (tk : Tok) (b a : Nat) : Prop := (LX tp n σ μ a) ∧ (b ≤ a) ∧ (σ.1 115 0 0 0 = nI b) ∧ (μ.1 253 0 0 0 = nI b) ∧ (μ.1 254 0 0 0 = nI a) ∧ (TokX σ tk) ∧ (TokM tp μ b a tk) ∧ (t < 17) ∧ (σ.1 121 0 0 0 = nI t) ∧ (μ.1 259 0 0 0 = nI t) ∧ ((tk = .fin ∧ b = n) ∨ (tk ≠ .fin ∧ b < a))
theorem PS.lx {tp : Nat → Nat} {n t : Nat} {σ μ : St} {tk : Tok} {b a : Nat} (h : PS tp n t σ μ tk b a) : LX tp n σ μ a := h.1
theorem PS.hba {tp : Nat → Nat} {n t : Nat} {σ μ : St} {tk : Tok} {b a : Nat} (h : PS tp n t σ μ tk b a) : b ≤ a := h.2.1
theorem PS.bX {tp : Nat → Nat} {n t : Nat} {σ μ : St} {tk : Tok} {b a : Nat} (h : PS tp n t σ μ tk b a) : σ.1 115 0 0 0 = nI b := h.2.2.1
theorem PS.bM {tp : Nat → Nat} {n t : Nat} {σ μ : St} {tk : Tok} {b a : Nat} (h : PS tp n t σ μ tk b a) : μ.1 253 0 0 0 = nI b := h.2.2.2.1
theorem PS.eM {tp : Nat → Nat} {n t : Nat} {σ μ : St} {tk : Tok} {b a : Nat} (h : PS tp n t σ μ tk b a) : μ.1 254 0 0 0 = nI a := h.2.2.2.2.1
theorem PS.kX {tp : Nat → Nat} {n t : Nat} {σ μ : St} {tk : Tok} {b a : Nat} (h : PS tp n t σ μ tk b a) : TokX σ tk := h.2.2.2.2.2.1
theorem PS.kM {tp : Nat → Nat} {n t : Nat} {σ μ : St} {tk : Tok} {b a : Nat} (h : PS tp n t σ μ tk b a) : TokM tp μ b a tk := h.2.2.2.2.2.2.1
theorem PS.ht {tp : Nat → Nat} {n t : Nat} {σ μ : St} {tk : Tok} {b a : Nat} (h : PS tp n t σ μ tk b a) : t < 17 := h.2.2.2.2.2.2.2.1
theorem PS.tX {tp : Nat → Nat} {n t : Nat} {σ μ : St} {tk : Tok} {b a : Nat} (h : PS tp n t σ μ tk b a) : σ.1 121 0 0 0 = nI t := h.2.2.2.2.2.2.2.2.1
theorem PS.tM {tp : Nat → Nat} {n t : Nat} {σ μ : St} {tk : Tok} {b a : Nat} (h : PS tp n t σ μ tk b a) : μ.1 259 0 0 0 = nI t := h.2.2.2.2.2.2.2.2.2.1
theorem PS.hp {tp : Nat → Nat} {n t : Nat} {σ μ : St} {tk : Tok} {b a : Nat} (h : PS tp n t σ μ tk b a) : (tk = .fin ∧ b = n) ∨ (tk ≠ .fin ∧ b < a) := h.2.2.2.2.2.2.2.2.2.2
theorem fin_M {N : Nat} {μ : St} {a : Nat} (h : μ.1 248 0 0 0 = nI a) : fM_step_286 N μ = some (sI μ 254 0 0 0 (nI a)) := by
  unfold fM_step_286
  rw [nmx, h]
theorem kw_e {N n : Nat} {tp : Nat → Nat} {σ μ : St} {b a : Nat} (hN : 200 ≤ N) (h : LX tp n σ μ a) (hb : σ.1 115 0 0 0 = nI b) (hba : b ≤ a) (hlet : ∀ j, b ≤ j → j < a → lt? (tp j) = true) :
    fReader_advance_138 N σ = some (sI (sI σ 118 0 0 0 (fidx 0 KWL (Wrd tp b a))) 119 0 0 0 (valI (Wrd tp b a))) := by
  have h2 : LX tp n (sI σ 118 0 0 0 (fidx 0 KWL (Wrd tp b a))) μ a := h.st (Fx.s (by decide)) Fx.rf h.ha ((sI_o (by decide)).trans h.aX) h.aM
  have hb2 : (sI σ 118 0 0 0 (fidx 0 KWL (Wrd tp b a))).1 115 0 0 0 = nI b := (sI_o (by decide)).trans hb
  unfold fReader_advance_138 fReader_advance_174
  rw [placeIn_e hN s20 (by decide +kernel) kwl_ok h hb hba hlet, bn1_e, nmx, placeIn_e hN s21 (by decide +kernel) factl_ok h2 hb2 hba hlet, bn1_e, placeIn_e hN s22 (by decide +kernel) parl_ok h2 hb2 hba hlet, bn1_e]
  unfold valI
  by_cases c : fidx 0 FACTL (Wrd tp b a) = -1
  · rw [if_pos c, if_pos c, nmx]
  · rw [if_neg c, if_neg c, nmx]
/-- both go on to the next token -/
theorem step0_e {N n t : Nat} {tp : Nat → Nat} {σ μ : St} {a : Nat} (hN : 2000 ≤ N) (hlx : LX tp n σ μ a) (ht : t < 17) (htX : σ.1 121 0 0 0 = nI t) (htM : μ.1 259 0 0 0 = nI t) :
    ∃ tk b a' σ' μ', fReader_advance N σ = some σ' ∧ fM_step N μ = some μ' ∧ PS tp n t σ' μ' tk b a' ∧ a ≤ b ∧ Fx lexX σ σ' ∧ Fx lexM μ μ' := by
  have hn := hlx.hn
  have ha := hlx.ha
  obtain ⟨b, k, k', σ1, μ1, g1, g2, g3, g4, g5, g6, g7⟩ := skip_e (N := N) (n - a) a N N σ μ (by omega) (by omega) (by omega) hlx
  have hb := g2.ha
  have tX1 : σ1.1 121 0 0 0 = nI t := (g3.1 _ _ _ _ (by decide)).trans htX
  have tM1 : μ1.1 259 0 0 0 = nI t := (g4.1 _ _ _ _ (by decide)).trans htM
  -- the place where the token begins
  have eX : fReader_advance N σ = fReader_advance_52 N σ1 := by
    unfold fReader_advance
    rw [g6]
    show (if σ1.1 114 0 0 0 ≤ σ1.1 116 0 0 0 then fReader_advance_52 N σ1 else chk (inb (σ1.1 116 0 0 0) 600) (if σ1.1 110 0 0 (σ1.1 116 0 0 0).toNatClampNeg = 32 then _ else if σ1.1 110 0 0 (σ1.1 116 0 0 0).toNatClampNeg = 10 then _ else fReader_advance_52 N σ1)) = _
    rw [g2.lX, g2.aX]
    by_cases c : b < n
    · obtain ⟨t1, t2, t3⟩ := g2.tape b (by omega)
      have hbl := g5 c
      simp only [bl?, Bool.or_eq_false_iff, decide_eq_false_iff_not] at hbl
      rw [if_neg (nI_ge c (by omega)), chk_t (inb_n (by omega) (by decide)), nI_clamp (by omega), t2, if_neg (show ¬ tb (tp b) = 32 from fun q => hbl.1 ((tb_n (k := 32) t1 (by decide)).mp q)), if_neg (show ¬ tb (tp b) = 10 from fun q => hbl.2 ((tb_n (k := 10) t1 (by decide)).mp q))]
    · rw [if_pos (nI_le (by omega) (by omega))]
  obtain ⟨μ2, hμ2⟩ : ∃ μ2, μ2 = sI (sI μ1 253 0 0 0 (nI b)) 251 0 0 0 0 := ⟨_, rfl⟩
  have f2 : Fx lexM μ1 μ2 := by rw [hμ2]; exact (Fx.s (by decide)).tr (Fx.s (by decide))
  have aM2 : μ2.1 248 0 0 0 = nI b := by rw [hμ2]; exact (sI_o (by decide)).trans ((sI_o (by decide)).trans g2.aM)
  have bM2 : μ2.1 253 0 0 0 = nI b := by rw [hμ2]; exact (sI_o (by decide)).trans (sI_s ..)
  obtain ⟨σ2, hσ2⟩ : ∃ σ2, σ2 = sI σ1 115 0 0 0 (nI b) := ⟨_, rfl⟩
  have f1 : Fx lexX σ1 σ2 := by rw [hσ2]; exact Fx.s (by decide)
  have aX2 : σ2.1 116 0 0 0 = nI b := by rw [hσ2]; exact (sI_o (by decide)).trans g2.aX
  have bX2 : σ2.1 115 0 0 0 = nI b := by rw [hσ2]; exact sI_s ..
  have l2 : LX tp n σ2 μ2 b := g2.st f1 f2 hb aX2 aM2
  have tX2 : σ2.1 121 0 0 0 = nI t := (f1.1 _ _ _ _ (by decide)).trans tX1
  have tM2 : μ2.1 259 0 0 0 = nI t := (f2.1 _ _ _ _ (by decide)).trans tM1
  have eM : fM_step N μ = (bn1 (fM_byteAt N (μ2.1 248 0 0 0) μ2) fun r5 => if r5 = -1 then nm (sI μ2 250 0 0 0 0) fun (σ10 : St) => fM_step_286 N σ10 else bn1 (fM_isLetter N r5 μ2) fun r6 => if r6 = 0 then bn1 (fM_isDigit N r5 μ2) fun r7 => if r7 = 0 then nm (sI μ2 248 0 0 0 (μ2.1 248 0 0 0 + 1)) fun (σ8 : St) => (if r5 = 59 then fM_step_262 N r5 σ8 else if r5 = 44 then fM_step_262 N r5 σ8 else if r5 = 40 then fM_step_262 N r5 σ8 else if r5 = 41 then fM_step_262 N r5 σ8 else if r5 = 43 then fM_step_262 N r5 σ8 else if r5 = 45 then fM_step_262 N r5 σ8 else if r5 = 42 then fM_step_262 N r5 σ8 else if r5 = 47 then fM_step_262 N r5 σ8 else if r5 = 60 then fM_step_262 N r5 σ8 else if r5 = 61 then fM_step_262 N r5 σ8 else fM_step_267 N r5 0 σ8) else nm (sI μ2 252 0 0 0 0) fun (σ9 : St) => fM_step_128 N N σ9 else fM_step_81 N N μ2) := by
    unfold fM_step
    rw [g7]
    show (bn1 (fM_byteAt N (μ1.1 248 0 0 0) μ1) fun r1 => if r1 = 32 then _ else bn1 (fM_byteAt N (μ1.1 248 0 0 0) μ1) fun r2 => if r2 = 10 then _ else nm (sI μ1 253 0 0 0 (μ1.1 248 0 0 0)) fun (σ3 : St) => nm (sI σ3 251 0 0 0 0) fun (σ4 : St) => bn1 (fM_byteAt N (σ4.1 248 0 0 0) σ4) fun r5 => _) = _
    rw [g2.aM, byteAt_e g2.tape g2.lM hn hb, bn1_e, bn1_e]
    have hne : ¬ (if b < n then nI (tp b) else -1) = 32 ∧ ¬ (if b < n then nI (tp b) else -1) = 10 := by
      by_cases c : b < n
      · obtain ⟨t1, t2, t3⟩ := g2.tape b (by omega)
        have hbl := g5 c
        simp only [bl?, Bool.or_eq_false_iff, decide_eq_false_iff_not] at hbl
        rw [if_pos c]
        exact ⟨fun q => hbl.1 ((nI_eq (b := 32) (by omega) (by omega)).mp q), fun q => hbl.2 ((nI_eq (b := 10) (by omega) (by omega)).mp q)⟩
      · rw [if_neg c]
        exact ⟨by decide, by decide⟩
    rw [if_neg hne.1, if_neg hne.2, nmx, nmx, ← hμ2]
  have eX2 : fReader_advance_52 N σ1 = if σ2.1 116 0 0 0 < σ2.1 114 0 0 0 then chk (inb (σ2.1 116 0 0 0) 600) (bn1 (fReader_isLetter N (σ2.1 110 0 0 (σ2.1 116 0 0 0).toNatClampNeg) σ2) fun r2 => if r2 = 0 then bn1 (fReader_isDigit N (σ2.1 110 0 0 (σ2.1 116 0 0 0).toNatClampNeg) σ2) fun r3 => if r3 = 0 then bn1 (fReader_isSignByte N (σ2.1 110 0 0 (σ2.1 116 0 0 0).toNatClampNeg) σ2) fun r4 => if r4 = 0 then fReader_advance_315 N 3 σ2 else fReader_advance_315 N (σ2.1 110 0 0 (σ2.1 116 0 0 0).toNatClampNeg) σ2 else nm (sI σ2 117 0 0 0 2) fun (σ5 : St) => nm (sI σ5 120 0 0 0 0) fun (σ6 : St) => fReader_advance_205 N N σ6 else nm (sI σ2 117 0 0 0 1) fun (σ7 : St) => fReader_advance_99 N N σ7) else nm (sI σ2 117 0 0 0 0) fun (σ8 : St) => some σ8 := by
    unfold fReader_advance_52
    rw [nmx, g2.aX, ← hσ2]
  have fX12 : Fx lexX σ σ2 := g3.tr f1
  have fM12 : Fx lexM μ μ2 := g4.tr f2
  rw [eX, eX2, eM, l2.lX, aX2, aM2, byteAt_e l2.tape l2.lM hn hb, bn1_e]
  by_cases c : b < n
  · obtain ⟨t1, t2, t3⟩ := l2.tape b (by omega)
    rw [if_pos (nI_lt c (by omega)), chk_t (inb_n (by omega) (by decide)), nI_clamp (by omega), t2, letX t1, bn1_e, if_pos c, if_neg (m1_ne (by omega)), letM t1, bn1_e]
    by_cases cl : lt? (tp b) = true
    · rw [if_pos cl, if_neg (by decide), if_neg (by decide), nmx]
      obtain ⟨a', σ3, μ3, q1, q2, q3, q4, q5, q6, q7, q8⟩ := letters_e (N := N) (n - b) b N N (sI σ2 117 0 0 0 1) μ2 (by omega) (by omega) (by omega) (l2.st (Fx.s (by decide)) Fx.rf hb ((sI_o (by decide)).trans aX2) aM2)
      have q6 := q6 c cl
      have bX3 : σ3.1 115 0 0 0 = nI b := (q3.1 _ _ _ _ (by decide)).trans ((sI_o (by decide)).trans bX2)
      have bM3 : μ3.1 253 0 0 0 = nI b := (q4.1 _ _ _ _ (by decide)).trans bM2
      have ff : Fx lexX σ2 (sI (sI σ3 118 0 0 0 (fidx 0 KWL (Wrd tp b a'))) 119 0 0 0 (valI (Wrd tp b a'))) := ((Fx.s (by decide)).tr (q3.mono (fun f e => by simp [lexX] at e ⊢; omega))).tr ((Fx.s (by decide)).tr (Fx.s (by decide)))
      have fm : Fx lexM μ2 (sI (sI μ3 250 0 0 0 1) 254 0 0 0 (nI a')) := (q4.mono (fun f e => by simp [lexM] at e ⊢; omega)).tr ((Fx.s (by decide)).tr (Fx.s (by decide)))
      refine ⟨.word (Wrd tp b a'), b, a', _, _, q7.trans (kw_e (by omega) q2 bX3 q1 q5), q8.trans (fin_M ((sI_o (by decide)).trans q2.aM)), ⟨?_, q1, ?_, ?_, sI_s .., ⟨?_, ?_, sI_s ..⟩, ⟨(sI_o (by decide)).trans (sI_s ..), rfl⟩, ht, ?_, ?_, Or.inr ⟨nofun, q6⟩⟩, g1, fX12.tr ff, fM12.tr fm⟩
      · exact q2.st ((Fx.s (by decide)).tr (Fx.s (by decide))) ((Fx.s (by decide)).tr (Fx.s (by decide))) q2.ha ((sI_o (by decide)).trans ((sI_o (by decide)).trans q2.aX)) ((sI_o (by decide)).trans ((sI_o (by decide)).trans q2.aM))
      · exact (sI_o (by decide)).trans ((sI_o (by decide)).trans bX3)
      · exact (sI_o (by decide)).trans ((sI_o (by decide)).trans bM3)
      · exact (sI_o (by decide)).trans ((sI_o (by decide)).trans ((q3.1 _ _ _ _ (by decide)).trans (sI_s ..)))
      · exact (sI_o (by decide)).trans (sI_s ..)
      · exact (ff.1 _ _ _ _ (by decide)).trans tX2
      · exact (fm.1 _ _ _ _ (by decide)).trans tM2
    · rw [if_neg cl, if_pos rfl, if_pos rfl, digX t1, bn1_e, digM t1, bn1_e]
      by_cases cd : dg? (tp b) = true
      · rw [if_pos cd, if_neg (by decide), if_neg (by decide), nmx, nmx, nmx]
        obtain ⟨a', v', w', σ3, μ3, q1, q2, q3, q4, q5, q6, q7, q8, q9, q10, q11⟩ := digits_e (N := N) (b := b) (n - b) b N N 0 0 (sI (sI σ2 117 0 0 0 2) 120 0 0 0 0) (sI μ2 252 0 0 0 0) (by omega) (by omega) (by omega) (l2.st ((Fx.s (by decide)).tr (Fx.s (by decide))) (Fx.s (by decide)) hb ((sI_o (by decide)).trans ((sI_o (by decide)).trans aX2)) ((sI_o (by decide)).trans aM2)) (Nat.le_refl _) ((sI_o (by decide)).trans ((sI_o (by decide)).trans bX2)) (fun _ => ⟨rfl, by rw [Nat.sub_self]; decide⟩) (fun q => by omega) (sI_s ..) (sI_s ..)
        have q5 := q5 c cd
        have bX3 : σ3.1 115 0 0 0 = nI b := (q3.1 _ _ _ _ (by decide)).trans ((sI_o (by decide)).trans ((sI_o (by decide)).trans bX2))
        have bM3 : μ3.1 253 0 0 0 = nI b := (q4.1 _ _ _ _ (by decide)).trans ((sI_o (by decide)).trans bM2)
        have ff : Fx lexX σ2 σ3 := ((Fx.s (by decide)).tr (Fx.s (by decide))).tr (q3.mono (fun f e => by simp [lexX] at e ⊢; omega))
        have fm : Fx lexM μ2 (sI (sI μ3 250 0 0 0 2) 254 0 0 0 (nI a')) := ((Fx.s (by decide)).tr (q4.mono (fun f e => by simp [lexM] at e ⊢; omega))).tr ((Fx.s (by decide)).tr (Fx.s (by decide)))
        have hp5 : a' - b ≤ 5 → v' < 100000 := fun q => by
          have := (q6 q).2
          have : 10 ^ (a' - b) ≤ 10 ^ 5 := Nat.pow_le_pow_right (by decide) q
          omega
        refine ⟨.num (a' - b) (if a' - b ≤ 5 then v' else 0), b, a', _, _, q10, q11.trans (fin_M ((sI_o (by decide)).trans q2.aM)), ⟨?_, by omega, bX3, ?_, sI_s .., ⟨?_, ?_⟩, ⟨(sI_o (by decide)).trans (sI_s ..), rfl, ?_, w', ?_, ?_, ?_⟩, ht, ?_, ?_, Or.inr ⟨nofun, q5⟩⟩, g1, fX12.tr ff, fM12.tr fm⟩
        · exact q2.st Fx.rf ((Fx.s (by decide)).tr (Fx.s (by decide))) q2.ha q2.aX ((sI_o (by decide)).trans ((sI_o (by decide)).trans q2.aM))
        · exact (sI_o (by decide)).trans ((sI_o (by decide)).trans bM3)
        · exact (q3.1 _ _ _ _ (by decide)).trans ((sI_o (by decide)).trans (sI_s ..))
        · rw [q8]
          by_cases z : a' - b ≤ 5
          · rw [if_pos z, if_pos z]
          · rw [if_neg z, (q7 (by omega)).1]
        · by_cases z : a' - b ≤ 5
          · rw [if_pos z]
            exact hp5 z
          · rw [if_neg z]
            decide
        · by_cases z : a' - b ≤ 5
          · have := (q6 z).1
            have := hp5 z
            omega
          · exact (q7 (by omega)).2
        · exact (sI_o (by decide)).trans ((sI_o (by decide)).trans q9)
        · intro z
          rw [if_pos z]
          exact (q6 z).1.symm
        · exact (ff.1 _ _ _ _ (by decide)).trans tX2
        · exact (fm.1 _ _ _ _ (by decide)).trans tM2
      · rw [if_neg cd, if_pos rfl, if_pos rfl, sgnX t1, bn1_e, nmx, chainM t1]
        have hm : ∀ s1, fM_step_278 N (nI (tp b)) s1 (sI μ2 248 0 0 0 (nI b + 1)) = some (sI (sI (sI (sI μ2 248 0 0 0 (nI (b + 1))) 250 0 0 0 s1) 251 0 0 0 (nI (tp b))) 254 0 0 0 (nI (b + 1))) := by
          intro s1
          unfold fM_step_278
          rw [nmx, nmx, nI_1]
          exact fin_M ((sI_o (by decide)).trans ((sI_o (by decide)).trans (sI_s ..)))
        have hx : ∀ s1, fReader_advance_315 N s1 σ2 = some (sI (sI σ2 117 0 0 0 s1) 116 0 0 0 (nI (b + 1))) := by
          intro s1
          unfold fReader_advance_315
          rw [nmx, nmx, sI_o (by decide), aX2, nI_1]
        have ff : ∀ s1, Fx lexX σ2 (sI (sI σ2 117 0 0 0 s1) 116 0 0 0 (nI (b + 1))) := fun s1 => (Fx.s (by decide)).tr (Fx.s (by decide))
        have fm : ∀ s1, Fx lexM μ2 (sI (sI (sI (sI μ2 248 0 0 0 (nI (b + 1))) 250 0 0 0 s1) 251 0 0 0 (nI (tp b))) 254 0 0 0 (nI (b + 1))) := fun s1 => ((Fx.s (by decide)).tr (Fx.s (by decide))).tr ((Fx.s (by decide)).tr (Fx.s (by decide)))
        have ps : ∀ s1 s2 tk, tk ≠ .fin → TokX (sI (sI σ2 117 0 0 0 s1) 116 0 0 0 (nI (b + 1))) tk → TokM tp (sI (sI (sI (sI μ2 248 0 0 0 (nI (b + 1))) 250 0 0 0 s2) 251 0 0 0 (nI (tp b))) 254 0 0 0 (nI (b + 1))) b (b + 1) tk → PS tp n t (sI (sI σ2 117 0 0 0 s1) 116 0 0 0 (nI (b + 1))) (sI (sI (sI (sI μ2 248 0 0 0 (nI (b + 1))) 250 0 0 0 s2) 251 0 0 0 (nI (tp b))) 254 0 0 0 (nI (b + 1))) tk b (b + 1) := by
          intro s1 s2 tk k0 k1 k2
          refine ⟨l2.st (ff s1) (fm s2) (by omega) (sI_s ..) ((sI_o (by decide)).trans ((sI_o (by decide)).trans ((sI_o (by decide)).trans (sI_s ..)))), by omega, ?_, ?_, sI_s .., k1, k2, ht, ((ff s1).1 _ _ _ _ (by decide)).trans tX2, ((fm s2).1 _ _ _ _ (by decide)).trans tM2, Or.inr ⟨k0, by omega⟩⟩
          · exact (sI_o (by decide)).trans ((sI_o (by decide)).trans bX2)
          · exact (sI_o (by decide)).trans ((sI_o (by decide)).trans ((sI_o (by decide)).trans ((sI_o (by decide)).trans bM2)))
        unfold fM_step_262 fM_step_267
        by_cases cs : sn? (tp b) = true
        · rw [if_pos cs, if_neg (by decide), if_pos cs, if_neg (by decide), hx, hm]
          have es : tb (tp b) = nI (tp b) := (tb_n t1 (by rcases sn_cases.mp cs with e | e | e | e | e | e | e | e | e | e <;> rw [e] <;> decide)).mpr rfl
          rw [es]
          exact ⟨.sign (tp b), b, b + 1, _, _, rfl, rfl, ps _ _ _ nofun ⟨cs, (sI_o (by decide)).trans (sI_s ..)⟩ ⟨(sI_o (by decide)).trans ((sI_o (by decide)).trans (sI_s ..)), (sI_o (by decide)).trans (sI_s ..)⟩, g1, fX12.tr (ff _), fM12.tr (fm _)⟩
        · rw [if_neg cs, if_pos rfl, if_neg cs, if_pos rfl, hx, hm]
          exact ⟨.bad, b, b + 1, _, _, rfl, rfl, ps _ _ _ nofun ((sI_o (by decide)).trans (sI_s ..)) ((sI_o (by decide)).trans ((sI_o (by decide)).trans (sI_s ..))), g1, fX12.tr (ff _), fM12.tr (fm _)⟩
  · rw [if_neg (nI_nlt (by omega) (by omega)), if_neg c, if_pos rfl, nmx, nmx]
    have ff : Fx lexX σ2 (sI σ2 117 0 0 0 0) := Fx.s (by decide)
    have fm : Fx lexM μ2 (sI (sI μ2 250 0 0 0 0) 254 0 0 0 (nI b)) := (Fx.s (by decide)).tr (Fx.s (by decide))
    refine ⟨.fin, b, b, _, _, rfl, fin_M ((sI_o (by decide)).trans aM2), ⟨l2.st ff fm hb ((sI_o (by decide)).trans aX2) ((sI_o (by decide)).trans ((sI_o (by decide)).trans aM2)), Nat.le_refl _, (sI_o (by decide)).trans bX2, (sI_o (by decide)).trans ((sI_o (by decide)).trans bM2), sI_s .., sI_s .., (sI_o (by decide)).trans (sI_s ..), ht, (ff.1 _ _ _ _ (by decide)).trans tX2, (fm.1 _ _ _ _ (by decide)).trans tM2, Or.inl ⟨rfl, by omega⟩⟩, g1, fX12.tr ff, fM12.tr fm⟩
theorem step_e {N n t : Nat} {tp : Nat → Nat} {σ μ : St} {tk0 : Tok} {b0 a : Nat} (hN : 2000 ≤ N) (h : PS tp n t σ μ tk0 b0 a) :
    ∃ tk b a' σ' μ', fReader_advance N σ = some σ' ∧ fM_step N μ = some μ' ∧ PS tp n t σ' μ' tk b a' ∧ a ≤ b ∧ Fx lexX σ σ' ∧ Fx lexM μ μ' := step0_e hN h.lx h.ht h.tX h.tM
