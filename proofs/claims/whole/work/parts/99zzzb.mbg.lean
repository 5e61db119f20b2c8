/-! all steps stand; the start -/
theorem StQ.w {N : Nat} {x : Option (Option Int32 × St)} {y : Option (Int32 × St)} (h : StQ x y) : ∃ (q : Option Int32) (σ' : St) (b : Int32) (μ' : St), x = some (q, σ') ∧ y = some (b, μ') ∧ fM_thrown N μ' = some (if q.isSome then 0 else 1) ∧ (∀ r, q = some r → r = b) ∧ Inv σ' μ' := by
  obtain ⟨q, σ', b, μ', e1, e2, e3, e4, e5⟩ := h
  exact ⟨q, σ', b, μ', e1, e2, (mThrown_e _ _).trans (congrArg some e3), e4, e5⟩
theorem StR.w {N : Nat} {x : Option (Option Int32)} {y : Option (Int32 × St)} {σ : St} (h : StR x y σ) : ∃ (q : Option Int32) (b : Int32) (μ' : St), x = some q ∧ y = some (b, μ') ∧ fM_thrown N μ' = some (if q.isSome then 0 else 1) ∧ (∀ r, q = some r → r = b) ∧ Inv σ μ' := by
  obtain ⟨q, b, μ', e1, e2, e3, e4, e5⟩ := h
  exact ⟨q, b, μ', e1, e2, (mThrown_e _ _).trans (congrArg some e3), e4, e5⟩
theorem ok_office : Step_office 4000 Inv := fun _ _ a1 a2 h => step_office (N := 4000) h a1 a2
theorem ok_person : Step_person 4000 Inv := fun _ _ a1 a2 a3 a4 a5 h => step_person (N := 4000) h a1 a2 a3 a4 a5
theorem ok_feed : Step_feed 4000 Inv := fun _ _ a1 a2 a3 a4 a5 h => step_feed (N := 4000) (Nat.le_refl 4000) h a1 a2 a3 a4 a5
theorem ok_book : Step_book 4000 Inv := fun _ _ a1 a2 a3 h => StQ.w (step_book (N := 4000) (Nat.le_refl 4000) h a1 a2 a3)
theorem ok_returns : Step_returns 4000 Inv := fun _ _ a1 a2 a3 h => StQ.w (step_returns (N := 4000) h a1 a2 a3)
theorem ok_stamps : Step_stamps 4000 Inv := fun _ _ a1 a2 h => by
    obtain ⟨q, b, μ', e1, e2, e3, e4, e5⟩ := step_stamps (N := 4000) (Nat.le_refl 4000) h a1 a2
    exact ⟨q, b, μ', e1, e2, (mThrown_e _ _).trans (congrArg some e3), e4, e5⟩
theorem ok_text : Step_text 4000 Inv := fun _ _ a1 a2 a3 h => StQ.w (step_text (N := 4000) (Nat.le_refl 4000) h a1 a2 a3)
theorem ok_fault : Step_fault 4000 Inv := fun _ _ h => step_fault (N := 4000) h
theorem ok_event : Step_event 4000 Inv := fun _ _ a1 a2 a3 a4 h => StQ.w (step_event (N := 4000) h a1 a2 a3 a4)
theorem ok_back : Step_back 4000 Inv := fun _ _ a1 h => StQ.w (step_back (N := 4000) h a1)
theorem ok_told : Step_told 4000 Inv := fun _ _ a1 a2 h => StQ.w (step_told (N := 4000) (Nat.le_refl 4000) h a1 a2)
theorem ok_days : Step_days 4000 Inv := fun _ _ a1 h => StQ.w (step_days (N := 4000) (Nat.le_refl 4000) h a1)
theorem ok_look : Step_look 4000 Inv := fun _ _ a1 h => StQ.w (step_look (N := 4000) h a1)
theorem ok_day : Step_day 4000 Inv := fun _ _ a1 a2 a3 h => StQ.w (step_day (N := 4000) (Nat.le_refl 4000) h a1 a2 a3)
theorem ok_claim : Step_claim 4000 Inv := fun _ _ a1 a2 a3 h => StQ.w (step_claim (N := 4000) (Nat.le_refl 4000) h a1 a2 a3)
theorem ok_value : Step_value 4000 Inv := fun _ _ a1 a2 h => by
    obtain ⟨q, σ', b, μ', e1, e2, e3, e4, e5⟩ := step_value (N := 4000) (Nat.le_refl 4000) h a1 a2
    exact ⟨q, σ', b, μ', e1, e2, (mThrown_e _ _).trans (congrArg some e3), e4, e5⟩
theorem ok_law : Step_law 4000 Inv := fun _ _ a1 a2 h => StQ.w (step_law (N := 4000) (Nat.le_refl 4000) h a1 a2)
theorem ok_paid : Step_paid 4000 Inv := fun _ _ a1 a2 h => StQ.w (step_paid (N := 4000) (Nat.le_refl 4000) h a1 a2)
theorem ok_fund : Step_fund 4000 Inv := fun _ _ a1 h => StR.w (step_fund (N := 4000) (Nat.le_refl 4000) h a1)
theorem ok_vacancy : Step_vacancy 4000 Inv := fun _ _ a1 a2 a3 a4 h => step_vacancy (N := 4000) h a1 a2 a3 a4
theorem ok_known : Step_known 4000 Inv := fun _ _ a1 a2 h => StR.w (step_known (N := 4000) h a1 a2)
theorem ok_offer : Step_offer 4000 Inv := fun _ _ a1 a2 h => StQ.w (step_offer (N := 4000) (Nat.le_refl 4000) h a1 a2)
theorem ok_offerOf : Step_offerOf 4000 Inv := fun _ _ a1 a2 h => StR.w (step_offerOf (N := 4000) h a1 a2)
theorem ok_answer : Step_answer 4000 Inv := fun _ _ a1 a2 h z => StQ.w (step_answer (N := 4000) h a1 a2 z)
theorem ok_send : Step_send 4000 Inv := fun _ _ h => step_send (N := 4000) (Nat.le_refl 4000) h
theorem ok_sent : Step_sent 4000 Inv := fun _ _ a1 h => StR.w (step_sent (N := 4000) h a1)
theorem ok_price : Step_price 4000 Inv := fun _ _ a1 a2 a3 h => step_price (N := 4000) h a1 a2 a3
theorem ok_proves : Step_proves 4000 Inv := fun _ _ h => step_proves (N := 4000) (Nat.le_refl 4000) h
theorem ok_judge : Step_judge 4000 Inv := fun _ _ a1 a2 h => step_judge (N := 4000) h a1 a2
theorem ok_appeal : Step_appeal 4000 Inv := fun _ _ a1 h => StQ.w (step_appeal (N := 4000) (Nat.le_refl 4000) h a1)
theorem ok_close : Step_close 4000 Inv := fun _ _ a1 a2 h z => StQ.w (step_close (N := 4000) h a1 a2 z)
theorem ok_caseOf : Step_caseOf 4000 Inv := fun _ _ a1 a2 h => StQ.w (step_caseOf (N := 4000) (Nat.le_refl 4000) h a1 a2)
theorem ok_attempt : Step_attempt 4000 Inv := fun _ _ a1 a2 a3 h => StQ.w (step_attempt (N := 4000) (Nat.le_refl 4000) h a1 a2 a3)
theorem ok_tried : Step_tried 4000 Inv := fun _ _ a1 a2 h => StR.w (step_tried (N := 4000) h a1 a2)
theorem ok_count : Step_count 4000 Inv := fun _ _ a1 h => StR.w (step_count (N := 4000) (Nat.le_refl 4000) h a1)
theorem ok_long (σ μ : St) (x : Int64) (h : Inv σ μ) : Inv (sJ σ 164 0 0 0 x) μ := by
  obtain ⟨TC, tp, h⟩ := h
  exact ⟨TC, tp, h.up (σ' := sJ σ 164 0 0 0 x) h.eq h.rg h.tp h.ev h.ot (fun _ _ _ _ _ => rfl) (fun _ _ _ _ _ => rfl) (fun _ _ _ _ _ => rfl) (fun _ _ _ => rfl)⟩
theorem lawOk : LawOk 4000 Inv := ⟨ok_long, ok_office, ok_person, ok_feed, ok_book, ok_returns, ok_stamps, ok_text, ok_fault, ok_event, ok_back, ok_told, ok_days, ok_look, ok_day, ok_claim, ok_value, ok_law, ok_paid, ok_fund, ok_vacancy, ok_known, ok_offer, ok_offerOf, ok_answer, ok_send, ok_sent, ok_price, ok_proves, ok_judge, ok_appeal, ok_close, ok_caseOf, ok_attempt, ok_tried, ok_count⟩
theorem lj0 (i : Nat) : μ0.1 341 0 0 i = if i < 3 then -1 else 0 := by
  show (if i = 2 then (-1 : Int32) else if i = 1 then -1 else if i = 0 then -1 else 0) = _
  by_cases h2 : i = 2
  · subst h2; rfl
  · by_cases h1 : i = 1
    · subst h1; rfl
    · by_cases h0 : i = 0
      · subst h0; rfl
      · rw [if_neg h2, if_neg h1, if_neg h0, if_neg (by omega)]
theorem eq0 : Eq1 σ0 μ0 := by
  intro q hq i
  simp only [eqF, List.mem_cons, List.not_mem_nil, or_false] at hq
  rcases hq with rfl | rfl | rfl | rfl | rfl | rfl | rfl | rfl | rfl | rfl | rfl | rfl | rfl | rfl | rfl | rfl | rfl | rfl | rfl | rfl | rfl | rfl | rfl | rfl | rfl | rfl | rfl | rfl | rfl | rfl | rfl | rfl | rfl | rfl | rfl | rfl | rfl | rfl | rfl | rfl | rfl | rfl | rfl | rfl | rfl | rfl | rfl | rfl | rfl | rfl | rfl | rfl | rfl | rfl | rfl <;> first | rfl | exact (lj0 i).symm
theorem rng0 : Rng μ0 := by
  intro q hq i
  simp only [rngF, List.mem_cons, List.not_mem_nil, or_false] at hq
  rcases hq with rfl | rfl | rfl | rfl | rfl | rfl | rfl | rfl | rfl | rfl | rfl | rfl | rfl | rfl | rfl | rfl | rfl | rfl | rfl | rfl | rfl | rfl | rfl | rfl | rfl | rfl | rfl | rfl | rfl | rfl | rfl | rfl | rfl | rfl | rfl | rfl | rfl | rfl | rfl | rfl | rfl | rfl | rfl | rfl | rfl | rfl | rfl | rfl | rfl | rfl | rfl | rfl | rfl | rfl | rfl | rfl | rfl | rfl | rfl <;> first | exact rz (c := 0) rfl (by decide) | exact rz (c := 312) rfl (by decide) | exact rz (c := -1) rfl (by decide) | skip
  · rw [lj0 i]
    by_cases h : i < 3
    · rw [if_pos h]; decide
    · rw [if_neg h]; decide
theorem no0 {x : Int32} {i : Nat} (h : x = 0) : ¬ i < x.toNatClampNeg := by
  rw [h]
  exact Nat.not_lt_zero i
theorem inv0 : Inv σ0 μ0 := by
  have z : ∀ v : Nat, v < 2 → VwI v (fun _ => []) σ0 μ0 := fun v hv => ⟨⟨fun p _ => rfl, rfl, fun p _ => ⟨0, rfl, Nat.zero_le _, Or.inl rfl⟩⟩, Or.inl rfl⟩
  have td : tdN μ0 = 312 := by
    unfold tdN
    rw [show μ0.1 205 0 0 0 = nI 312 from rfl, nI_clamp (by decide)]
  have fu : (μ0.2 312 0 0 0).toInt = 10000 := by
    rw [show μ0.2 312 0 0 0 = (10000 : Int64) from rfl]
    decide
  have z64 : (0 : Int64).toInt = 0 := by decide
  have po : ∀ p, (μ0.2 309 0 0 p).toInt = 0 := fun p => by
    rw [show μ0.2 309 0 0 p = (0 : Int64) from rfl]
    exact z64
  have s0 : ∀ n, sumC (fun p => (μ0.2 309 0 0 p).toInt) n = 0 := fun n => by
    induction n with
    | zero => rfl
    | succ n ih =>
      show sumC _ n + (μ0.2 309 0 0 n).toInt = 0
      rw [ih, po]
      rfl
  refine ⟨fun _ => [], fun _ => 0, eq0, rng0, fun i _ => ⟨Nat.zero_lt_succ _, rfl, rfl⟩, ⟨fun t ht => absurd ht (no0 rfl), fun t ht => absurd ht (no0 rfl), fun t ht => absurd ht (no0 rfl), fun t ht => absurd ht (no0 rfl), fun t t' _ ht => absurd ht (no0 rfl), ?_, rfl⟩, ⟨fun e he => absurd he (no0 rfl), fun e he => absurd he (no0 rfl), fun c hc => absurd hc (no0 rfl), fun o ho => absurd ho (no0 rfl), fun p hp => absurd hp (no0 rfl), fun v hv => absurd hv (no0 rfl), fun o _ => ?_, fun r hr => absurd hr (no0 rfl), fun o _ => rfl, Or.inl rfl, fun r hr => absurd hr (no0 rfl), fun o ho => absurd ho (no0 rfl)⟩, z 0 (by decide), z 1 (by decide), ⟨fun p _ => ⟨0, rfl, Nat.zero_le _⟩, fun v p _ _ _ => rfl⟩, fun q => absurd rfl q, ⟨⟨0, rfl, rfl, ?_, ?_, fun _ => fu⟩, fun p _ => ⟨?_, ?_, ?_, ?_⟩, ⟨?_, ?_⟩, ⟨?_, 0, Int.le_refl 0, ?_, ?_⟩, fun k _ => ⟨?_, ?_, ?_⟩⟩, ⟨fun p hp => ?_, fun i hi => ?_, fun t ht => ⟨?_, rfl, rfl⟩, rfl⟩⟩
  · have : ∀ k, k < 8 → μ0.1 203 0 0 k = dflts k := by decide
    exact this
  · show (0 : Int32) = if (0 : Int32) = -1 then 1 else 0
    rw [if_neg (by decide)]
  · rw [td]; omega
  · rw [td]; omega
  · show (0 : Int32) = (0 : Int64).toInt32
    decide
  · show (0 : Int32) = (0 : Int64).toInt32
    decide
  · rw [po p]; exact Int.le_refl 0
  · rw [po p]; decide
  · show (0 : Int32) = (0 : Int64).toInt32
    decide
  · show (0 : Int32) = (0 : Int64).toInt32
    decide
  · refine Eq.trans ?_ fu.symm
    show (10000 : Int32).toInt = 10000
    decide
  · show (0 : Int) ≤ 12000000 * (0 : Int32).toInt
    decide
  · rw [s0 20]
    exact fu
  · show (0 : Int32).toInt = (0 : Int64).toInt
    decide
  · show (-200000000 : Int) ≤ (0 : Int64).toInt
    decide
  · show (0 : Int64).toInt ≤ 200000000
    decide
  · show (if p < 20 then (-1 : Int32) else 0) = if (0 : Int32) = 0 then -1 else _
    rw [if_pos hp, if_pos rfl]
  · have c0 : csN μ0 = 0 := by
      refine Nat.eq_zero_of_not_pos fun q => no0 (i := 0) (x := μ0.1 338 0 0 0) rfl q
    rw [c0] at hi
    exact absurd hi (by omega)
  · show (0 : Int32) = (0 : Int64).toInt32
    decide
