/-! the class gives the life of a person -/
theorem sBegin_r {E : Env} {s s' : Lfe} (h : ∀ f i, lfq f → s' f i = s f i) (hs : ∀ f i, sBegin E s f i = s f i) : ∀ f i, sBegin E s' f i = s' f i := by
  intro f i
  by_cases c : lfq f
  · rw [h f i c, ← hs f i]
    unfold sBegin
    rw [h f i c]
  · have ne : ∀ g, lfq g → f ≠ g := fun g q z => c (by rw [z]; exact q)
    unfold sBegin
    rw [if_neg (fun q => ne 81 (by decide) q.1), if_neg (ne 83 (by decide)), if_neg (ne 84 (by decide)), if_neg (ne 85 (by decide)), if_neg (ne 86 (by decide)), if_neg (ne 87 (by decide)), if_neg (ne 88 (by decide)), if_neg (ne 89 (by decide)), if_neg (ne 90 (by decide)), if_neg (ne 91 (by decide)), if_neg (ne 92 (by decide)), if_neg (ne 93 (by decide)), if_neg (ne 94 (by decide))]
    split <;> rfl
theorem fill3 {N v p : Nat} {σ : St} (hN : 4 ≤ N) : fArrays_fill_Life_totals N v p 0 σ = some (sI (sI (sI σ 81 v p 0 0) 81 v p 1 0) 81 v p 2 0) := by
  obtain ⟨m, rfl⟩ : ∃ q, N = q + 4 := ⟨N - 4, by omega⟩
  rfl
theorem begin_e2 {N v p : Nat} {E : Env} {σ : St} (hN : 4 ≤ N) (hp : p < 20) (hper : σ.1 74 v p 0 = nI p) (hw : σ.1 50 0 0 p = E.wage) : ∃ σ', fLife_begin N v p σ = some σ' ∧ LfX v p σ σ' ∧ ∀ f i, sBegin E (sl v p σ') f i = sl v p σ' f i := by
  obtain ⟨σ9, h9⟩ : ∃ σ9, σ9 = sI (sI (sI (sI (sI (sI (sI (sI (sI (sI σ 83 v p 0 311) 84 v p 0 0) 85 v p 0 0) 86 v p 0 (-1)) 87 v p 0 1) 88 v p 0 0) 89 v p 0 0) 90 v p 0 (-1)) 91 v p 0 (-1)) 92 v p 0 0 := ⟨_, rfl⟩
  have l9 : LfX v p σ σ9 := by
    rw [h9]
    exact (((((((((LfX.s (by decide)).tr (LfX.s (by decide))).tr (LfX.s (by decide))).tr (LfX.s (by decide))).tr (LfX.s (by decide))).tr (LfX.s (by decide))).tr (LfX.s (by decide))).tr (LfX.s (by decide))).tr (LfX.s (by decide))).tr (LfX.s (by decide))
  refine ⟨sI (sI (sI (sI (sI σ9 93 v p 0 E.wage) 94 v p 0 0) 81 v p 0 0) 81 v p 1 0) 81 v p 2 0, ?_, ((((l9.tr (LfX.s (by decide))).tr (LfX.s (by decide))).tr (LfX.s (by decide))).tr (LfX.s (by decide))).tr (LfX.s (by decide)), fun f i => ?_⟩
  · unfold fLife_begin
    simp only [nmx]
    rw [← h9, show σ9.1 74 v p 0 = nI p from (l9.1 _ _ _ _ (fun q => absurd q.1.1 (by decide))).trans hper, chk_t (inb_n hp (by decide)), nI_clamp (by omega), show σ9.1 50 0 0 p = E.wage from (l9.1 _ _ _ _ (fun q => absurd q.1.1 (by decide))).trans hw, fill3 hN, bn1_e]
  · rw [h9]
    simp only [sl_I (show slr 83 by decide), sl_I (show slr 84 by decide), sl_I (show slr 85 by decide), sl_I (show slr 86 by decide), sl_I (show slr 87 by decide), sl_I (show slr 88 by decide), sl_I (show slr 89 by decide), sl_I (show slr 90 by decide), sl_I (show slr 91 by decide), sl_I (show slr 92 by decide), sl_I (show slr 93 by decide), sl_I (show slr 94 by decide), sl_I (show slr 81 by decide)]
    generalize sl v p σ = s
    have key : ∀ f i x, f ≠ 81 → i ≠ 0 → x = s f i → x = s f i := fun _ _ _ _ _ h => h
    unfold sBegin
    by_cases ct : f = 81
    · subst ct
      by_cases i3 : i < 3
      · rw [if_pos ⟨rfl, i3⟩]
        rcases (show i = 0 ∨ i = 1 ∨ i = 2 by omega) with rfl | rfl | rfl
        · rw [uL_i (by decide), uL_i (by decide), uL_s]
        · rw [uL_i (by decide), uL_s]
        · rw [uL_s]
      · rw [if_neg (fun q => i3 q.2), if_neg (show ¬ i = 0 by omega)]
    · rw [if_neg (fun q => ct q.1)]
      by_cases i0 : i = 0
      · subst i0
        rw [if_pos rfl]
        by_cases c : f = 83
        · subst c; rw [if_pos rfl]; rfl
        rw [if_neg c]
        by_cases c : f = 84
        · subst c; rw [if_pos rfl]; rfl
        rw [if_neg c]
        by_cases c : f = 85
        · subst c; rw [if_pos rfl]; rfl
        rw [if_neg c]
        by_cases c : f = 86
        · subst c; rw [if_pos rfl]; rfl
        rw [if_neg c]
        by_cases c : f = 87
        · subst c; rw [if_pos rfl]; rfl
        rw [if_neg c]
        by_cases c : f = 88
        · subst c; rw [if_pos rfl]; rfl
        rw [if_neg c]
        by_cases c : f = 89
        · subst c; rw [if_pos rfl]; rfl
        rw [if_neg c]
        by_cases c : f = 90
        · subst c; rw [if_pos rfl]; rfl
        rw [if_neg c]
        by_cases c : f = 91
        · subst c; rw [if_pos rfl]; rfl
        rw [if_neg c]
        by_cases c : f = 92
        · subst c; rw [if_pos rfl]; rfl
        rw [if_neg c]
        by_cases c : f = 93
        · subst c; rw [if_pos rfl]; rfl
        rw [if_neg c]
        by_cases c : f = 94
        · subst c; rw [if_pos rfl]; rfl
        rw [if_neg c]
      · rw [if_neg i0]
theorem Rep_get {g : Nat → Int32} : ∀ (l : List Nat), Rep g l → ∀ j e, l.reverse[j]? = some e → g j = nI e
  | [], _, j, e, h => by simp at h
  | x :: l, ⟨h1, h2⟩, j, e, h => by
    rw [List.reverse_cons] at h
    by_cases c : j < l.length
    · rw [List.getElem?_append_left (by rw [List.length_reverse]; exact c)] at h
      exact Rep_get l h2 j e h
    · rw [List.getElem?_append_right (by rw [List.length_reverse]; omega), List.length_reverse] at h
      have : j - l.length = 0 := by
        rcases Nat.eq_zero_or_pos (j - l.length) with z | z
        · exact z
        · rw [List.getElem?_eq_none (by rw [List.length_singleton]; omega)] at h
          exact absurd h (by simp)
      rw [this] at h
      obtain rfl : j = l.length := by omega
      cases h
      exact h1
theorem evN_le {dy : Nat → Nat} {EV : Nat → Ev} {l : List Nat} {ev : Nat → List Ev} (h : ∀ d, ev d = (l.filter (fun e => decide (dy e = d))).map EV) : ∀ n, evN ev n ≤ (l.filter (fun e => decide (dy e < 312 + n))).length
  | 0 => Nat.zero_le _
  | n + 1 => by
    have ih := evN_le h n
    have e : evN ev (n + 1) = evN ev n + (ev (312 + n)).length := rfl
    rw [e, h, List.length_map]
    have : ∀ l : List Nat, (l.filter (fun e => decide (dy e < 312 + n))).length + (l.filter (fun e => decide (dy e = 312 + n))).length ≤ (l.filter (fun e => decide (dy e < 312 + (n + 1)))).length := by
      intro l
      induction l with
      | nil => exact Nat.le_refl _
      | cons x l ih =>
        by_cases c1 : dy x < 312 + n
        · rw [List.filter_cons_of_pos (by simp; omega), List.filter_cons_of_neg (by simp; omega), List.filter_cons_of_pos (by simp; omega), List.length_cons, List.length_cons]
          omega
        · by_cases c2 : dy x = 312 + n
          · rw [List.filter_cons_of_neg (by simp; omega), List.filter_cons_of_pos (by simp; omega), List.filter_cons_of_pos (by simp; omega), List.length_cons, List.length_cons]
            omega
          · rw [List.filter_cons_of_neg (by simp; omega), List.filter_cons_of_neg (by simp; omega), List.filter_cons_of_neg (by simp; omega)]
            exact ih
    have := this l
    omega
theorem LRun_u {E : Env} {ev : Nat → List Ev} {s0 : Lfe} : ∀ n, n < 1000 → LRun E ev s0 n 83 0 = nI (311 + n)
  | 0, _ => rfl
  | n + 1, h => by
    show (sPass E (312 + n) _) 83 0 = _
    unfold sPass
    rw [uL_s, show 311 + (n + 1) = 312 + n by omega]
