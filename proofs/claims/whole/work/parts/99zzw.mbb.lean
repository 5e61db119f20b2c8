/-! a column is given to a row, others move on -/
abbrev XB (c : Nat → Nat → Int) (n : Nat) (u w : Nat → Int) (t : Nat → Nat) (r c0 goal : Nat) (Q : Nat → Bool) (fm : Nat → Nat) (qu : Nat → Int32) (qd : Nat) : Prop := (Q 0 = false) ∧ (Q c0 = true) ∧ (∀ j, 1 ≤ j → j ≤ n → Q j = true → r ≤ t j) ∧ (qd + (if Q goal = true then 1 else 0) = cnt Q (n + 1)) ∧ (∀ i, i < qd → ∃ j, 1 ≤ j ∧ j ≤ n ∧ Q j = true ∧ j ≠ goal ∧ qu i = nI (t j)) ∧ (∀ j, 1 ≤ j → j ≤ n → Q j = true → j ≠ goal → ∃ i, i < qd ∧ qu i = nI (t j)) ∧ (∃ o : Nat → Nat, o c0 = 0 ∧ ∀ j, 1 ≤ j → j ≤ n → Q j = true → j ≠ c0 → ∃ j', 1 ≤ j' ∧ j' ≤ n ∧ Q j' = true ∧ j' ≠ goal ∧ fm j = t j' ∧ o j' < o j ∧ o j < cnt Q (n + 1) ∧ u (t j') + w j = c (t j') j)
theorem XB.q0 {c : Nat → Nat → Int} {n : Nat} {u w : Nat → Int} {t : Nat → Nat} {r c0 goal : Nat} {Q : Nat → Bool} {fm : Nat → Nat} {qu : Nat → Int32} {qd : Nat} (h : XB c n u w t r c0 goal Q fm qu qd) : Q 0 = false := h.1
theorem XB.qc {c : Nat → Nat → Int} {n : Nat} {u w : Nat → Int} {t : Nat → Nat} {r c0 goal : Nat} {Q : Nat → Bool} {fm : Nat → Nat} {qu : Nat → Int32} {qd : Nat} (h : XB c n u w t r c0 goal Q fm qu qd) : Q c0 = true := h.2.1
theorem XB.qs {c : Nat → Nat → Int} {n : Nat} {u w : Nat → Int} {t : Nat → Nat} {r c0 goal : Nat} {Q : Nat → Bool} {fm : Nat → Nat} {qu : Nat → Int32} {qd : Nat} (h : XB c n u w t r c0 goal Q fm qu qd) : ∀ j, 1 ≤ j → j ≤ n → Q j = true → r ≤ t j := h.2.2.1
theorem XB.cn {c : Nat → Nat → Int} {n : Nat} {u w : Nat → Int} {t : Nat → Nat} {r c0 goal : Nat} {Q : Nat → Bool} {fm : Nat → Nat} {qu : Nat → Int32} {qd : Nat} (h : XB c n u w t r c0 goal Q fm qu qd) : qd + (if Q goal = true then 1 else 0) = cnt Q (n + 1) := h.2.2.2.1
theorem XB.qe {c : Nat → Nat → Int} {n : Nat} {u w : Nat → Int} {t : Nat → Nat} {r c0 goal : Nat} {Q : Nat → Bool} {fm : Nat → Nat} {qu : Nat → Int32} {qd : Nat} (h : XB c n u w t r c0 goal Q fm qu qd) : ∀ i, i < qd → ∃ j, 1 ≤ j ∧ j ≤ n ∧ Q j = true ∧ j ≠ goal ∧ qu i = nI (t j) := h.2.2.2.2.1
theorem XB.qa {c : Nat → Nat → Int} {n : Nat} {u w : Nat → Int} {t : Nat → Nat} {r c0 goal : Nat} {Q : Nat → Bool} {fm : Nat → Nat} {qu : Nat → Int32} {qd : Nat} (h : XB c n u w t r c0 goal Q fm qu qd) : ∀ j, 1 ≤ j → j ≤ n → Q j = true → j ≠ goal → ∃ i, i < qd ∧ qu i = nI (t j) := h.2.2.2.2.2.1
theorem XB.od {c : Nat → Nat → Int} {n : Nat} {u w : Nat → Int} {t : Nat → Nat} {r c0 goal : Nat} {Q : Nat → Bool} {fm : Nat → Nat} {qu : Nat → Int32} {qd : Nat} (h : XB c n u w t r c0 goal Q fm qu qd) : ∃ o : Nat → Nat, o c0 = 0 ∧ ∀ j, 1 ≤ j → j ≤ n → Q j = true → j ≠ c0 → ∃ j', 1 ≤ j' ∧ j' ≤ n ∧ Q j' = true ∧ j' ≠ goal ∧ fm j = t j' ∧ o j' < o j ∧ o j < cnt Q (n + 1) ∧ u (t j') + w j = c (t j') j := h.2.2.2.2.2.2
def CLq (c : Nat → Nat → Int) (n : Nat) (u w : Nat → Int) (t : Nat → Nat) (r : Nat) (Q : Nat → Bool) (qu : Nat → Int32) (qd i0 b0 : Nat) : Prop := ∀ i j jq, i < qd → (i < i0 ∨ (i = i0 ∧ j < b0)) → 1 ≤ j → j ≤ n → 1 ≤ jq → jq ≤ n → qu i = nI (t jq) → r ≤ t j → u (t jq) + w j = c (t jq) j → Q j = true
theorem XB.le {c : Nat → Nat → Int} {n : Nat} {u w : Nat → Int} {t : Nat → Nat} {r c0 goal : Nat} {Q : Nat → Bool} {fm : Nat → Nat} {qu : Nat → Int32} {qd : Nat} (h : XB c n u w t r c0 goal Q fm qu qd) : cnt Q (n + 1) ≤ n ∧ qd ≤ n := by
  have l := cnt_lt (p := Q) (q := fun _ => true) (a := 0) (n := n + 1) (fun _ _ _ => rfl) (by omega) rfl h.q0
  rw [cnt_t] at l
  have := h.cn
  omega
theorem XB.add {c : Nat → Nat → Int} {n : Nat} {u w : Nat → Int} {t : Nat → Nat} {r c0 goal : Nat} {Q : Nat → Bool} {fm fm' : Nat → Nat} {qu qu' : Nat → Int32} {qd i j jq : Nat} (h : XB c n u w t r c0 goal Q fm qu qd) (hi : i < qd) (jq1 : 1 ≤ jq) (jq2 : jq ≤ n) (jq3 : Q jq = true) (jq4 : jq ≠ goal) (j1 : 1 ≤ j) (j2 : j ≤ n) (hj : Q j = false) (hr : r ≤ t j) (ht : u (t jq) + w j = c (t jq) j) (f1 : fm' j = t jq) (f2 : ∀ k, k ≠ j → fm' k = fm k) (e1 : j ≠ goal → qu' qd = nI (t j)) (e2 : ∀ k, k < qd → qu' k = qu k) : XB c n u w t r c0 goal (insU Q j) fm' qu' (if j = goal then qd else qd + 1) := by
  have qj : ∀ k, Q k = true → k ≠ j := fun k z e => by rw [e, hj] at z; exact absurd z (by decide)
  have qt : ∀ k, Q k = true → insU Q j k = true := fun k z => by unfold insU; rw [z, Bool.or_true]
  have ca := cnt_add (p := Q) (q := insU Q j) (i := j) hj (insU_s _ _) (fun x z => insU_o z) (n + 1) (by omega)
  have cn := h.cn
  refine ⟨by rw [insU_o (by omega)]; exact h.q0, qt _ h.qc, fun k k1 k2 z => ?_, ?_, fun k hk => ?_, fun k k1 k2 z k3 => ?_, ?_⟩
  · by_cases e : k = j
    · rw [e]; exact hr
    · rw [insU_o e] at z
      exact h.qs k k1 k2 z
  · rw [ca, ← cn]
    by_cases e : j = goal
    · rw [if_pos e, ← e, insU_s, hj]
      simp
    · rw [if_neg e, insU_o (fun z => e z.symm)]
      omega
  · have old : ∀ k, k < qd → ∃ j', 1 ≤ j' ∧ j' ≤ n ∧ insU Q j j' = true ∧ j' ≠ goal ∧ qu' k = nI (t j') := fun k hk => by
      obtain ⟨a, a1, a2, a3, a4, a5⟩ := h.qe k hk
      exact ⟨a, a1, a2, qt a a3, a4, by rw [e2 k hk]; exact a5⟩
    by_cases e : j = goal
    · rw [if_pos e] at hk
      exact old k hk
    · rw [if_neg e] at hk
      by_cases y : k = qd
      · exact ⟨j, j1, j2, insU_s _ _, e, by rw [y]; exact e1 e⟩
      · exact old k (by omega)
  · by_cases e : k = j
    · rw [e] at k3 ⊢
      exact ⟨qd, by rw [if_neg k3]; omega, e1 k3⟩
    · rw [insU_o e] at z
      obtain ⟨a, a1, a2⟩ := h.qa k k1 k2 z k3
      refine ⟨a, ?_, by rw [e2 a a1]; exact a2⟩
      split <;> omega
  · obtain ⟨o, o1, o2⟩ := h.od
    refine ⟨sU o j (cnt Q (n + 1)), by rw [sU_o (qj _ h.qc)]; exact o1, fun k k1 k2 z k3 => ?_⟩
    rw [ca]
    by_cases e : k = j
    · rw [e, f1, sU_s]
      refine ⟨jq, jq1, jq2, qt _ jq3, jq4, rfl, ?_, by omega, ht⟩
      rw [sU_o (qj _ jq3)]
      by_cases y : jq = c0
      · rw [y, o1]; omega
      · obtain ⟨_, _, _, _, _, _, _, y2, _⟩ := o2 jq jq1 jq2 jq3 y
        exact y2
    · rw [insU_o e] at z
      obtain ⟨a, a1, a2, a3, a4, a5, a6, a7, a8⟩ := o2 k k1 k2 z k3
      rw [f2 k e, sU_o e]
      exact ⟨a, a1, a2, qt _ a3, a4, a5, by rw [sU_o (qj _ a3)]; exact a6, by omega, a8⟩
/-- no way: other prices show it -/
def uS (u : Nat → Int) (co : Nat → Nat) (Q : Nat → Bool) (i : Nat) : Int := if Q (co i) = true then u i + 1 else u i
def wS (w : Nat → Int) (Q : Nat → Bool) (j : Nat) : Int := if Q j = true then w j - 1 else w j
theorem no_way {c : Nat → Nat → Int} {n : Nat} {u w : Nat → Int} {t co : Nat → Nat} {r c0 : Nat} {Q : Nat → Bool} {fm : Nat → Nat} {qu : Nat → Int32} {qd : Nat} (T : PTr c n u w t co r) (h : XB c n u w t r c0 (co r) Q fm qu qd) (hQ : Q (co r) = false) (hC : CLq c n u w t r Q qu qd qd 0) : PTr c n (uS u co Q) (wS w Q) t co r ∧ uS u co Q r = u r ∧ wS w Q c0 = w c0 - 1 := by
  refine ⟨⟨T.r1, T.t1, T.c1, fun i j i1 i2 j1 j2 j3 => ?_, fun i i1 i2 => ?_⟩, by unfold uS; rw [hQ]; rfl, by unfold wS; rw [h.qc]; rfl⟩
  · have f := T.f i j i1 i2 j1 j2 j3
    unfold uS wS
    by_cases a : Q (co i) = true
    · rw [if_pos a]
      by_cases b : Q j = true
      · rw [if_pos b]; omega
      · rw [if_neg b]
        have r1 := T.r1
        obtain ⟨k1, k2, k3⟩ := T.c1 i (by omega) i2
        obtain ⟨x, x1, x2⟩ := h.qa (co i) k1 k2 a (fun z => by rw [z, hQ] at a; exact absurd a (by decide))
        have : ¬ u i + w j = c i j := fun z => b (hC x j (co i) x1 (Or.inl x1) j1 j2 k1 k2 x2 j3 (by rw [k3]; exact z))
        omega
    · rw [if_neg a]
      split <;> omega
  · have e := T.ti i i1 i2
    unfold uS wS
    by_cases a : Q (co i) = true
    · rw [if_pos a, if_pos a]; omega
    · rw [if_neg a, if_neg a]; exact e
/-- moving on, under way: the column f is free -/
abbrev MVg (c : Nat → Nat → Int) (n : Nat) (u w : Nat → Int) (t : Nat → Nat) (r goal : Nat) (Q : Nat → Bool) (o : Nat → Nat) (t' co' : Nat → Nat) (f : Nat) : Prop := (1 ≤ f ∧ f ≤ n ∧ Q f = true) ∧ (∀ i, 1 ≤ i → i ≤ n → i ≠ r → 1 ≤ co' i ∧ co' i ≤ n ∧ co' i ≠ f ∧ t' (co' i) = i) ∧ (∀ j, 1 ≤ j → j ≤ n → j ≠ f → 1 ≤ t' j ∧ t' j ≤ n ∧ t' j ≠ r ∧ co' (t' j) = j) ∧ (∀ i, r ≤ i → i ≤ n → i ≠ r → u i + w (co' i) = c i (co' i)) ∧ (∀ j, 1 ≤ j → j ≤ n → j ≠ f → (t' j < r ↔ t j < r)) ∧ (∀ j, 1 ≤ j → j ≤ n → Q j = true → j ≠ goal → o j < o f → t' j = t j)
theorem MVg.f {c : Nat → Nat → Int} {n : Nat} {u w : Nat → Int} {t : Nat → Nat} {r goal : Nat} {Q : Nat → Bool} {o : Nat → Nat} {t' co' : Nat → Nat} {f : Nat} (h : MVg c n u w t r goal Q o t' co' f) : 1 ≤ f ∧ f ≤ n ∧ Q f = true := h.1
theorem MVg.a {c : Nat → Nat → Int} {n : Nat} {u w : Nat → Int} {t : Nat → Nat} {r goal : Nat} {Q : Nat → Bool} {o : Nat → Nat} {t' co' : Nat → Nat} {f : Nat} (h : MVg c n u w t r goal Q o t' co' f) : ∀ i, 1 ≤ i → i ≤ n → i ≠ r → 1 ≤ co' i ∧ co' i ≤ n ∧ co' i ≠ f ∧ t' (co' i) = i := h.2.1
theorem MVg.b {c : Nat → Nat → Int} {n : Nat} {u w : Nat → Int} {t : Nat → Nat} {r goal : Nat} {Q : Nat → Bool} {o : Nat → Nat} {t' co' : Nat → Nat} {f : Nat} (h : MVg c n u w t r goal Q o t' co' f) : ∀ j, 1 ≤ j → j ≤ n → j ≠ f → 1 ≤ t' j ∧ t' j ≤ n ∧ t' j ≠ r ∧ co' (t' j) = j := h.2.2.1
theorem MVg.ti {c : Nat → Nat → Int} {n : Nat} {u w : Nat → Int} {t : Nat → Nat} {r goal : Nat} {Q : Nat → Bool} {o : Nat → Nat} {t' co' : Nat → Nat} {f : Nat} (h : MVg c n u w t r goal Q o t' co' f) : ∀ i, r ≤ i → i ≤ n → i ≠ r → u i + w (co' i) = c i (co' i) := h.2.2.2.1
theorem MVg.z {c : Nat → Nat → Int} {n : Nat} {u w : Nat → Int} {t : Nat → Nat} {r goal : Nat} {Q : Nat → Bool} {o : Nat → Nat} {t' co' : Nat → Nat} {f : Nat} (h : MVg c n u w t r goal Q o t' co' f) : ∀ j, 1 ≤ j → j ≤ n → j ≠ f → (t' j < r ↔ t j < r) := h.2.2.2.2.1
theorem MVg.o {c : Nat → Nat → Int} {n : Nat} {u w : Nat → Int} {t : Nat → Nat} {r goal : Nat} {Q : Nat → Bool} {o : Nat → Nat} {t' co' : Nat → Nat} {f : Nat} (h : MVg c n u w t r goal Q o t' co' f) : ∀ j, 1 ≤ j → j ≤ n → Q j = true → j ≠ goal → o j < o f → t' j = t j := h.2.2.2.2.2
theorem MVg.step {c : Nat → Nat → Int} {n : Nat} {u w : Nat → Int} {t : Nat → Nat} {r goal : Nat} {Q : Nat → Bool} {o t' co' t2 co2 : Nat → Nat} {f j' : Nat} (M : MVg c n u w t r goal Q o t' co' f) (qs : ∀ j, 1 ≤ j → j ≤ n → Q j = true → r ≤ t j) (j1 : 1 ≤ j') (j2 : j' ≤ n) (j3 : Q j' = true) (j4 : j' ≠ goal) (jo : o j' < o f) (ht : u (t j') + w f = c (t j') f) (e1 : co2 (t j') = f) (e2 : ∀ i, i ≠ t j' → co2 i = co' i) (e3 : t2 f = t j') (e4 : ∀ j, j ≠ f → t2 j = t' j) : MVg c n u w t r goal Q o t2 co2 j' ∧ co' (t j') = j' := by
  have nf : j' ≠ f := fun e => by rw [e] at jo; omega
  have tj := M.o j' j1 j2 j3 j4 jo
  obtain ⟨b1, b2, b3, b4⟩ := M.b j' j1 j2 nf
  rw [tj] at b1 b2 b3 b4
  refine ⟨⟨⟨j1, j2, j3⟩, fun i i1 i2 i3 => ?_, fun j k1 k2 k3 => ?_, fun i i1 i2 i3 => ?_, fun j k1 k2 k3 => ?_, fun j k1 k2 k3 k4 k5 => ?_⟩, b4⟩
  · by_cases y : i = t j'
    · rw [y, e1]
      exact ⟨M.f.1, M.f.2.1, fun e => nf e.symm, e3⟩
    · obtain ⟨a1, a2, a3, a4⟩ := M.a i i1 i2 i3
      rw [e2 i y]
      refine ⟨a1, a2, fun e => ?_, by rw [e4 _ a3]; exact a4⟩
      rw [e, tj] at a4
      exact y a4.symm
  · by_cases y : j = f
    · rw [y, e3]
      exact ⟨b1, b2, b3, e1⟩
    · obtain ⟨a1, a2, a3, a4⟩ := M.b j k1 k2 y
      rw [e4 j y]
      refine ⟨a1, a2, a3, ?_⟩
      rw [e2]
      · exact a4
      · intro e
        rw [e, b4] at a4
        exact k3 a4.symm
  · by_cases y : i = t j'
    · rw [y, e1]; exact ht
    · rw [e2 i y]
      exact M.ti i i1 i2 i3
  · by_cases y : j = f
    · rw [y, e3]
      have := qs j' j1 j2 j3
      have := qs f M.f.1 M.f.2.1 M.f.2.2
      omega
    · rw [e4 j y]
      exact M.z j k1 k2 y
  · have y : j ≠ f := fun e => by rw [e] at k5; omega
    rw [e4 j y]
    exact M.o j k1 k2 k3 k4 (by omega)
theorem MVg.last {c : Nat → Nat → Int} {n : Nat} {u w : Nat → Int} {t co : Nat → Nat} {r goal : Nat} {Q : Nat → Bool} {o t' co' t2 co2 : Nat → Nat} {c0 : Nat} (T : PTr c n u w t co r) (M : MVg c n u w t r goal Q o t' co' c0) (rn : r ≤ n) (qs : ∀ j, 1 ≤ j → j ≤ n → Q j = true → r ≤ t j) (ht : u r + w c0 = c r c0) (e1 : co2 r = c0) (e2 : ∀ i, i ≠ r → co2 i = co' i) (e3 : t2 c0 = r) (e4 : ∀ j, j ≠ c0 → t2 j = t' j) : PTr c n u w t2 co2 r ∧ ∀ j, 1 ≤ j → j ≤ n → (t2 j < r ↔ t j < r) := by
  have Z : ∀ j, 1 ≤ j → j ≤ n → (t2 j < r ↔ t j < r) := fun j j1 j2 => by
    by_cases y : j = c0
    · rw [y, e3]
      have := qs c0 M.f.1 M.f.2.1 M.f.2.2
      omega
    · rw [e4 j y]
      exact M.z j j1 j2 y
  refine ⟨⟨T.r1, fun j j1 j2 => ?_, fun i i1 i2 => ?_, fun i j i1 i2 j1 j2 j3 => ?_, fun i i1 i2 => ?_⟩, Z⟩
  · by_cases y : j = c0
    · rw [y, e3, e1]
      exact ⟨T.r1, rn, rfl⟩
    · obtain ⟨a1, a2, a3, a4⟩ := M.b j j1 j2 y
      rw [e4 j y, e2 _ a3]
      exact ⟨a1, a2, a4⟩
  · by_cases y : i = r
    · rw [y, e1, e3]
      exact ⟨M.f.1, M.f.2.1, rfl⟩
    · obtain ⟨a1, a2, a3, a4⟩ := M.a i i1 i2 y
      rw [e2 i y, e4 _ a3]
      exact ⟨a1, a2, a4⟩
  · have := Z j j1 j2
    exact T.f i j i1 i2 j1 j2 (by omega)
  · by_cases y : i = r
    · rw [y, e1]; exact ht
    · rw [e2 i y]
      exact M.ti i i1 i2 y
