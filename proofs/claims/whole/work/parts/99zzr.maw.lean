/-! a row is placed: prices that stay below costs -/
abbrev HP (c : Nat → Nat → Int) (n k : Nat) (u w : Nat → Int) (t : Nat → Nat) : Prop := (∀ j, 1 ≤ j → j ≤ n → t j ≤ k) ∧ (∀ j, 1 ≤ j → j ≤ n → 1 ≤ t j → u (t j) + w j = c (t j) j) ∧ (∀ j j', 1 ≤ j → j ≤ n → 1 ≤ j' → j' ≤ n → 1 ≤ t j → t j = t j' → j = j') ∧ (∀ i j, 1 ≤ i → i ≤ k → 1 ≤ j → j ≤ n → u i + w j ≤ c i j) ∧ (∀ i, 1 ≤ i → i ≤ k → ∃ j, 1 ≤ j ∧ j ≤ n ∧ t j = i) ∧ (∀ j, 1 ≤ j → j ≤ n → w j ≤ 0) ∧ (∀ j, 1 ≤ j → j ≤ n → t j = 0 → w j = 0) ∧ (∀ i, k < i → i ≤ n → u i = 0) ∧ (∀ i, 1 ≤ i → i ≤ k → -1000 ≤ u i ∧ u i ≤ 1) ∧ (∀ j, 1 ≤ j → j ≤ n → -1001 ≤ w j ∧ w j ≤ 0)
theorem HP.t1 {c : Nat → Nat → Int} {n k : Nat} {u w : Nat → Int} {t : Nat → Nat} (h : HP c n k u w t) : ∀ j, 1 ≤ j → j ≤ n → t j ≤ k := h.1
theorem HP.ti {c : Nat → Nat → Int} {n k : Nat} {u w : Nat → Int} {t : Nat → Nat} (h : HP c n k u w t) : ∀ j, 1 ≤ j → j ≤ n → 1 ≤ t j → u (t j) + w j = c (t j) j := h.2.1
theorem HP.inj {c : Nat → Nat → Int} {n k : Nat} {u w : Nat → Int} {t : Nat → Nat} (h : HP c n k u w t) : ∀ j j', 1 ≤ j → j ≤ n → 1 ≤ j' → j' ≤ n → 1 ≤ t j → t j = t j' → j = j' := h.2.2.1
theorem HP.f {c : Nat → Nat → Int} {n k : Nat} {u w : Nat → Int} {t : Nat → Nat} (h : HP c n k u w t) : ∀ i j, 1 ≤ i → i ≤ k → 1 ≤ j → j ≤ n → u i + w j ≤ c i j := h.2.2.2.1
theorem HP.on {c : Nat → Nat → Int} {n k : Nat} {u w : Nat → Int} {t : Nat → Nat} (h : HP c n k u w t) : ∀ i, 1 ≤ i → i ≤ k → ∃ j, 1 ≤ j ∧ j ≤ n ∧ t j = i := h.2.2.2.2.1
theorem HP.w0 {c : Nat → Nat → Int} {n k : Nat} {u w : Nat → Int} {t : Nat → Nat} (h : HP c n k u w t) : ∀ j, 1 ≤ j → j ≤ n → w j ≤ 0 := h.2.2.2.2.2.1
theorem HP.fr {c : Nat → Nat → Int} {n k : Nat} {u w : Nat → Int} {t : Nat → Nat} (h : HP c n k u w t) : ∀ j, 1 ≤ j → j ≤ n → t j = 0 → w j = 0 := h.2.2.2.2.2.2.1
theorem HP.u0 {c : Nat → Nat → Int} {n k : Nat} {u w : Nat → Int} {t : Nat → Nat} (h : HP c n k u w t) : ∀ i, k < i → i ≤ n → u i = 0 := h.2.2.2.2.2.2.2.1
theorem HP.bu {c : Nat → Nat → Int} {n k : Nat} {u w : Nat → Int} {t : Nat → Nat} (h : HP c n k u w t) : ∀ i, 1 ≤ i → i ≤ k → -1000 ≤ u i ∧ u i ≤ 1 := h.2.2.2.2.2.2.2.2.1
theorem HP.bw {c : Nat → Nat → Int} {n k : Nat} {u w : Nat → Int} {t : Nat → Nat} (h : HP c n k u w t) : ∀ j, 1 ≤ j → j ≤ n → -1001 ≤ w j ∧ w j ≤ 0 := h.2.2.2.2.2.2.2.2.2
abbrev PG (c : Nat → Nat → Int) (n k : Nat) (u w : Nat → Int) (t : Nat → Nat) (Q : Nat → Bool) (fm : Nat → Nat) (le : Nat → Int) (j0 step : Nat) : Prop := (t 0 = k + 1) ∧ (∀ j, 1 ≤ j → j ≤ n → t j ≤ k) ∧ (∀ j, 1 ≤ j → j ≤ n → 1 ≤ t j → u (t j) + w j = c (t j) j) ∧ (∀ j j', 1 ≤ j → j ≤ n → 1 ≤ j' → j' ≤ n → 1 ≤ t j → t j = t j' → j = j') ∧ (∀ i j, 1 ≤ i → i ≤ k → 1 ≤ j → j ≤ n → u i + w j ≤ c i j) ∧ (1 ≤ step → ∀ j, 1 ≤ j → j ≤ n → u (k + 1) + w j ≤ c (k + 1) j) ∧ (∀ i, 1 ≤ i → i ≤ k → ∃ j, 1 ≤ j ∧ j ≤ n ∧ t j = i) ∧ (∀ j, 1 ≤ j → j ≤ n → w j ≤ 0) ∧ (∀ j, 1 ≤ j → j ≤ n → t j = 0 → w j = 0) ∧ (∀ i, k + 1 < i → i ≤ n → u i = 0) ∧ (step = 0 → u (k + 1) = 0) ∧ (1 ≤ step → -999 ≤ u (k + 1)) ∧ (j0 ≤ n ∧ Q j0 = false) ∧ ((step = 0 ∧ j0 = 0 ∧ ∀ j, j ≤ n → Q j = false) ∨ (1 ≤ step ∧ 1 ≤ j0 ∧ Q 0 = true)) ∧ (cnt Q (n + 1) = step) ∧ (∀ j, 1 ≤ j → j ≤ n → Q j = true → 1 ≤ t j) ∧ (∃ o : Nat → Nat, o 0 = 0 ∧ ∀ j, 1 ≤ j → j ≤ n → (Q j = true ∨ j = j0) → fm j ≤ n ∧ Q (fm j) = true ∧ o (fm j) < o j ∧ o j ≤ step ∧ u (t (fm j)) + w j = c (t (fm j)) j) ∧ (step = 0 → ∀ j, 1 ≤ j → j ≤ n → le j = 1000000000) ∧ (1 ≤ step → ∀ j, 1 ≤ j → j ≤ n → Q j = false → (∀ i, i ≤ n → Q i = true → le j ≤ c (t i) j - u (t i) - w j) ∧ fm j ≤ n ∧ Q (fm j) = true ∧ le j = c (t (fm j)) j - u (t (fm j)) - w j)
theorem PG.t0 {c : Nat → Nat → Int} {n k : Nat} {u w : Nat → Int} {t : Nat → Nat} {Q : Nat → Bool} {fm : Nat → Nat} {le : Nat → Int} {j0 step : Nat} (h : PG c n k u w t Q fm le j0 step) : t 0 = k + 1 := h.1
theorem PG.t1 {c : Nat → Nat → Int} {n k : Nat} {u w : Nat → Int} {t : Nat → Nat} {Q : Nat → Bool} {fm : Nat → Nat} {le : Nat → Int} {j0 step : Nat} (h : PG c n k u w t Q fm le j0 step) : ∀ j, 1 ≤ j → j ≤ n → t j ≤ k := h.2.1
theorem PG.ti {c : Nat → Nat → Int} {n k : Nat} {u w : Nat → Int} {t : Nat → Nat} {Q : Nat → Bool} {fm : Nat → Nat} {le : Nat → Int} {j0 step : Nat} (h : PG c n k u w t Q fm le j0 step) : ∀ j, 1 ≤ j → j ≤ n → 1 ≤ t j → u (t j) + w j = c (t j) j := h.2.2.1
theorem PG.inj {c : Nat → Nat → Int} {n k : Nat} {u w : Nat → Int} {t : Nat → Nat} {Q : Nat → Bool} {fm : Nat → Nat} {le : Nat → Int} {j0 step : Nat} (h : PG c n k u w t Q fm le j0 step) : ∀ j j', 1 ≤ j → j ≤ n → 1 ≤ j' → j' ≤ n → 1 ≤ t j → t j = t j' → j = j' := h.2.2.2.1
theorem PG.f {c : Nat → Nat → Int} {n k : Nat} {u w : Nat → Int} {t : Nat → Nat} {Q : Nat → Bool} {fm : Nat → Nat} {le : Nat → Int} {j0 step : Nat} (h : PG c n k u w t Q fm le j0 step) : ∀ i j, 1 ≤ i → i ≤ k → 1 ≤ j → j ≤ n → u i + w j ≤ c i j := h.2.2.2.2.1
theorem PG.fk {c : Nat → Nat → Int} {n k : Nat} {u w : Nat → Int} {t : Nat → Nat} {Q : Nat → Bool} {fm : Nat → Nat} {le : Nat → Int} {j0 step : Nat} (h : PG c n k u w t Q fm le j0 step) : 1 ≤ step → ∀ j, 1 ≤ j → j ≤ n → u (k + 1) + w j ≤ c (k + 1) j := h.2.2.2.2.2.1
theorem PG.on {c : Nat → Nat → Int} {n k : Nat} {u w : Nat → Int} {t : Nat → Nat} {Q : Nat → Bool} {fm : Nat → Nat} {le : Nat → Int} {j0 step : Nat} (h : PG c n k u w t Q fm le j0 step) : ∀ i, 1 ≤ i → i ≤ k → ∃ j, 1 ≤ j ∧ j ≤ n ∧ t j = i := h.2.2.2.2.2.2.1
theorem PG.w0 {c : Nat → Nat → Int} {n k : Nat} {u w : Nat → Int} {t : Nat → Nat} {Q : Nat → Bool} {fm : Nat → Nat} {le : Nat → Int} {j0 step : Nat} (h : PG c n k u w t Q fm le j0 step) : ∀ j, 1 ≤ j → j ≤ n → w j ≤ 0 := h.2.2.2.2.2.2.2.1
theorem PG.fr {c : Nat → Nat → Int} {n k : Nat} {u w : Nat → Int} {t : Nat → Nat} {Q : Nat → Bool} {fm : Nat → Nat} {le : Nat → Int} {j0 step : Nat} (h : PG c n k u w t Q fm le j0 step) : ∀ j, 1 ≤ j → j ≤ n → t j = 0 → w j = 0 := h.2.2.2.2.2.2.2.2.1
theorem PG.u0 {c : Nat → Nat → Int} {n k : Nat} {u w : Nat → Int} {t : Nat → Nat} {Q : Nat → Bool} {fm : Nat → Nat} {le : Nat → Int} {j0 step : Nat} (h : PG c n k u w t Q fm le j0 step) : ∀ i, k + 1 < i → i ≤ n → u i = 0 := h.2.2.2.2.2.2.2.2.2.1
theorem PG.uz {c : Nat → Nat → Int} {n k : Nat} {u w : Nat → Int} {t : Nat → Nat} {Q : Nat → Bool} {fm : Nat → Nat} {le : Nat → Int} {j0 step : Nat} (h : PG c n k u w t Q fm le j0 step) : step = 0 → u (k + 1) = 0 := h.2.2.2.2.2.2.2.2.2.2.1
theorem PG.ub {c : Nat → Nat → Int} {n k : Nat} {u w : Nat → Int} {t : Nat → Nat} {Q : Nat → Bool} {fm : Nat → Nat} {le : Nat → Int} {j0 step : Nat} (h : PG c n k u w t Q fm le j0 step) : 1 ≤ step → -999 ≤ u (k + 1) := h.2.2.2.2.2.2.2.2.2.2.2.1
theorem PG.j0 {c : Nat → Nat → Int} {n k : Nat} {u w : Nat → Int} {t : Nat → Nat} {Q : Nat → Bool} {fm : Nat → Nat} {le : Nat → Int} {j0 step : Nat} (h : PG c n k u w t Q fm le j0 step) : j0 ≤ n ∧ Q j0 = false := h.2.2.2.2.2.2.2.2.2.2.2.2.1
theorem PG.q0 {c : Nat → Nat → Int} {n k : Nat} {u w : Nat → Int} {t : Nat → Nat} {Q : Nat → Bool} {fm : Nat → Nat} {le : Nat → Int} {j0 step : Nat} (h : PG c n k u w t Q fm le j0 step) : (step = 0 ∧ j0 = 0 ∧ ∀ j, j ≤ n → Q j = false) ∨ (1 ≤ step ∧ 1 ≤ j0 ∧ Q 0 = true) := h.2.2.2.2.2.2.2.2.2.2.2.2.2.1
theorem PG.cn {c : Nat → Nat → Int} {n k : Nat} {u w : Nat → Int} {t : Nat → Nat} {Q : Nat → Bool} {fm : Nat → Nat} {le : Nat → Int} {j0 step : Nat} (h : PG c n k u w t Q fm le j0 step) : cnt Q (n + 1) = step := h.2.2.2.2.2.2.2.2.2.2.2.2.2.2.1
theorem PG.qm {c : Nat → Nat → Int} {n k : Nat} {u w : Nat → Int} {t : Nat → Nat} {Q : Nat → Bool} {fm : Nat → Nat} {le : Nat → Int} {j0 step : Nat} (h : PG c n k u w t Q fm le j0 step) : ∀ j, 1 ≤ j → j ≤ n → Q j = true → 1 ≤ t j := h.2.2.2.2.2.2.2.2.2.2.2.2.2.2.2.1
theorem PG.od {c : Nat → Nat → Int} {n k : Nat} {u w : Nat → Int} {t : Nat → Nat} {Q : Nat → Bool} {fm : Nat → Nat} {le : Nat → Int} {j0 step : Nat} (h : PG c n k u w t Q fm le j0 step) : ∃ o : Nat → Nat, o 0 = 0 ∧ ∀ j, 1 ≤ j → j ≤ n → (Q j = true ∨ j = j0) → fm j ≤ n ∧ Q (fm j) = true ∧ o (fm j) < o j ∧ o j ≤ step ∧ u (t (fm j)) + w j = c (t (fm j)) j := h.2.2.2.2.2.2.2.2.2.2.2.2.2.2.2.2.1
theorem PG.le {c : Nat → Nat → Int} {n k : Nat} {u w : Nat → Int} {t : Nat → Nat} {Q : Nat → Bool} {fm : Nat → Nat} {le : Nat → Int} {j0 step : Nat} (h : PG c n k u w t Q fm le j0 step) : step = 0 → ∀ j, 1 ≤ j → j ≤ n → le j = 1000000000 := h.2.2.2.2.2.2.2.2.2.2.2.2.2.2.2.2.2.1
theorem PG.la {c : Nat → Nat → Int} {n k : Nat} {u w : Nat → Int} {t : Nat → Nat} {Q : Nat → Bool} {fm : Nat → Nat} {le : Nat → Int} {j0 step : Nat} (h : PG c n k u w t Q fm le j0 step) : 1 ≤ step → ∀ j, 1 ≤ j → j ≤ n → Q j = false → (∀ i, i ≤ n → Q i = true → le j ≤ c (t i) j - u (t i) - w j) ∧ fm j ≤ n ∧ Q (fm j) = true ∧ le j = c (t (fm j)) j - u (t (fm j)) - w j := h.2.2.2.2.2.2.2.2.2.2.2.2.2.2.2.2.2.2
theorem cnt_t : ∀ m, cnt (fun _ => true) m = m
  | 0 => rfl
  | m + 1 => by
    show cnt (fun _ => true) m + _ = m + 1
    rw [cnt_t m]
    rfl
theorem freeC {n k : Nat} {t : Nat → Nat} (hk : k < n) (h1 : ∀ j, 1 ≤ j → j ≤ n → t j ≤ k) (h2 : ∀ j j', 1 ≤ j → j ≤ n → 1 ≤ j' → j' ≤ n → 1 ≤ t j → t j = t j' → j = j') : ∃ j, 1 ≤ j ∧ j ≤ n ∧ t j = 0 := by
  refine Classical.byContradiction fun z => ?_
  have nz : ∀ j, 1 ≤ j → j ≤ n → 1 ≤ t j := fun j a b => Classical.byContradiction fun q => z ⟨j, a, b, by omega⟩
  have l := inj_cnt (m := k) (f := fun i => t (i + 1) - 1) n (fun _ => true) (fun _ => true) (fun i hi _ => by
    have := nz (i + 1) (by omega) (by omega)
    have := h1 (i + 1) (by omega) (by omega)
    exact ⟨by omega, rfl⟩) (fun i j hi hj _ _ e => by
    have a := nz (i + 1) (by omega) (by omega)
    have b := nz (j + 1) (by omega) (by omega)
    have := h2 (i + 1) (j + 1) (by omega) (by omega) (by omega) (by omega) a (by omega)
    omega)
  rw [cnt_t, cnt_t] at l
  omega
theorem PG.bd {c : Nat → Nat → Int} {n k : Nat} {u w : Nat → Int} {t : Nat → Nat} {Q : Nat → Bool} {fm : Nat → Nat} {le : Nat → Int} {j0 step : Nat} (h : PG c n k u w t Q fm le j0 step) (hk : k < n) (hc : ∀ i j, -999 ≤ c i j ∧ c i j ≤ 1) : (∀ i, 1 ≤ i → i ≤ k + 1 → -1000 ≤ u i ∧ u i ≤ 1) ∧ ∀ j, 1 ≤ j → j ≤ n → -1001 ≤ w j ∧ w j ≤ 0 := by
  obtain ⟨f, f1, f2, f3⟩ := freeC hk h.t1 h.inj
  have wf := h.fr f f1 f2 f3
  have U : ∀ i, 1 ≤ i → i ≤ k + 1 → -1000 ≤ u i ∧ u i ≤ 1 := fun i i1 i2 => by
    by_cases z : i ≤ k
    · have a := h.f i f i1 z f1 f2
      have b := hc i f
      obtain ⟨j, j1, j2, j3⟩ := h.on i i1 z
      have e := h.ti j j1 j2 (by omega)
      rw [j3] at e
      have := hc i j
      have := h.w0 j j1 j2
      omega
    · have e : i = k + 1 := by omega
      rw [e]
      by_cases s : step = 0
      · have := h.uz s
        omega
      · have a := h.fk (by omega) f f1 f2
        have b := hc (k + 1) f
        have := h.ub (by omega)
        omega
  refine ⟨U, fun j j1 j2 => ⟨?_, h.w0 j j1 j2⟩⟩
  by_cases z : t j = 0
  · rw [h.fr j j1 j2 z]; omega
  · have e := h.ti j j1 j2 (by omega)
    have := U (t j) (by omega) (by have := h.t1 j j1 j2; omega)
    have := hc (t j) j
    omega
def leN (c : Nat → Nat → Int) (u w : Nat → Int) (i0 : Nat) (le : Nat → Int) (j : Nat) : Int := if c i0 j - u i0 - w j < le j then c i0 j - u i0 - w j else le j
def fmN (c : Nat → Nat → Int) (u w : Nat → Int) (i0 j0 : Nat) (le : Nat → Int) (fm : Nat → Nat) (j : Nat) : Nat := if c i0 j - u i0 - w j < le j then j0 else fm j
theorem PG.lf {c : Nat → Nat → Int} {n k : Nat} {u w : Nat → Int} {t : Nat → Nat} {Q : Nat → Bool} {fm : Nat → Nat} {le : Nat → Int} {j0 step : Nat} (h : PG c n k u w t Q fm le j0 step) (hk : k < n) (hc : ∀ i j, -999 ≤ c i j ∧ c i j ≤ 1) (ht : 1 ≤ t j0) : ∀ j, 1 ≤ j → j ≤ n → insU Q j0 j = false → (∀ i, i ≤ n → insU Q j0 i = true → leN c u w (t j0) le j ≤ c (t i) j - u (t i) - w j) ∧ fmN c u w (t j0) j0 le fm j ≤ n ∧ insU Q j0 (fmN c u w (t j0) j0 le fm j) = true ∧ leN c u w (t j0) le j = c (t (fmN c u w (t j0) j0 le fm j)) j - u (t (fmN c u w (t j0) j0 le fm j)) - w j := by
  obtain ⟨bu, bw⟩ := h.bd hk hc
  intro j j1 j2 hq
  have nj : j ≠ j0 := fun e => by rw [e, insU_s] at hq; exact absurd hq (by decide)
  rw [insU_o nj] at hq
  have tk : t j0 ≤ k + 1 := by
    by_cases z : j0 = 0
    · rw [z, h.t0]; omega
    · have := h.t1 j0 (by omega) h.j0.1
      omega
  by_cases s : step = 0
  · have el := h.le s j j1 j2
    have b1 := bu (t j0) ht tk
    have b2 := bw j j1 j2
    have b3 := hc (t j0) j
    have y : c (t j0) j - u (t j0) - w j < le j := by omega
    have e1 : leN c u w (t j0) le j = c (t j0) j - u (t j0) - w j := if_pos y
    have e2 : fmN c u w (t j0) j0 le fm j = j0 := if_pos y
    rw [e1, e2]
    refine ⟨fun i hi z => ?_, h.j0.1, insU_s _ _, rfl⟩
    have q0 := h.q0.resolve_right (by omega)
    by_cases e : i = j0
    · rw [e]; exact Int.le_refl _
    · rw [insU_o e, q0.2.2 i hi] at z
      exact absurd z (by decide)
  · obtain ⟨l1, l2, l3, l4⟩ := h.la (by omega) j j1 j2 hq
    by_cases y : c (t j0) j - u (t j0) - w j < le j
    · have e1 : leN c u w (t j0) le j = c (t j0) j - u (t j0) - w j := if_pos y
      have e2 : fmN c u w (t j0) j0 le fm j = j0 := if_pos y
      rw [e1, e2]
      refine ⟨fun i hi z => ?_, h.j0.1, insU_s _ _, rfl⟩
      by_cases e : i = j0
      · rw [e]; exact Int.le_refl _
      · rw [insU_o e] at z
        have := l1 i hi z
        omega
    · have e1 : leN c u w (t j0) le j = le j := if_neg y
      have e2 : fmN c u w (t j0) j0 le fm j = fm j := if_neg y
      rw [e1, e2]
      refine ⟨fun i hi z => ?_, l2, ?_, l4⟩
      · by_cases e : i = j0
        · rw [e]; omega
        · rw [insU_o e] at z
          exact l1 i hi z
      · unfold insU
        rw [l3, Bool.or_true]
theorem PG.next {c : Nat → Nat → Int} {n k : Nat} {u w u' w' : Nat → Int} {t : Nat → Nat} {Q : Nat → Bool} {fm fm' : Nat → Nat} {le le' : Nat → Int} {j0 step near : Nat} {way : Int} (h : PG c n k u w t Q fm le j0 step) (hk : k < n) (hc : ∀ i j, -999 ≤ c i j ∧ c i j ≤ 1) (ht : 1 ≤ t j0) (n1 : 1 ≤ near) (n2 : near ≤ n) (n3 : insU Q j0 near = false) (n4 : way = leN c u w (t j0) le near) (n5 : ∀ j, 1 ≤ j → j ≤ n → insU Q j0 j = false → way ≤ leN c u w (t j0) le j) (hl : ∀ j, 1 ≤ j → j ≤ n → insU Q j0 j = false → le' j = leN c u w (t j0) le j - way) (hf : ∀ j, 1 ≤ j → j ≤ n → fm' j = if insU Q j0 j = false then fmN c u w (t j0) j0 le fm j else fm j) (hw : ∀ j, 1 ≤ j → j ≤ n → w' j = if insU Q j0 j = true then w j - way else w j) (hu1 : ∀ j, j ≤ n → insU Q j0 j = true → u' (t j) = u (t j) + way) (hu2 : ∀ i, i ≤ n → (∀ j, j ≤ n → insU Q j0 j = true → t j ≠ i) → u' i = u i) : PG c n k u' w' t (insU Q j0) fm' le' near (step + 1) := by
  have LF := h.lf hk hc ht
  obtain ⟨bu, bw⟩ := h.bd hk hc
  obtain ⟨f, f1, f2, f3⟩ := freeC hk h.t1 h.inj
  have qs : ∀ j, Q j = true → insU Q j0 j = true := fun j z => by unfold insU; rw [z, Bool.or_true]
  have qm' : ∀ j, 1 ≤ j → j ≤ n → insU Q j0 j = true → 1 ≤ t j := fun j a b z => by
    by_cases e : j = j0
    · rw [e]; exact ht
    · rw [insU_o e] at z
      exact h.qm j a b z
  have q0' : insU Q j0 0 = true := by
    rcases h.q0 with ⟨_, z, _⟩ | ⟨_, _, z⟩
    · rw [z]; exact insU_s _ _
    · exact qs 0 z
  have tle : ∀ j, j ≤ n → t j ≤ k + 1 := fun j a => by
    by_cases z : j = 0
    · rw [z, h.t0]; omega
    · have := h.t1 j (by omega) a
      omega
  have inj' : ∀ j j', j ≤ n → j' ≤ n → 1 ≤ t j → t j = t j' → j = j' := fun j j' a b z e => by
    by_cases p : j = 0
    · by_cases q : j' = 0
      · omega
      · rw [p, h.t0] at e
        have := h.t1 j' (by omega) b
        omega
    · by_cases q : j' = 0
      · rw [q, h.t0] at e
        have := h.t1 j (by omega) a
        omega
      · exact h.inj j j' (by omega) a (by omega) b z e
  have w1 : ∀ j, 1 ≤ j → j ≤ n → insU Q j0 j = true → w' j = w j - way := fun j a b z => by rw [hw j a b, if_pos z]
  have w2 : ∀ j, 1 ≤ j → j ≤ n → insU Q j0 j = false → w' j = w j := fun j a b z => by rw [hw j a b, if_neg (by rw [z]; decide)]
  have ff : insU Q j0 f = false := by
    cases z : insU Q j0 f with
    | false => rfl
    | true => have := qm' f f1 f2 z; omega
  have wp : 1 ≤ step → 0 ≤ way := fun s => by
    obtain ⟨a1, a2, a3, a4⟩ := LF near n1 n2 n3
    rw [n4, a4]
    have p : 1 ≤ t (fmN c u w (t j0) j0 le fm near) := by
      by_cases z : fmN c u w (t j0) j0 le fm near = 0
      · rw [z, h.t0]; omega
      · exact qm' _ (by omega) a2 a3
    by_cases z : t (fmN c u w (t j0) j0 le fm near) ≤ k
    · have := h.f _ near p z n1 n2
      omega
    · have e : t (fmN c u w (t j0) j0 le fm near) = k + 1 := by have := tle _ a2; omega
      rw [e]
      have := h.fk s near n1 n2
      omega
  have qj : ∀ j, 1 ≤ j → j ≤ n → insU Q j0 j = true → 1 ≤ step := fun j a b z => by
    rcases h.q0 with ⟨s, e, e2⟩ | ⟨s, _, _⟩
    · by_cases y : j = j0
      · omega
      · rw [insU_o y, e2 j b] at z
        exact absurd z (by decide)
    · exact s
  -- a row's price with a column's, as they stand now
  have slx : ∀ i j, 1 ≤ i → i ≤ k + 1 → 1 ≤ j → j ≤ n → (i ≤ k ∨ 1 ≤ step ∨ insU Q j0 j = false) → u' i + w' j ≤ c i j := fun i j i1 i2 j1 j2 o => by
    have old : (i ≤ k ∨ 1 ≤ step) → u i + w j ≤ c i j := fun o => by
      by_cases z : i ≤ k
      · exact h.f i j i1 z j1 j2
      · have e : i = k + 1 := by omega
        rw [e]
        exact h.fk (by omega) j j1 j2
    by_cases r : ∃ j', j' ≤ n ∧ insU Q j0 j' = true ∧ t j' = i
    · obtain ⟨j', r1, r2, r3⟩ := r
      have e := hu1 j' r1 r2
      rw [r3] at e
      rw [e]
      cases z : insU Q j0 j with
      | true =>
        rw [w1 j j1 j2 z]
        have := old (Or.inr (qj j j1 j2 z))
        omega
      | false =>
        rw [w2 j j1 j2 z]
        have a := (LF j j1 j2 z).1 j' r1 r2
        have b := n5 j j1 j2 z
        rw [r3] at a
        omega
    · have ik : i ≤ k := by
        by_cases z : i ≤ k
        · exact z
        · exact absurd ⟨0, by omega, q0', by rw [h.t0]; omega⟩ r
      have e := hu2 i (by omega) (fun j' a b z => r ⟨j', a, b, z⟩)
      rw [e]
      have o2 := old (Or.inl ik)
      cases z : insU Q j0 j with
      | true =>
        rw [w1 j j1 j2 z]
        have := wp (qj j j1 j2 z)
        omega
      | false => rw [w2 j j1 j2 z]; exact o2
  have e0 : u' (k + 1) = u (k + 1) + way := by
    have := hu1 0 (by omega) q0'
    rw [h.t0] at this
    exact this
  refine ⟨h.t0, h.t1, fun j j1 j2 z => ?_, h.inj, fun i j i1 i2 j1 j2 => slx i j i1 (by omega) j1 j2 (Or.inl i2), fun _ j j1 j2 => ?_, h.on, fun j j1 j2 => ?_, fun j j1 j2 z => ?_, fun i i1 i2 => ?_, fun z => by omega, fun _ => ?_, ⟨n2, n3⟩, Or.inr ⟨by omega, n1, q0'⟩, ?_, qm', ?_, fun z => by omega, fun _ j j1 j2 z => ?_⟩
  · have e := h.ti j j1 j2 z
    cases q : insU Q j0 j with
    | true =>
      rw [w1 j j1 j2 q, hu1 j j2 q]
      omega
    | false =>
      rw [w2 j j1 j2 q, hu2 (t j) (by have := h.t1 j j1 j2; omega) fun j' a b d => by
        have := inj' j' j a j2 (by rw [d]; exact z) d
        rw [this, q] at b
        exact absurd b (by decide)]
      exact e
  · by_cases s : 1 ≤ step
    · exact slx (k + 1) j (by omega) (by omega) j1 j2 (Or.inr (Or.inl s))
    · refine slx (k + 1) j (by omega) (by omega) j1 j2 (Or.inr (Or.inr ?_))
      cases q : insU Q j0 j with
      | false => rfl
      | true => exact absurd (qj j j1 j2 q) s
  · have := h.w0 j j1 j2
    cases q : insU Q j0 j with
    | true =>
      rw [w1 j j1 j2 q]
      have := wp (qj j j1 j2 q)
      omega
    | false => rw [w2 j j1 j2 q]; exact this
  · have q : insU Q j0 j = false := by
      cases q : insU Q j0 j with
      | false => rfl
      | true => have := qm' j j1 j2 q; omega
    rw [w2 j j1 j2 q]
    exact h.fr j j1 j2 z
  · rw [hu2 i i2 fun j a b e => by
      have := tle j a
      omega]
    exact h.u0 i i1 i2
  · rw [e0]
    by_cases s : 1 ≤ step
    · have := wp s
      have := h.ub s
      omega
    · have e1 := h.uz (by omega)
      have q0 := h.q0.resolve_right (by omega)
      obtain ⟨a1, a2, a3, a4⟩ := LF near n1 n2 n3
      have e2 : fmN c u w (t j0) j0 le fm near = j0 := by
        by_cases y : fmN c u w (t j0) j0 le fm near = j0
        · exact y
        · rw [insU_o y, q0.2.2 _ a2] at a3
          exact absurd a3 (by decide)
      rw [e2, q0.2.1, h.t0, e1] at a4
      have b2 := bw near n1 n2
      have b3 := hc (k + 1) near
      rw [e1, n4, q0.2.1, h.t0]
      omega
  · have := cnt_add (p := Q) (q := insU Q j0) (i := j0) h.j0.2 (insU_s _ _) (fun x z => insU_o z) (n + 1) (by have := h.j0.1; omega)
    rw [this, h.cn]
  · obtain ⟨o, o0, o1⟩ := h.od
    obtain ⟨a1, a2, a3, a4⟩ := LF near n1 n2 n3
    have nn : near ≠ 0 := by omega
    have nQ : ∀ j, insU Q j0 j = true → j ≠ near := fun j z e => by rw [e, n3] at z; exact absurd z (by decide)
    have oQ : ∀ j, j ≤ n → insU Q j0 j = true → o j ≤ step := fun j j2 z => by
      by_cases y : j = 0
      · rw [y, o0]; omega
      · refine (o1 j (by omega) j2 ?_).2.2.2.1
        by_cases e : j = j0
        · exact Or.inr e
        · rw [insU_o e] at z; exact Or.inl z
    refine ⟨sU o near (step + 1), by rw [sU_o (fun e => nn e.symm)]; exact o0, fun j j1 j2 z => ?_⟩
    by_cases e : j = near
    · rw [e, hf near n1 n2, if_pos n3, sU_s, sU_o (nQ _ a3)]
      refine ⟨a2, a3, ?_, Nat.le_refl _, ?_⟩
      · have := oQ _ a2 a3
        omega
      · rw [w2 near n1 n2 n3, hu1 _ a2 a3]
        omega
    · have z := z.resolve_right e
      have q : Q j = true ∨ j = j0 := by
        by_cases y : j = j0
        · exact Or.inr y
        · rw [insU_o y] at z; exact Or.inl z
      obtain ⟨b1, b2, b3, b4, b5⟩ := o1 j j1 j2 q
      rw [hf j j1 j2, if_neg (by rw [z]; decide), sU_o e, sU_o (nQ _ (qs _ b2))]
      refine ⟨b1, qs _ b2, b3, by omega, ?_⟩
      rw [w1 j j1 j2 z, hu1 _ b1 (qs _ b2)]
      omega
  · obtain ⟨a1, a2, a3, a4⟩ := LF j j1 j2 z
    rw [hl j j1 j2 z, w2 j j1 j2 z, hf j j1 j2, if_pos z]
    refine ⟨fun i hi q => ?_, a2, a3, ?_⟩
    · rw [hu1 i hi q]
      have := a1 i hi q
      omega
    · rw [hu1 _ a2 a3]
      omega
