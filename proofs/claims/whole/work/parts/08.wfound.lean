/-! the world of this claim: one list of cells, read and written through a state of numbers -/
abbrev ZT : Type := Nat × va_G × (Nat → ClassId) × (Nat → Nat)
def svz (Z : ZT) (τ : St) (q : sD) : Value := match q.1 with
  | 0 => .int (τ.1 q.2.1 q.2.2.1 q.2.2.2 0)
  | 1 => .long (τ.2 q.2.1 q.2.2.1 q.2.2.2 0)
  | 2 => .ref (Z.1 + q.2.1)
  | 3 => if τ.1 q.2.1 q.2.2.1 q.2.2.2 0 < 0 then .null else .ref (Z.1 + (90 + 6 * (τ.1 q.2.1 q.2.2.1 q.2.2.2 0).toNatClampNeg))
  | _ => .ref (Z.2.2.2 q.2.1)
def we (Z : ZT) (τ : St) (d : dC) : va_E := match d with
  | .inl o => .inr (o.1, o.2.map (svz Z τ))
  | .inr a => .inl (Z.2.2.1 a.1, a.2.1, if a.1 < 3 then .inl (fun i => τ.1 a.2.2.1 a.2.2.2.1 a.2.2.2.2 i) else if a.1 = 3 then .inr (.inl (fun i => τ.2 a.2.2.1 a.2.2.2.1 a.2.2.2.2 i))
      else if a.1 = 7 then .inr (.inr (.inr (.inr (fun i => some (Z.2.2.2 (a.2.2.1 + i)))))) else .inr (.inr (.inr (.inr (fun i => some (Z.1 + (a.2.2.1 + a.2.2.2.1 * i)))))))
def wws (Z : ZT) (τ : St) : va_W := (List.range NTOT).map (fun id => (Z.1 + id, we Z τ (wdesc id)))
theorem wws_get (Z : ZT) (τ : St) {id : Nat} (h : id < NTOT) : (wws Z τ)[id]? = some (Z.1 + id, we Z τ (wdesc id)) := by
  unfold wws
  rw [List.getElem?_map, List.getElem?_range h]
  rfl
theorem wws_of {Z : ZT} {τ : St} {k : Nat} {q : Nat × va_E} (h : (wws Z τ)[k]? = some q) : k < NTOT ∧ q = (Z.1 + k, we Z τ (wdesc k)) := by
  have hl : k < (wws Z τ).length := (List.getElem?_eq_some_iff.mp h).1
  have hk : k < NTOT := by simpa [wws] using hl
  rw [wws_get Z τ hk] at h
  exact ⟨hk, (Option.some.inj h).symm⟩
theorem wws_D (Z : ZT) (τ : St) : va_D (fun q => Z.1 ≤ q) (wws Z τ) := by
  refine ⟨fun i j p q hi hj h => ?_, fun k q h => ?_⟩
  · obtain ⟨-, rfl⟩ := wws_of hi
    obtain ⟨-, rfl⟩ := wws_of hj
    exact Nat.add_left_cancel h
  · obtain ⟨-, rfl⟩ := wws_of h
    exact Nat.le_add_right _ _
theorem wws_set {Z : ZT} {τ τ' : St} {id : Nat} (h : id < NTOT) (hs : ∀ j, j < NTOT → j ≠ id → we Z τ' (wdesc j) = we Z τ (wdesc j)) : (wws Z τ).set id (Z.1 + id, we Z τ' (wdesc id)) = wws Z τ' := by
  apply List.ext_getElem?
  intro j
  by_cases hj : j < NTOT
  · by_cases e : j = id
    · subst e
      rw [List.getElem?_set_self (by simpa [wws] using h), wws_get Z τ' h]
    · rw [List.getElem?_set_ne (Ne.symm e), wws_get Z τ hj, wws_get Z τ' hj, hs j hj e]
  · rw [List.getElem?_eq_none (by simp [wws]; omega), List.getElem?_eq_none (by simp [wws]; omega)]
theorem sI_ne {τ : St} {f a b i f' a' b' i' : Nat} {x : Int32} (h : ¬ (f' = f ∧ a' = a ∧ b' = b)) : (sI τ f a b i x).1 f' a' b' i' = τ.1 f' a' b' i' := by
  show (if f' = f ∧ a' = a ∧ b' = b ∧ i' = i then x else _) = _
  rw [if_neg]
  exact fun q => h ⟨q.1, q.2.1, q.2.2.1⟩
theorem sJ_ne {τ : St} {f a b i f' a' b' i' : Nat} {x : Int64} (h : ¬ (f' = f ∧ a' = a ∧ b' = b)) : (sJ τ f a b i x).2 f' a' b' i' = τ.2 f' a' b' i' := by
  show (if f' = f ∧ a' = a ∧ b' = b ∧ i' = i then x else _) = _
  rw [if_neg]
  exact fun q => h ⟨q.1, q.2.1, q.2.2.1⟩
theorem sA_ne {τ : St} {f a b f' a' b' i' : Nat} {g : Nat → Int32} (h : ¬ (f' = f ∧ a' = a ∧ b' = b)) : (sA τ f a b g).1 f' a' b' i' = τ.1 f' a' b' i' := by
  show (if f' = f ∧ a' = a ∧ b' = b then g i' else _) = _
  rw [if_neg]
  exact fun q => h ⟨q.1, q.2.1, q.2.2⟩
/-- two states that differ at one owner alone -/
def onlyAt (f a b : Nat) (τ τ' : St) : Prop := (∀ f' a' b' i, ¬ (f' = f ∧ a' = a ∧ b' = b) → τ'.1 f' a' b' i = τ.1 f' a' b' i) ∧ (∀ f' a' b' i, ¬ (f' = f ∧ a' = a ∧ b' = b) → τ'.2 f' a' b' i = τ.2 f' a' b' i)
theorem onlyAt_I {τ : St} {f a b i : Nat} {x : Int32} : onlyAt f a b τ (sI τ f a b i x) := ⟨fun _ _ _ _ h => sI_ne h, fun _ _ _ _ _ => rfl⟩
theorem onlyAt_J {τ : St} {f a b i : Nat} {x : Int64} : onlyAt f a b τ (sJ τ f a b i x) := ⟨fun _ _ _ _ _ => rfl, fun _ _ _ _ h => sJ_ne h⟩
theorem onlyAt_A {τ : St} {f a b : Nat} {g : Nat → Int32} : onlyAt f a b τ (sA τ f a b g) := ⟨fun _ _ _ _ h => sA_ne h, fun _ _ _ _ _ => rfl⟩
theorem wsl_mem {id : Nat} : ∀ {l : List sD}, wsl id l = true → ∀ q ∈ l, (q.1 = 0 ∨ q.1 = 1 ∨ q.1 = 3) → wown q.2.1 q.2.2.1 q.2.2.2 = id
  | [], _, q, h, _ => absurd h List.not_mem_nil
  | r :: l, hc, q, h, ht => by
    simp only [wsl, Bool.and_eq_true] at hc
    rcases List.mem_cons.mp h with rfl | h
    · have := hc.1
      rw [if_pos ht] at this
      simp only [Bool.and_eq_true, decide_eq_true_eq] at this
      exact this.1
    · exact wsl_mem hc.2 q h ht
theorem sv_only {Z : ZT} {τ τ' : St} {f a b : Nat} (h : onlyAt f a b τ τ') {q : sD} (hq : (q.1 = 0 ∨ q.1 = 1 ∨ q.1 = 3) → ¬ (q.2.1 = f ∧ q.2.2.1 = a ∧ q.2.2.2 = b)) : svz Z τ' q = svz Z τ q := by
  obtain ⟨t, x, y, z⟩ := q
  unfold svz
  dsimp only at hq ⊢
  split
  · rw [h.1 _ _ _ _ (hq (Or.inl rfl))]
  · rw [h.2 _ _ _ _ (hq (Or.inr (Or.inl rfl)))]
  · rfl
  · rw [h.1 _ _ _ _ (hq (Or.inr (Or.inr rfl)))]
  · rfl
theorem we_only {Z : ZT} {τ τ' : St} {f a b j : Nat} (h : onlyAt f a b τ τ') (hj : j < NTOT) (hne : wown f a b ≠ j) : we Z τ' (wdesc j) = we Z τ (wdesc j) := by
  have hc := wchk_ok j hj
  unfold wchk at hc
  unfold we
  split
  · rename_i o ho
    rw [ho] at hc
    dsimp only at hc
    congr 2
    apply List.map_congr_left
    intro q hq
    refine sv_only h (fun ht e => hne ?_)
    have := wsl_mem hc q hq ht
    rw [e.1, e.2.1, e.2.2] at this
    exact this
  · rename_i o ho
    rw [ho] at hc
    dsimp only at hc
    by_cases h4 : o.1 < 4
    · rw [if_pos h4] at hc
      have hown := of_decide_eq_true hc
      have hno : ¬ (o.2.2.1 = f ∧ o.2.2.2.1 = a ∧ o.2.2.2.2 = b) := by
        rintro ⟨rfl, rfl, rfl⟩
        exact hne hown
      congr 3
      have e1 : (fun i => τ'.1 o.2.2.1 o.2.2.2.1 o.2.2.2.2 i) = (fun i => τ.1 o.2.2.1 o.2.2.2.1 o.2.2.2.2 i) := funext fun i => h.1 _ _ _ i hno
      have e2 : (fun i => τ'.2 o.2.2.1 o.2.2.2.1 o.2.2.2.2 i) = (fun i => τ.2 o.2.2.1 o.2.2.2.1 o.2.2.2.2 i) := funext fun i => h.2 _ _ _ i hno
      rw [e1, e2]
    · have h3 : ¬ o.1 < 3 := by omega
      have h5 : ¬ o.1 = 3 := by omega
      simp only [h3, h5, if_false]
/-- a row of slots behind a write of one of them -/
theorem wsl_set {Z : ZT} {id : Nat} {τ τ' : St} {v : Value} : ∀ {l : List sD} {k : Nat} {q : sD}, wsl id l = true → l[k]? = some q → (q.1 = 0 ∨ q.1 = 1 ∨ q.1 = 3) → onlyAt q.2.1 q.2.2.1 q.2.2.2 τ τ' → svz Z τ' q = v → l.map (svz Z τ') = (l.map (svz Z τ)).set k v
  | [], k, q, _, h, _, _, _ => by simp at h
  | r :: l, 0, q, hc, h, ht, ho, hv => by
    simp only [List.getElem?_cons_zero, Option.some.injEq] at h
    subst h
    simp only [List.map_cons, List.set_cons_zero]
    rw [hv]
    congr 1
    simp only [wsl, Bool.and_eq_true] at hc
    have h1 := hc.1
    rw [if_pos ht] at h1
    simp only [Bool.and_eq_true, List.all_eq_true] at h1
    apply List.map_congr_left
    intro q' hq'
    refine sv_only ho (fun ht' e => ?_)
    have := of_decide_eq_true (h1.2 q' hq')
    rcases this with h2 | h2
    · rw [h2] at ht'
      simp at ht'
    · exact h2 e.1
  | r :: l, k + 1, q, hc, h, ht, ho, hv => by
    simp only [List.getElem?_cons_succ] at h
    simp only [List.map_cons, List.set_cons_succ]
    simp only [wsl, Bool.and_eq_true] at hc
    rw [wsl_set hc.2 h ht ho hv]
    congr 1
    refine sv_only ho (fun ht' e => ?_)
    have h1 := hc.1
    rw [if_pos ht'] at h1
    simp only [Bool.and_eq_true, List.all_eq_true] at h1
    have := of_decide_eq_true (h1.2 q (List.mem_of_getElem? h))
    rcases this with h2 | h2
    · rw [h2] at ht
      simp at ht
    · exact h2 e.1.symm
/-- the class' numbers and the reference's, in one world -/
def cmb (σ μ : St) : St := (fun f a b i => if f < 200 then σ.1 f a b i else μ.1 f a b i, fun f a b i => if f < 200 then σ.2 f a b i else μ.2 f a b i)
theorem cmb_I {σ μ : St} {f a b i : Nat} {x : Int32} (h : f < 200) : cmb (sI σ f a b i x) μ = sI (cmb σ μ) f a b i x := by
  unfold cmb sI
  congr 1
  funext f' a' b' i'
  dsimp only
  by_cases h1 : f' < 200
  · simp only [h1, if_true]
  · have : f' ≠ f := by omega
    simp only [h1, this, if_false, false_and]
theorem cmb_J {σ μ : St} {f a b i : Nat} {x : Int64} (h : f < 200) : cmb (sJ σ f a b i x) μ = sJ (cmb σ μ) f a b i x := by
  unfold cmb sJ
  congr 1
  funext f' a' b' i'
  dsimp only
  by_cases h1 : f' < 200
  · simp only [h1, if_true]
  · have : f' ≠ f := by omega
    simp only [h1, this, if_false, false_and]
theorem cmb_A {σ μ : St} {f a b : Nat} {g : Nat → Int32} (h : f < 200) : cmb (sA σ f a b g) μ = sA (cmb σ μ) f a b g := by
  unfold cmb sA
  congr 1
  funext f' a' b' i'
  dsimp only
  by_cases h1 : f' < 200
  · simp only [h1, if_true]
  · have : f' ≠ f := by omega
    simp only [h1, this, if_false, false_and]
theorem cmb_Im {σ μ : St} {f a b i : Nat} {x : Int32} (h : ¬ f < 200) : cmb σ (sI μ f a b i x) = sI (cmb σ μ) f a b i x := by
  unfold cmb sI
  congr 1
  funext f' a' b' i'
  dsimp only
  by_cases h1 : f' < 200
  · have : f' ≠ f := by omega
    simp only [h1, this, if_true, false_and, if_false]
  · simp only [h1, if_false]
theorem cmb_Jm {σ μ : St} {f a b i : Nat} {x : Int64} (h : ¬ f < 200) : cmb σ (sJ μ f a b i x) = sJ (cmb σ μ) f a b i x := by
  unfold cmb sJ
  congr 1
  funext f' a' b' i'
  dsimp only
  by_cases h1 : f' < 200
  · have : f' ≠ f := by omega
    simp only [h1, this, if_true, false_and, if_false]
  · simp only [h1, if_false]
