/-! the pure side: rows on states, checks, numbers -/
theorem sI_1 (σ : St) (f a b i : Nat) (x : Int32) (f' a' b' i' : Nat) : (sI σ f a b i x).1 f' a' b' i' = if f' = f ∧ a' = a ∧ b' = b ∧ i' = i then x else σ.1 f' a' b' i' := rfl
theorem sI_2 (σ : St) (f a b i : Nat) (x : Int32) (f' a' b' i' : Nat) : (sI σ f a b i x).2 f' a' b' i' = σ.2 f' a' b' i' := rfl
theorem sJ_1 (σ : St) (f a b i : Nat) (x : Int64) (f' a' b' i' : Nat) : (sJ σ f a b i x).1 f' a' b' i' = σ.1 f' a' b' i' := rfl
theorem sJ_2 (σ : St) (f a b i : Nat) (x : Int64) (f' a' b' i' : Nat) : (sJ σ f a b i x).2 f' a' b' i' = if f' = f ∧ a' = a ∧ b' = b ∧ i' = i then x else σ.2 f' a' b' i' := rfl
theorem sA_1 (σ : St) (f a b : Nat) (g : Nat → Int32) (f' a' b' i' : Nat) : (sA σ f a b g).1 f' a' b' i' = if f' = f ∧ a' = a ∧ b' = b then g i' else σ.1 f' a' b' i' := rfl
theorem sA_2 (σ : St) (f a b : Nat) (g : Nat → Int32) (f' a' b' i' : Nat) : (sA σ f a b g).2 f' a' b' i' = σ.2 f' a' b' i' := rfl
theorem sI_s (σ : St) (f a b i : Nat) (x : Int32) : (sI σ f a b i x).1 f a b i = x := if_pos ⟨rfl, rfl, rfl, rfl⟩
theorem sI_o {σ : St} {f a b i : Nat} {x : Int32} {f' a' b' i' : Nat} (h : f' ≠ f) : (sI σ f a b i x).1 f' a' b' i' = σ.1 f' a' b' i' := if_neg fun q => h q.1
theorem sI_i {σ : St} {f a b i : Nat} {x : Int32} {i' : Nat} (h : i' ≠ i) : (sI σ f a b i x).1 f a b i' = σ.1 f a b i' := if_neg fun q => h q.2.2.2
theorem sJ_s (σ : St) (f a b i : Nat) (x : Int64) : (sJ σ f a b i x).2 f a b i = x := if_pos ⟨rfl, rfl, rfl, rfl⟩
theorem sJ_o {σ : St} {f a b i : Nat} {x : Int64} {f' a' b' i' : Nat} (h : f' ≠ f) : (sJ σ f a b i x).2 f' a' b' i' = σ.2 f' a' b' i' := if_neg fun q => h q.1
theorem sJ_i {σ : St} {f a b i : Nat} {x : Int64} {i' : Nat} (h : i' ≠ i) : (sJ σ f a b i x).2 f a b i' = σ.2 f a b i' := if_neg fun q => h q.2.2.2
theorem chk_t {α : Type} {c : Prop} [Decidable c] {k : Option α} (h : c) : chk c k = k := if_pos h
theorem nmx {α β : Type} (x : α) (k : α → β) : nm x k = k x := rfl
theorem bnd_e {α β : Type} (a : α) (σ : St) (k : α → St → Option β) : bnd (some (a, σ)) k = k a σ := rfl
theorem bn1_e {α β : Type} (a : α) (k : α → Option β) : bn1 (some a) k = k a := rfl
theorem btW_n {α β : Type} (σ : St) (k : α → St → Option (Option β × St)) : btW (some (none, σ)) k = some (none, σ) := rfl
theorem btW_s {α β : Type} (r : α) (σ : St) (k : α → St → Option (Option β × St)) : btW (some (some r, σ)) k = k r σ := rfl
theorem btR_n {α β : Type} (σ : St) (k : α → Option (Option β × St)) : btR (some none) σ k = some (none, σ) := rfl
theorem btR_s {α β : Type} (r : α) (σ : St) (k : α → Option (Option β × St)) : btR (some (some r)) σ k = k r := rfl
theorem btO_n {α β : Type} (k : α → Option (Option β)) : btO (some none) k = some none := rfl
theorem btO_s {α β : Type} (r : α) (k : α → Option (Option β)) : btO (some (some r)) k = k r := rfl
theorem inb_n {n N : Nat} (h : n < N) (hN : N < 2 ^ 31) : inb (nI n) N := nI_in h hN
theorem m1_le {n : Nat} (h : n < 2 ^ 31) : ¬ nI n ≤ -1 := by
  rw [Int32.le_iff_toInt_le, nI_toInt h]
  have : (-1 : Int32).toInt = -1 := by decide
  omega
theorem m1_ne {n : Nat} (h : n < 2 ^ 31) : ¬ nI n = -1 := fun e => m1_le h (by rw [e]; exact Int32.le_refl _)
theorem m1_ne' {n : Nat} (h : n < 2 ^ 31) : ¬ (-1 : Int32) = nI n := fun e => m1_ne h e.symm
/-- an argument: below nought, or a number -/
theorem arg32 (x : Int32) : x < 0 ∨ ∃ j : Nat, j < 2 ^ 31 ∧ x = nI j := by
  by_cases h : x < 0
  · exact Or.inl h
  · exact Or.inr (nI_of h)
theorem neg_lt {x : Int32} {n : Nat} (h : x < 0) (hn : n < 2 ^ 31) : x < nI n := by
  rw [Int32.lt_iff_toInt_lt] at h ⊢
  rw [nI_toInt hn]
  rw [Int32.toInt_zero] at h
  omega
theorem neg_nle {x : Int32} {n : Nat} (h : x < 0) (hn : n < 2 ^ 31) : ¬ nI n ≤ x := by
  rw [Int32.lt_iff_toInt_lt] at h
  rw [Int32.le_iff_toInt_le, nI_toInt hn]
  rw [Int32.toInt_zero] at h
  omega
theorem neg_nlt {x : Int32} {n : Nat} (h : x < 0) (hn : n < 2 ^ 31) : ¬ nI n < x := by
  rw [Int32.lt_iff_toInt_lt] at h ⊢
  rw [nI_toInt hn]
  rw [Int32.toInt_zero] at h
  omega
theorem neg_le {x : Int32} {n : Nat} (h : x < 0) (hn : n < 2 ^ 31) : x ≤ nI n := by
  rw [Int32.lt_iff_toInt_lt] at h
  rw [Int32.le_iff_toInt_le, nI_toInt hn]
  rw [Int32.toInt_zero] at h
  omega
theorem neg_ne {x : Int32} {n : Nat} (h : x < 0) (hn : n < 2 ^ 31) : ¬ x = nI n := fun e => nI_pos hn (e ▸ h)
theorem outside_e (N : Nat) (x a b : Int32) (σ : St) : fX_outside N x a b σ = some (if x < a ∨ b < x then 1 else 0) := by
  unfold fX_outside fX_outside_10
  by_cases h1 : x < a
  · rw [if_pos h1, if_pos (Or.inl h1)]
  · rw [if_neg h1]
    by_cases h2 : x ≤ b
    · rw [if_pos h2, if_neg (fun h => h.elim h1 (fun h => Int32.not_lt.mpr h2 h))]
    · rw [if_neg h2, if_pos (Or.inr (Int32.not_le.mp h2))]
theorem lle {k n : Nat} (hk : k < 2 ^ 31) (hn : n < 2 ^ 31) : (no_index (OfNat.ofNat k : Int32)) ≤ nI n ↔ k ≤ n := nI_leI hk hn
theorem llt {k n : Nat} (hk : k < 2 ^ 31) (hn : n < 2 ^ 31) : (no_index (OfNat.ofNat k : Int32)) < nI n ↔ k < n := nI_ltI hk hn
theorem nle {k n : Nat} (hk : k < 2 ^ 31) (hn : n < 2 ^ 31) : nI n ≤ (no_index (OfNat.ofNat k : Int32)) ↔ n ≤ k := nI_leI hn hk
theorem nlt {k n : Nat} (hk : k < 2 ^ 31) (hn : n < 2 ^ 31) : nI n < (no_index (OfNat.ofNat k : Int32)) ↔ n < k := nI_ltI hn hk
theorem neq {k n : Nat} (hk : k < 2 ^ 31) (hn : n < 2 ^ 31) : nI n = (no_index (OfNat.ofNat k : Int32)) ↔ n = k := nI_eq hn hk
theorem leq {k n : Nat} (hk : k < 2 ^ 31) (hn : n < 2 ^ 31) : (no_index (OfNat.ofNat k : Int32)) = nI n ↔ k = n := nI_eq hk hn
theorem nI_m1 {n : Nat} (h : n < 2 ^ 31) : (nI n - 1).toInt = (n : Int) - 1 := by
  cases n with
  | zero => decide
  | succ n => rw [nI_pred, nI_toInt (by omega)]; omega
theorem nI_sub1 (n : Nat) : nI (n + 1) - 1 = nI n := nI_pred n
theorem ntc {n : Nat} (h : n < 2 ^ 31) : (nI n).toNatClampNeg = n := nI_clamp h
theorem ite_01 {c : Prop} [Decidable c] : ((if c then (1 : Int32) else 0).toInt = 0) ↔ ¬ c := by
  by_cases h : c
  · rw [if_pos h]; exact ⟨fun e => absurd e (by decide), fun e => absurd h e⟩
  · rw [if_neg h]; exact ⟨fun _ => h, fun _ => by decide⟩
theorem ite_10 {c : Prop} [Decidable c] : ((if c then (0 : Int32) else 1).toInt = 0) ↔ c := by
  by_cases h : c
  · rw [if_pos h]; exact ⟨fun _ => h, fun _ => by decide⟩
  · rw [if_neg h]; exact ⟨fun e => absurd e (by decide), fun e => absurd e h⟩
theorem mrg1 {α : Type} {c d : Prop} [Decidable c] [Decidable d] {x y : α} : (if c then x else (if d then x else y)) = (if c ∨ d then x else y) := by
  by_cases hc : c <;> by_cases hd : d <;> simp [hc, hd]
theorem mrg2 {α : Type} {c d : Prop} [Decidable c] [Decidable d] {x y : α} : (if c then (if d then y else x) else x) = (if c ∧ d then y else x) := by
  by_cases hc : c <;> by_cases hd : d <;> simp [hc, hd]
theorem mrg3 {α : Type} {c d : Prop} [Decidable c] [Decidable d] {x y : α} : (if c then (if d then x else y) else x) = (if c ∧ ¬ d then y else x) := by
  by_cases hc : c <;> by_cases hd : d <;> simp [hc, hd]
theorem mrg4 {α : Type} {c d : Prop} [Decidable c] [Decidable d] {x y : α} : (if c then x else (if d then y else x)) = (if ¬ c ∧ d then y else x) := by
  by_cases hc : c <;> by_cases hd : d <;> simp [hc, hd]
theorem argN {x : Int32} (h : 0 ≤ x.toInt) : ∃ j : Nat, x = nI j ∧ (nI j).toInt = (j : Int) ∧ (nI j).toNatClampNeg = j := by
  have h0 : ¬ x < 0 := by
    rw [Int32.lt_iff_toInt_lt, Int32.toInt_zero]
    omega
  obtain ⟨j, hj, rfl⟩ := nI_of h0
  exact ⟨j, rfl, nI_toInt hj, nI_clamp hj⟩
theorem ite_none {α : Type} {c : Prop} [Decidable c] {x : Option α} : (if c then x else none) = if ¬ c then none else x := by
  by_cases h : c
  · rw [if_pos h, if_neg (fun q => q h)]
  · rw [if_neg h, if_pos h]
theorem reqE_e (N : Nat) (x n : Int32) (σ : St) : fX_requireElement N x n σ = some (if x < 0 ∨ n ≤ x then none else some ()) := by
  unfold fX_requireElement fX_requireElement_9
  by_cases h1 : x < 0
  · rw [if_pos h1, if_pos (Or.inl h1)]
  · rw [if_neg h1]
    by_cases h2 : x < n
    · rw [if_pos h2, if_neg (fun h => h.elim h1 (fun h => Int32.not_le.mpr h2 h))]
    · rw [if_neg h2, if_pos (Or.inr (Int32.not_lt.mp h2))]
theorem btO_i {α β : Type} {c : Prop} [Decidable c] (r : α) (k : α → Option (Option β)) : btO (some (if c then none else some r)) k = if c then some none else k r := by
  by_cases h : c
  · rw [if_pos h, if_pos h]; rfl
  · rw [if_neg h, if_neg h]; rfl
theorem btR_i {α β : Type} {c : Prop} [Decidable c] (r : α) (σ : St) (k : α → Option (Option β × St)) : btR (some (if c then none else some r)) σ k = if c then some (none, σ) else k r := by
  by_cases h : c
  · rw [if_pos h, if_pos h]; rfl
  · rw [if_neg h, if_neg h]; rfl
theorem reqP_e (N : Nat) (x : Int32) (σ : St) : fX_requirePerson N x σ = some (if x < 0 ∨ σ.1 52 0 0 0 ≤ x then none else some ()) := by
  unfold fX_requirePerson
  rw [reqE_e, btO_i]
  by_cases h : x < 0 ∨ σ.1 52 0 0 0 ≤ x
  · rw [if_pos h, if_pos h]
  · rw [if_neg h, if_neg h]
theorem mIsPerson_e (N : Nat) (x : Int32) (σ : St) : fM_isPerson N x σ = some (if x < 0 ∨ σ.1 208 0 0 0 ≤ x then 0 else 1) := by
  unfold fM_isPerson
  by_cases h1 : x < 0
  · rw [if_pos h1, if_pos (Or.inl h1)]
  · rw [if_neg h1]
    by_cases h2 : σ.1 208 0 0 0 ≤ x
    · rw [if_pos h2, if_pos (Or.inr h2)]
    · rw [if_neg h2, if_neg (fun h => h.elim h1 h2)]
theorem mFail_e (N : Nat) (σ : St) : fM_fail N σ = some (0, sI σ 204 0 0 0 1) := rfl
theorem mThrown_e (N : Nat) (σ : St) : fM_thrown N σ = some (σ.1 204 0 0 0) := rfl
