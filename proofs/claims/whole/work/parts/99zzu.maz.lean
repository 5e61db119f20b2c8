/-! arrays filled; a row placed, from its first step to its last -/
theorem fill_rowPrice {N : Nat} {x : Int32} (hN : 100 ≤ N) (σ : St) : ∃ σ', fArrays_fill_Sending_rowPrice N x σ = some σ' ∧ (∀ f a b i, f ≠ 129 → σ'.1 f a b i = σ.1 f a b i) ∧ σ'.2 = σ.2 ∧ ∀ i, i < 45 → σ'.1 129 0 0 i = x := by
  have l : ∀ (e v m : Nat) (ρ : St), v + e = 45 → e < m → (∀ f a b i, f ≠ 129 → ρ.1 f a b i = σ.1 f a b i) → ρ.2 = σ.2 → (∀ i, i < v → ρ.1 129 0 0 i = x) → ∃ σ', fArrays_fill_Sending_rowPrice_5 N m x (nI v) (nI 45) ρ = some σ' ∧ (∀ f a b i, f ≠ 129 → σ'.1 f a b i = σ.1 f a b i) ∧ σ'.2 = σ.2 ∧ ∀ i, i < 45 → σ'.1 129 0 0 i = x := by
    intro e
    induction e with
    | zero =>
      intro v m ρ h1 h2 h3 h4 h5
      obtain ⟨m, rfl⟩ : ∃ q, m = q + 1 := ⟨m - 1, by omega⟩
      have : v = 45 := by omega
      subst this
      refine ⟨ρ, ?_, h3, h4, h5⟩
      show (if nI 45 ≤ nI 45 then some ρ else _) = _
      exact if_pos (Int32.le_refl _)
    | succ e ih =>
      intro v m ρ h1 h2 h3 h4 h5
      obtain ⟨m, rfl⟩ : ∃ q, m = q + 1 := ⟨m - 1, by omega⟩
      have e0 : fArrays_fill_Sending_rowPrice_5 N (m + 1) x (nI v) (nI 45) ρ = fArrays_fill_Sending_rowPrice_5 N m x (nI (v + 1)) (nI 45) (sI ρ 129 0 0 v x) := by
        show (if nI 45 ≤ nI v then _ else chk (inb (nI v) 45) <| nm (sI ρ 129 0 0 (nI v).toNatClampNeg x) fun (σ1 : St) => (fArrays_fill_Sending_rowPrice_5 N m) x (nI v + 1) (nI 45) σ1) = _
        rw [if_neg (nI_ge (by omega) (by decide)), chk_t (inb_n (by omega) (by decide)), nmx, nI_clamp (by omega), nI_1]
      rw [e0]
      refine ih (v + 1) m _ (by omega) (by omega) (fun f a b i z => by rw [sI_o z]; exact h3 f a b i z) h4 fun i hi => ?_
      by_cases k : i = v
      · rw [k, sI_s]
      · rw [sI_i k]
        exact h5 i (by omega)
  exact l 45 0 N σ (by omega) (by omega) (fun _ _ _ _ _ => rfl) rfl (fun i hi => absurd hi (by omega))
theorem fill_columnPrice {N : Nat} {x : Int32} (hN : 100 ≤ N) (σ : St) : ∃ σ', fArrays_fill_Sending_columnPrice N x σ = some σ' ∧ (∀ f a b i, f ≠ 130 → σ'.1 f a b i = σ.1 f a b i) ∧ σ'.2 = σ.2 ∧ ∀ i, i < 45 → σ'.1 130 0 0 i = x := by
  have l : ∀ (e v m : Nat) (ρ : St), v + e = 45 → e < m → (∀ f a b i, f ≠ 130 → ρ.1 f a b i = σ.1 f a b i) → ρ.2 = σ.2 → (∀ i, i < v → ρ.1 130 0 0 i = x) → ∃ σ', fArrays_fill_Sending_columnPrice_5 N m x (nI v) (nI 45) ρ = some σ' ∧ (∀ f a b i, f ≠ 130 → σ'.1 f a b i = σ.1 f a b i) ∧ σ'.2 = σ.2 ∧ ∀ i, i < 45 → σ'.1 130 0 0 i = x := by
    intro e
    induction e with
    | zero =>
      intro v m ρ h1 h2 h3 h4 h5
      obtain ⟨m, rfl⟩ : ∃ q, m = q + 1 := ⟨m - 1, by omega⟩
      have : v = 45 := by omega
      subst this
      refine ⟨ρ, ?_, h3, h4, h5⟩
      show (if nI 45 ≤ nI 45 then some ρ else _) = _
      exact if_pos (Int32.le_refl _)
    | succ e ih =>
      intro v m ρ h1 h2 h3 h4 h5
      obtain ⟨m, rfl⟩ : ∃ q, m = q + 1 := ⟨m - 1, by omega⟩
      have e0 : fArrays_fill_Sending_columnPrice_5 N (m + 1) x (nI v) (nI 45) ρ = fArrays_fill_Sending_columnPrice_5 N m x (nI (v + 1)) (nI 45) (sI ρ 130 0 0 v x) := by
        show (if nI 45 ≤ nI v then _ else chk (inb (nI v) 45) <| nm (sI ρ 130 0 0 (nI v).toNatClampNeg x) fun (σ1 : St) => (fArrays_fill_Sending_columnPrice_5 N m) x (nI v + 1) (nI 45) σ1) = _
        rw [if_neg (nI_ge (by omega) (by decide)), chk_t (inb_n (by omega) (by decide)), nmx, nI_clamp (by omega), nI_1]
      rw [e0]
      refine ih (v + 1) m _ (by omega) (by omega) (fun f a b i z => by rw [sI_o z]; exact h3 f a b i z) h4 fun i hi => ?_
      by_cases k : i = v
      · rw [k, sI_s]
      · rw [sI_i k]
        exact h5 i (by omega)
  exact l 45 0 N σ (by omega) (by omega) (fun _ _ _ _ _ => rfl) rfl (fun i hi => absurd hi (by omega))
theorem fill_rowAt {N : Nat} {x : Int32} (hN : 100 ≤ N) (σ : St) : ∃ σ', fArrays_fill_Sending_rowAt N x σ = some σ' ∧ (∀ f a b i, f ≠ 131 → σ'.1 f a b i = σ.1 f a b i) ∧ σ'.2 = σ.2 ∧ ∀ i, i < 45 → σ'.1 131 0 0 i = x := by
  have l : ∀ (e v m : Nat) (ρ : St), v + e = 45 → e < m → (∀ f a b i, f ≠ 131 → ρ.1 f a b i = σ.1 f a b i) → ρ.2 = σ.2 → (∀ i, i < v → ρ.1 131 0 0 i = x) → ∃ σ', fArrays_fill_Sending_rowAt_5 N m x (nI v) (nI 45) ρ = some σ' ∧ (∀ f a b i, f ≠ 131 → σ'.1 f a b i = σ.1 f a b i) ∧ σ'.2 = σ.2 ∧ ∀ i, i < 45 → σ'.1 131 0 0 i = x := by
    intro e
    induction e with
    | zero =>
      intro v m ρ h1 h2 h3 h4 h5
      obtain ⟨m, rfl⟩ : ∃ q, m = q + 1 := ⟨m - 1, by omega⟩
      have : v = 45 := by omega
      subst this
      refine ⟨ρ, ?_, h3, h4, h5⟩
      show (if nI 45 ≤ nI 45 then some ρ else _) = _
      exact if_pos (Int32.le_refl _)
    | succ e ih =>
      intro v m ρ h1 h2 h3 h4 h5
      obtain ⟨m, rfl⟩ : ∃ q, m = q + 1 := ⟨m - 1, by omega⟩
      have e0 : fArrays_fill_Sending_rowAt_5 N (m + 1) x (nI v) (nI 45) ρ = fArrays_fill_Sending_rowAt_5 N m x (nI (v + 1)) (nI 45) (sI ρ 131 0 0 v x) := by
        show (if nI 45 ≤ nI v then _ else chk (inb (nI v) 45) <| nm (sI ρ 131 0 0 (nI v).toNatClampNeg x) fun (σ1 : St) => (fArrays_fill_Sending_rowAt_5 N m) x (nI v + 1) (nI 45) σ1) = _
        rw [if_neg (nI_ge (by omega) (by decide)), chk_t (inb_n (by omega) (by decide)), nmx, nI_clamp (by omega), nI_1]
      rw [e0]
      refine ih (v + 1) m _ (by omega) (by omega) (fun f a b i z => by rw [sI_o z]; exact h3 f a b i z) h4 fun i hi => ?_
      by_cases k : i = v
      · rw [k, sI_s]
      · rw [sI_i k]
        exact h5 i (by omega)
  exact l 45 0 N σ (by omega) (by omega) (fun _ _ _ _ _ => rfl) rfl (fun i hi => absurd hi (by omega))
theorem fill_least {N : Nat} {x : Int32} (hN : 100 ≤ N) (σ : St) : ∃ σ', fArrays_fill_Sending_least N x σ = some σ' ∧ (∀ f a b i, f ≠ 134 → σ'.1 f a b i = σ.1 f a b i) ∧ σ'.2 = σ.2 ∧ ∀ i, i < 45 → σ'.1 134 0 0 i = x := by
  have l : ∀ (e v m : Nat) (ρ : St), v + e = 45 → e < m → (∀ f a b i, f ≠ 134 → ρ.1 f a b i = σ.1 f a b i) → ρ.2 = σ.2 → (∀ i, i < v → ρ.1 134 0 0 i = x) → ∃ σ', fArrays_fill_Sending_least_5 N m x (nI v) (nI 45) ρ = some σ' ∧ (∀ f a b i, f ≠ 134 → σ'.1 f a b i = σ.1 f a b i) ∧ σ'.2 = σ.2 ∧ ∀ i, i < 45 → σ'.1 134 0 0 i = x := by
    intro e
    induction e with
    | zero =>
      intro v m ρ h1 h2 h3 h4 h5
      obtain ⟨m, rfl⟩ : ∃ q, m = q + 1 := ⟨m - 1, by omega⟩
      have : v = 45 := by omega
      subst this
      refine ⟨ρ, ?_, h3, h4, h5⟩
      show (if nI 45 ≤ nI 45 then some ρ else _) = _
      exact if_pos (Int32.le_refl _)
    | succ e ih =>
      intro v m ρ h1 h2 h3 h4 h5
      obtain ⟨m, rfl⟩ : ∃ q, m = q + 1 := ⟨m - 1, by omega⟩
      have e0 : fArrays_fill_Sending_least_5 N (m + 1) x (nI v) (nI 45) ρ = fArrays_fill_Sending_least_5 N m x (nI (v + 1)) (nI 45) (sI ρ 134 0 0 v x) := by
        show (if nI 45 ≤ nI v then _ else chk (inb (nI v) 45) <| nm (sI ρ 134 0 0 (nI v).toNatClampNeg x) fun (σ1 : St) => (fArrays_fill_Sending_least_5 N m) x (nI v + 1) (nI 45) σ1) = _
        rw [if_neg (nI_ge (by omega) (by decide)), chk_t (inb_n (by omega) (by decide)), nmx, nI_clamp (by omega), nI_1]
      rw [e0]
      refine ih (v + 1) m _ (by omega) (by omega) (fun f a b i z => by rw [sI_o z]; exact h3 f a b i z) h4 fun i hi => ?_
      by_cases k : i = v
      · rw [k, sI_s]
      · rw [sI_i k]
        exact h5 i (by omega)
  exact l 45 0 N σ (by omega) (by omega) (fun _ _ _ _ _ => rfl) rfl (fun i hi => absurd hi (by omega))
theorem fill_sentTo {N : Nat} {x : Int32} (hN : 100 ≤ N) (σ : St) : ∃ σ', fArrays_fill_Sending_sentTo N x σ = some σ' ∧ (∀ f a b i, f ≠ 123 → σ'.1 f a b i = σ.1 f a b i) ∧ σ'.2 = σ.2 ∧ ∀ i, i < 20 → σ'.1 123 0 0 i = x := by
  have l : ∀ (e v m : Nat) (ρ : St), v + e = 20 → e < m → (∀ f a b i, f ≠ 123 → ρ.1 f a b i = σ.1 f a b i) → ρ.2 = σ.2 → (∀ i, i < v → ρ.1 123 0 0 i = x) → ∃ σ', fArrays_fill_Sending_sentTo_5 N m x (nI v) (nI 20) ρ = some σ' ∧ (∀ f a b i, f ≠ 123 → σ'.1 f a b i = σ.1 f a b i) ∧ σ'.2 = σ.2 ∧ ∀ i, i < 20 → σ'.1 123 0 0 i = x := by
    intro e
    induction e with
    | zero =>
      intro v m ρ h1 h2 h3 h4 h5
      obtain ⟨m, rfl⟩ : ∃ q, m = q + 1 := ⟨m - 1, by omega⟩
      have : v = 20 := by omega
      subst this
      refine ⟨ρ, ?_, h3, h4, h5⟩
      show (if nI 20 ≤ nI 20 then some ρ else _) = _
      exact if_pos (Int32.le_refl _)
    | succ e ih =>
      intro v m ρ h1 h2 h3 h4 h5
      obtain ⟨m, rfl⟩ : ∃ q, m = q + 1 := ⟨m - 1, by omega⟩
      have e0 : fArrays_fill_Sending_sentTo_5 N (m + 1) x (nI v) (nI 20) ρ = fArrays_fill_Sending_sentTo_5 N m x (nI (v + 1)) (nI 20) (sI ρ 123 0 0 v x) := by
        show (if nI 20 ≤ nI v then _ else chk (inb (nI v) 20) <| nm (sI ρ 123 0 0 (nI v).toNatClampNeg x) fun (σ1 : St) => (fArrays_fill_Sending_sentTo_5 N m) x (nI v + 1) (nI 20) σ1) = _
        rw [if_neg (nI_ge (by omega) (by decide)), chk_t (inb_n (by omega) (by decide)), nmx, nI_clamp (by omega), nI_1]
      rw [e0]
      refine ih (v + 1) m _ (by omega) (by omega) (fun f a b i z => by rw [sI_o z]; exact h3 f a b i z) h4 fun i hi => ?_
      by_cases k : i = v
      · rw [k, sI_s]
      · rw [sI_i k]
        exact h5 i (by omega)
  exact l 20 0 N σ (by omega) (by omega) (fun _ _ _ _ _ => rfl) rfl (fun i hi => absurd hi (by omega))
theorem unmark_reached {N : Nat} (hN : 100 ≤ N) (σ : St) : ∃ σ', fSending_unmark_reached N σ = some σ' ∧ (∀ f a b i, f ≠ 135 → σ'.1 f a b i = σ.1 f a b i) ∧ σ'.2 = σ.2 ∧ ∀ i, i < 45 → σ'.1 135 0 0 i = 0 := by
  have l : ∀ (e v m : Nat) (ρ : St), v + e = 45 → e < m → (∀ f a b i, f ≠ 135 → ρ.1 f a b i = σ.1 f a b i) → ρ.2 = σ.2 → (∀ i, i < v → ρ.1 135 0 0 i = 0) → ∃ σ', fSending_unmark_reached_2 N m (nI v) ρ = some σ' ∧ (∀ f a b i, f ≠ 135 → σ'.1 f a b i = σ.1 f a b i) ∧ σ'.2 = σ.2 ∧ ∀ i, i < 45 → σ'.1 135 0 0 i = 0 := by
    intro e
    induction e with
    | zero =>
      intro v m ρ h1 h2 h3 h4 h5
      obtain ⟨m, rfl⟩ : ∃ q, m = q + 1 := ⟨m - 1, by omega⟩
      have : v = 45 := by omega
      subst this
      refine ⟨ρ, ?_, h3, h4, h5⟩
      show (if (45 : Int32) ≤ nI 45 then some ρ else _) = _
      exact if_pos (Int32.le_refl _)
    | succ e ih =>
      intro v m ρ h1 h2 h3 h4 h5
      obtain ⟨m, rfl⟩ : ∃ q, m = q + 1 := ⟨m - 1, by omega⟩
      have e0 : fSending_unmark_reached_2 N (m + 1) (nI v) ρ = fSending_unmark_reached_2 N m (nI (v + 1)) (sI ρ 135 0 0 v 0) := by
        show (if (45 : Int32) ≤ nI v then _ else chk (inb (nI v) 45) <| nm (sI ρ 135 0 0 (nI v).toNatClampNeg (0 &&& 1)) fun (σ1 : St) => (fSending_unmark_reached_2 N m) (nI v + 1) σ1) = _
        rw [if_neg (show ¬ (45 : Int32) ≤ nI v from nI_ge (a := v) (b := 45) (by omega) (by decide)), chk_t (inb_n (by omega) (by decide)), nmx, nI_clamp (by omega), nI_1]
        rfl
      rw [e0]
      refine ih (v + 1) m _ (by omega) (by omega) (fun f a b i z => by rw [sI_o z]; exact h3 f a b i z) h4 fun i hi => ?_
      by_cases k : i = v
      · rw [k, sI_s]
      · rw [sI_i k]
        exact h5 i (by omega)
  exact l 45 0 N σ (by omega) (by omega) (fun _ _ _ _ _ => rfl) rfl (fun i hi => absurd hi (by omega))
theorem unmark_settled {N : Nat} (hN : 100 ≤ N) (σ : St) : ∃ σ', fSending_unmark_settled N σ = some σ' ∧ (∀ f a b i, f ≠ 136 → σ'.1 f a b i = σ.1 f a b i) ∧ σ'.2 = σ.2 ∧ ∀ i, i < 45 → σ'.1 136 0 0 i = 0 := by
  have l : ∀ (e v m : Nat) (ρ : St), v + e = 45 → e < m → (∀ f a b i, f ≠ 136 → ρ.1 f a b i = σ.1 f a b i) → ρ.2 = σ.2 → (∀ i, i < v → ρ.1 136 0 0 i = 0) → ∃ σ', fSending_unmark_settled_2 N m (nI v) ρ = some σ' ∧ (∀ f a b i, f ≠ 136 → σ'.1 f a b i = σ.1 f a b i) ∧ σ'.2 = σ.2 ∧ ∀ i, i < 45 → σ'.1 136 0 0 i = 0 := by
    intro e
    induction e with
    | zero =>
      intro v m ρ h1 h2 h3 h4 h5
      obtain ⟨m, rfl⟩ : ∃ q, m = q + 1 := ⟨m - 1, by omega⟩
      have : v = 45 := by omega
      subst this
      refine ⟨ρ, ?_, h3, h4, h5⟩
      show (if (45 : Int32) ≤ nI 45 then some ρ else _) = _
      exact if_pos (Int32.le_refl _)
    | succ e ih =>
      intro v m ρ h1 h2 h3 h4 h5
      obtain ⟨m, rfl⟩ : ∃ q, m = q + 1 := ⟨m - 1, by omega⟩
      have e0 : fSending_unmark_settled_2 N (m + 1) (nI v) ρ = fSending_unmark_settled_2 N m (nI (v + 1)) (sI ρ 136 0 0 v 0) := by
        show (if (45 : Int32) ≤ nI v then _ else chk (inb (nI v) 45) <| nm (sI ρ 136 0 0 (nI v).toNatClampNeg (0 &&& 1)) fun (σ1 : St) => (fSending_unmark_settled_2 N m) (nI v + 1) σ1) = _
        rw [if_neg (show ¬ (45 : Int32) ≤ nI v from nI_ge (a := v) (b := 45) (by omega) (by decide)), chk_t (inb_n (by omega) (by decide)), nmx, nI_clamp (by omega), nI_1]
        rfl
      rw [e0]
      refine ih (v + 1) m _ (by omega) (by omega) (fun f a b i z => by rw [sI_o z]; exact h3 f a b i z) h4 fun i hi => ?_
      by_cases k : i = v
      · rw [k, sI_s]
      · rw [sI_i k]
        exact h5 i (by omega)
  exact l 45 0 N σ (by omega) (by omega) (fun _ _ _ _ _ => rfl) rfl (fun i hi => absurd hi (by omega))
abbrev HS (G : Nat → Nat → Nat) (P V R C : Nat) (wh wr : Nat → Nat) (k : Nat) (σ : St) : Prop := (SX G P V R C wh wr σ) ∧ (HP (cst G R C wh wr) (R + C) k (rpX σ) (cpX σ) (raX σ)) ∧ (∀ j, 1 ≤ j → j ≤ R + C → σ.1 131 0 0 j = nI (raX σ j))
theorem HS.x {G : Nat → Nat → Nat} {P V R C : Nat} {wh wr : Nat → Nat} {k : Nat} {σ : St} (h : HS G P V R C wh wr k σ) : SX G P V R C wh wr σ := h.1
theorem HS.g {G : Nat → Nat → Nat} {P V R C : Nat} {wh wr : Nat → Nat} {k : Nat} {σ : St} (h : HS G P V R C wh wr k σ) : HP (cst G R C wh wr) (R + C) k (rpX σ) (cpX σ) (raX σ) := h.2.1
theorem HS.t {G : Nat → Nat → Nat} {P V R C : Nat} {wh wr : Nat → Nat} {k : Nat} {σ : St} (h : HS G P V R C wh wr k σ) : ∀ j, 1 ≤ j → j ≤ R + C → σ.1 131 0 0 j = nI (raX σ j) := h.2.2
theorem walk65 {N P V R C k j0 step : Nat} {G : Nat → Nat → Nat} {wh wr : Nat → Nat} {σ0 : St} {o : Nat → Nat} (h : PlS G P V R C wh wr k σ0 j0 step) (hk : k < R + C) (hs : 1 ≤ step) (o0 : o 0 = 0) (ho : ∀ j, 1 ≤ j → j ≤ R + C → (reX σ0 j = true ∨ j = j0) → fmX σ0 j ≤ R + C ∧ reX σ0 (fmX σ0 j) = true ∧ o (fmX σ0 j) < o j ∧ o j ≤ step ∧ rpX σ0 (raX σ0 (fmX σ0 j)) + cpX σ0 j = cst G R C wh wr (raX σ0 (fmX σ0 j)) j) : ∀ (e cc m x3 : Nat) (σ : St), o cc ≤ e → x3 + e ≤ R + C → e + 1 < m → (∀ f a b i, f ≠ 131 → σ.1 f a b i = σ0.1 f a b i) → σ.2 = σ0.2 → (∀ j, j ≤ R + C → j ≠ cc → σ.1 131 0 0 j = nI (raX σ j)) → (reX σ0 cc = true ∨ cc = j0) → raX σ 0 = k + 1 → WB (cst G R C wh wr) (R + C) k (rpX σ0) (cpX σ0) (raX σ0) (reX σ0) o (raX σ) cc → ∃ σ', fSending_place_65 N m (nI cc) (nI x3) σ = some σ' ∧ (∀ f a b i, f ≠ 131 → σ'.1 f a b i = σ0.1 f a b i) ∧ σ'.2 = σ0.2 ∧ HS G P V R C wh wr (k + 1) σ' := by
  have p2 := h.x.s.P2
  have v2 := h.x.s.V2
  have r2 := h.x.s.R2
  have c2 := h.x.s.C2
  intro e
  induction e with
  | zero =>
    intro cc m x3 σ h1 h2 h3 hF hF2 hR hq h0 W
    obtain ⟨b1, b2, b3, b4, b5⟩ := ho cc W.c.1 W.c.2 hq
    omega
  | succ e ih =>
    intro cc m x3 σ h1 h2 h3 hF hF2 hR hq h0 W
    obtain ⟨m, rfl⟩ : ∃ q, m = q + 1 := ⟨m - 1, by omega⟩
    obtain ⟨b1, b2, b3, b4, b5⟩ := ho cc W.c.1 W.c.2 hq
    have wc := W.c
    have nf : fmX σ0 cc ≠ cc := fun z => by rw [z] at b3; omega
    have s133 : σ.1 133 0 0 cc = nI (fmX σ0 cc) := (hF _ _ _ _ (by decide)).trans (h.f hs cc wc.1 wc.2)
    have e0 : fSending_place_65 N (m + 1) (nI cc) (nI x3) σ = fSending_place_65 N m (nI (fmX σ0 cc)) (nI (x3 + 1)) (sI σ 131 0 0 cc (nI (raX σ (fmX σ0 cc)))) := by
      have i1 : inb (σ.1 133 0 0 (nI cc).toNatClampNeg) 45 := by
        rw [nI_clamp (by omega), s133]
        exact inb_n (by omega) (by decide)
      show (if σ.1 128 0 0 0 < nI x3 then _ else if nI cc = 0 then some σ else chk (inb (nI cc) 45) <| chk (inb (σ.1 133 0 0 (nI cc).toNatClampNeg) 45) <| nm (sI σ 131 0 0 (nI cc).toNatClampNeg (σ.1 131 0 0 (σ.1 133 0 0 (nI cc).toNatClampNeg).toNatClampNeg)) fun (σ1 : St) => nm ((σ1.1 133 0 0 (nI cc).toNatClampNeg)) fun (y2 : Int32) => (fSending_place_65 N m) y2 (nI x3 + 1) σ1) = _
      rw [hF 128 _ _ _ (by decide), h.x.n, if_neg (nlt_of (by omega) (by omega) (by omega)), if_neg (nI_nz (by omega) (by omega)), chk_t (inb_n (by omega) (by decide)), chk_t i1, nmx, nmx, nI_clamp (n := cc) (by omega), sI_o (by decide), s133, nI_clamp (n := fmX σ0 cc) (by omega), hR _ b1 nf, nI_1]
    rw [e0]
    obtain ⟨τ, hτ⟩ : ∃ τ, τ = sI σ 131 0 0 cc (nI (raX σ (fmX σ0 cc))) := ⟨_, rfl⟩
    have rl : raX σ (fmX σ0 cc) ≤ 44 := by
      by_cases z : fmX σ0 cc = 0
      · rw [z, h0]; omega
      · have := (W.a (fmX σ0 cc) (by omega) b1 nf).1
        omega
    have r1 : raX τ cc = raX σ (fmX σ0 cc) := by
      rw [show raX τ cc = (τ.1 131 0 0 cc).toNatClampNeg from rfl, hτ, sI_s]
      exact nI_clamp (by omega)
    have r2' : ∀ j, j ≠ cc → raX τ j = raX σ j := fun j z => by
      unfold raX
      rw [hτ, sI_i z]
    have tF : ∀ f a b i, f ≠ 131 → τ.1 f a b i = σ0.1 f a b i := fun f a b i z => by rw [hτ, sI_o z]; exact hF f a b i z
    have tF2 : τ.2 = σ0.2 := by rw [hτ]; exact hF2
    have tR : ∀ j, j ≤ R + C → j ≠ fmX σ0 cc → τ.1 131 0 0 j = nI (raX τ j) := fun j a z => by
      by_cases y : j = cc
      · rw [y, r1, hτ, sI_s]
      · rw [r2' j y, hτ, sI_i y]
        exact hR j a y
    rw [← hτ]
    by_cases z : fmX σ0 cc = 0
    · obtain ⟨m, rfl⟩ : ∃ q, m = q + 1 := ⟨m - 1, by omega⟩
      have eu : rpX τ = rpX σ0 := funext fun i => by unfold rpX; rw [tF _ _ _ _ (by decide)]
      have ew : cpX τ = cpX σ0 := funext fun i => by unfold cpX; rw [tF _ _ _ _ (by decide)]
      refine ⟨τ, ?_, tF, tF2, h.x.mv fun f a b i y => tF f a b i (by omega), ?_, fun j j1 j2 => tR j j2 (by omega)⟩
      · rw [z]
        show (if τ.1 128 0 0 0 < nI (x3 + 1) then some τ else if nI 0 = 0 then some τ else _) = _
        by_cases y : τ.1 128 0 0 0 < nI (x3 + 1)
        · rw [if_pos y]
        · rw [if_neg y, if_pos (show nI 0 = (0 : Int32) from rfl)]
      · rw [eu, ew]
        rw [z, h.g.t0] at b5
        refine W.last (fun i j i1 i2 j1 j2 => ?_) h.g.w0 h.g.fr h.g.u0 b5 (h.g.bd hk (cst_b h.x.s)).1 (h.g.bd hk (cst_b h.x.s)).2 (by rw [r1, z, h0]) r2'
        by_cases y : i ≤ k
        · exact h.g.f i j i1 y j1 j2
        · have e1 : i = k + 1 := by omega
          rw [e1]
          exact h.g.fk hs j j1 j2
    · exact ih (fmX σ0 cc) m (x3 + 1) τ (by omega) (by omega) (by omega) tF tF2 tR (Or.inl b2) (by rw [r2' 0 (by omega)]; exact h0) (W.step h.g.t1 h.g.qm (by omega) b1 b2 b3 b5 r1 r2')
theorem place27 {N P V R C k : Nat} {G : Nat → Nat → Nat} {wh wr : Nat → Nat} (hN : 100 ≤ N) (hk : k < R + C) : ∀ (e step j0 m : Nat) (σ : St), step + e = R + C + 1 → e < m → PlS G P V R C wh wr k σ j0 step → ∃ σ', fSending_place_27 N m (nI j0) (nI step) σ = some σ' ∧ plX σ σ' ∧ HS G P V R C wh wr (k + 1) σ' := by
  intro e
  induction e with
  | zero =>
    intro step j0 m σ h1 h2 h
    obtain ⟨f, f1, f2, f3⟩ := freeC hk h.g.t1 h.g.inj
    have l := cnt_lt (p := reX σ) (q := fun _ => true) (a := f) (n := R + C + 1) (fun _ _ _ => rfl) (by omega) rfl (by
      cases z : reX σ f with
      | false => rfl
      | true => have := h.g.qm f f1 f2 z; omega)
    rw [cnt_t, h.g.cn] at l
    omega
  | succ e ih =>
    intro step j0 m σ h1 h2 h
    obtain ⟨m, rfl⟩ : ∃ q, m = q + 1 := ⟨m - 1, by omega⟩
    have p2 := h.x.s.P2
    have v2 := h.x.s.V2
    have r2 := h.x.s.R2
    have c2 := h.x.s.C2
    have j0n := h.g.j0.1
    have hr := h.t j0 j0n
    have rl : raX σ j0 ≤ k + 1 := by
      by_cases z : j0 = 0
      · rw [z, h.g.t0]; omega
      · have := h.g.t1 j0 (by omega) j0n
        omega
    have e0 : fSending_place_27 N (m + 1) (nI j0) (nI step) σ = if nI (raX σ j0) = 0 then fSending_place_65 N N (nI j0) (nI 0) σ else bnd (fSending_reachFrom N (nI j0) (sI σ 135 0 0 j0 1)) fun r2 σ3 => fSending_place_27 N m r2 (nI (step + 1)) σ3 := by
      show (if σ.1 128 0 0 0 < nI step then fSending_place_65 N N (nI j0) (nI 0) σ else chk (inb (nI j0) 45) <| if (σ.1 131 0 0 (nI j0).toNatClampNeg) = 0 then fSending_place_65 N N (nI j0) (nI 0) σ else nm (sI σ 135 0 0 (nI j0).toNatClampNeg (1 &&& 1)) fun (σ1 : St) => bnd (fSending_reachFrom N (nI j0) σ1) fun r2 σ3 => (fSending_place_27 N m) r2 (nI step + 1) σ3) = _
      rw [h.x.n, if_neg (nlt_of (by omega) (by omega) (by omega)), chk_t (inb_n (by omega) (by decide)), nmx, nI_clamp (n := j0) (by omega), hr, nI_1]
      rfl
    rw [e0]
    by_cases c : raX σ j0 = 0
    · rw [if_pos (by rw [c]; rfl)]
      have q0 := h.g.q0.resolve_left (fun z => by
        rw [z.2.1, h.g.t0] at c
        omega)
      obtain ⟨o, o0, o1⟩ := h.g.od
      have oj := (o1 j0 q0.2.1 j0n (Or.inr rfl)).2.2.2.1
      obtain ⟨σ', a1, a2, a3, a4⟩ := walk65 (N := N) h hk q0.1 o0 o1 (R + C) j0 N 0 σ (by omega) (by omega) (by omega) (fun _ _ _ _ _ => rfl) rfl (fun j a _ => h.t j a) (Or.inr rfl) h.g.t0 ⟨⟨q0.2.1, j0n⟩, fun j j1 j2 _ => ⟨h.g.t1 j j1 j2, h.g.ti j j1 j2⟩, fun j j' j1 j2 _ j4 j5 _ => h.g.inj j j' j1 j2 j4 j5, fun i i1 i2 => by
        obtain ⟨j, j1, j2, j3⟩ := h.g.on i i1 i2
        exact ⟨j, j1, j2, fun z => by rw [z, c] at j3; omega, j3⟩, fun _ _ _ _ z => z, fun _ _ _ _ => rfl⟩
      exact ⟨σ', a1, ⟨fun f a b i z => a2 f a b i (by omega), a3⟩, a4⟩
    · rw [if_neg (nI_nz (by omega) c)]
      obtain ⟨near, σ1, b1, b2, b3⟩ := reachFrom_e (N := N) hN h hk (by omega)
      rw [b1, bnd_e]
      obtain ⟨σ', a1, a2, a3⟩ := ih (step + 1) near m σ1 (by omega) (by omega) b3
      exact ⟨σ', a1, b2.tr a2, a3⟩
theorem place_e {N P V R C k : Nat} {G : Nat → Nat → Nat} {wh wr : Nat → Nat} {σ : St} (hN : 100 ≤ N) (hk : k < R + C) (h : HS G P V R C wh wr k σ) : ∃ σ', fSending_place N (nI (k + 1)) σ = some σ' ∧ plX σ σ' ∧ HS G P V R C wh wr (k + 1) σ' := by
  have p2 := h.x.s.P2
  have v2 := h.x.s.V2
  have r2 := h.x.s.R2
  have c2 := h.x.s.C2
  obtain ⟨σ1, a1, a2, a3, a4⟩ := unmark_reached (N := N) hN σ
  obtain ⟨σ2, b1, b2, b3, b4⟩ := fill_least (N := N) (x := 1000000000) hN σ1
  obtain ⟨τ, hτ⟩ : ∃ τ, τ = sI σ2 131 0 0 0 (nI (k + 1)) := ⟨_, rfl⟩
  have tF : ∀ f i, f ≠ 131 → f ≠ 134 → f ≠ 135 → τ.1 f 0 0 i = σ.1 f 0 0 i := fun f i z1 z2 z3 => by rw [hτ, sI_o z1, b2 _ _ _ _ z2, a2 _ _ _ _ z3]
  have pl : plX σ τ := ⟨fun f a b i z => by rw [hτ, sI_o (by omega), b2 _ _ _ _ (by omega), a2 _ _ _ _ (by omega)], by rw [hτ]; exact b3.trans a3⟩
  have t131 : ∀ j, 1 ≤ j → τ.1 131 0 0 j = σ.1 131 0 0 j := fun j z => by rw [hτ, sI_i (by omega), b2 _ _ _ _ (by decide), a2 _ _ _ _ (by decide)]
  have eu : rpX τ = rpX σ := funext fun i => by unfold rpX; rw [tF _ _ (by decide) (by decide) (by decide)]
  have ew : cpX τ = cpX σ := funext fun i => by unfold cpX; rw [tF _ _ (by decide) (by decide) (by decide)]
  have r0 : raX τ 0 = k + 1 := by
    unfold raX
    rw [hτ, sI_s, nI_clamp (by omega)]
  have rj : ∀ j, 1 ≤ j → raX τ j = raX σ j := fun j z => by
    unfold raX
    rw [t131 j z]
  have q0 : ∀ j, j < 45 → reX τ j = false := fun j z => reX_f.mpr (by rw [hτ, sI_o (by decide), b2 _ _ _ _ (by decide)]; exact a4 j z)
  have l0 : ∀ j, j < 45 → leX τ j = 1000000000 := fun j z => by
    unfold leX
    rw [hτ, sI_o (by decide), b4 j z]
    rfl
  have S : PlS G P V R C wh wr k τ 0 0 := by
    refine ⟨pl.x h.x, ⟨r0, fun j j1 j2 => by rw [rj j j1]; exact h.g.t1 j j1 j2, fun j j1 j2 z => ?_, fun j j' j1 j2 j3 j4 j5 j6 => ?_, ?_, fun z => absurd z (by omega), fun i i1 i2 => ?_, ?_, fun j j1 j2 z => ?_, fun i i1 i2 => ?_, fun _ => ?_, fun z => absurd z (by omega), ⟨Nat.zero_le _, q0 0 (by decide)⟩, Or.inl ⟨rfl, rfl, fun j z => q0 j (by omega)⟩, cnt_zero _ _ fun j z => q0 j (by omega), fun j _ z y => absurd y (by rw [q0 j (by omega)]; decide), ⟨fun _ => 0, rfl, fun j j1 j2 z => ?_⟩, fun _ j _ z => l0 j (by omega), fun z => absurd z (by omega)⟩, fun j z => ?_, fun z => absurd z (by omega)⟩
    · rw [rj j j1] at z ⊢
      rw [eu, ew]
      exact h.g.ti j j1 j2 z
    · rw [rj j j1] at j5 j6
      rw [rj j' j3] at j6
      exact h.g.inj j j' j1 j2 j3 j4 j5 j6
    · rw [eu, ew]
      exact h.g.f
    · obtain ⟨j, j1, j2, j3⟩ := h.g.on i i1 i2
      exact ⟨j, j1, j2, by rw [rj j j1]; exact j3⟩
    · rw [ew]
      exact h.g.w0
    · rw [rj j j1] at z
      rw [ew]
      exact h.g.fr j j1 j2 z
    · rw [eu]
      exact h.g.u0 i (by omega) i2
    · rw [eu]
      exact h.g.u0 (k + 1) (by omega) (by omega)
    · rcases z with z | z
      · rw [q0 j (by omega)] at z
        exact absurd z (by decide)
      · omega
    · by_cases y : j = 0
      · rw [y, r0, hτ, sI_s]
      · rw [rj j (by omega), t131 j (by omega)]
        exact h.t j (by omega) z
  obtain ⟨σ', c1, c3, c4⟩ := place27 (N := N) hN hk (R + C + 1) 0 0 N τ (by omega) (by omega) S
  refine ⟨σ', ?_, pl.tr c3, c4⟩
  unfold fSending_place
  rw [a1, bn1_e, b1, bn1_e, nmx, ← hτ]
  exact c1
theorem place32 {N P V R C : Nat} {G : Nat → Nat → Nat} {wh wr : Nat → Nat} (hN : 100 ≤ N) : ∀ (e k m : Nat) (σ : St), k + e = R + C → e < m → HS G P V R C wh wr k σ → ∃ σ', fSending_sendBest_32 N m (nI (k + 1)) σ = fSending_sendBest_53 N N (nI 1) σ' ∧ plX σ σ' ∧ HS G P V R C wh wr (R + C) σ' := by
  intro e
  induction e with
  | zero =>
    intro k m σ h1 h2 h
    obtain ⟨m, rfl⟩ : ∃ q, m = q + 1 := ⟨m - 1, by omega⟩
    have p2 := h.x.s.P2
    have v2 := h.x.s.V2
    have r2 := h.x.s.R2
    have c2 := h.x.s.C2
    have : k = R + C := by omega
    subst this
    refine ⟨σ, ?_, plX.rfl', h⟩
    show (if σ.1 128 0 0 0 < nI (R + C + 1) then fSending_sendBest_53 N N (nI 1) σ else _) = _
    rw [h.x.n, if_pos (nI_lt (by omega) (by omega))]
  | succ e ih =>
    intro k m σ h1 h2 h
    obtain ⟨m, rfl⟩ : ∃ q, m = q + 1 := ⟨m - 1, by omega⟩
    have p2 := h.x.s.P2
    have v2 := h.x.s.V2
    have r2 := h.x.s.R2
    have c2 := h.x.s.C2
    obtain ⟨σ1, a1, a2, a3⟩ := place_e (N := N) hN (by omega) h
    obtain ⟨σ', b1, b2, b3⟩ := ih (k + 1) m σ1 (by omega) (by omega) a3
    refine ⟨σ', ?_, a2.tr b2, b3⟩
    show (if σ.1 128 0 0 0 < nI (k + 1) then _ else bn1 (fSending_place N (nI (k + 1)) σ) fun σ1 => (fSending_sendBest_32 N m) (nI (k + 1) + 1) σ1) = _
    rw [h.x.n, if_neg (nlt_of (by omega) (by omega) (by omega)), a1, bn1_e, nI_1]
    exact b1
