/-! a page of the book -/
def foldW (f : Nat) : St → Nat → List Int32 → St
  | σ, _, [] => σ
  | σ, b, v :: l => foldW f (sI σ f 0 0 b v) (b + 1) l
theorem foldW_o {f : Nat} : ∀ (l : List Int32) (σ : St) (b : Nat) {f' a' b' i' : Nat}, f' ≠ f → (foldW f σ b l).1 f' a' b' i' = σ.1 f' a' b' i'
  | [], σ, b, _, _, _, _, _ => rfl
  | v :: l, σ, b, f', a', b', i', h => by
    show (foldW f (sI σ f 0 0 b v) (b + 1) l).1 f' a' b' i' = _
    rw [foldW_o l _ _ h, sI_o h]
def clv (t : Int32) : Int32 := (if (0 : Int32) < (if t < 6 then t else 6) then (if t < 6 then t else 6) else 0).toInt8.toInt32.toInt8.toInt32
def stv (t : Int32) : Int32 := if t ≤ 127 then (if t < 6 then t else 6) else 0
theorem clv_stv {t : Int32} (h : 0 ≤ t.toInt ∧ t.toInt ≤ 255) : clv t.toInt8.toInt32 = stv t := by
  have : ∀ n, n < 256 → clv (nI n).toInt8.toInt32 = stv (nI n) := by decide +kernel
  obtain ⟨j, rfl, ej, -⟩ := argN h.1
  exact this j (by omega)
theorem stv_rng {t : Int32} (h : 0 ≤ t.toInt ∧ t.toInt ≤ 255) : 0 ≤ (stv t).toInt ∧ (stv t).toInt ≤ 6 := by
  have : ∀ n, n < 256 → 0 ≤ (stv (nI n)).toInt ∧ (stv (nI n)).toInt ≤ 6 := by decide +kernel
  obtain ⟨j, rfl, ej, -⟩ := argN h.1
  exact this j (by omega)
theorem mn_e (N : Nat) (x y : Int32) (σ : St) : fMath_min_I N x y σ = some (if y < x then y else x) := by
  unfold fMath_min_I
  by_cases h : y < x
  · rw [if_pos h, if_pos h]
  · rw [if_neg h, if_neg h]
theorem mx_e (N : Nat) (x y : Int32) (σ : St) : fMath_max_I N x y σ = some (if x < y then y else x) := by
  unfold fMath_max_I
  by_cases h : x < y
  · rw [if_pos h, if_pos h]
  · rw [if_neg h, if_neg h]
theorem idx52 {r i : Nat} (hr : r < 60) (hi : i < 52) : (nI r * 52 + nI i) = nI (52 * r + i) := by
  have e : nI r * 52 = nI (52 * r) := by
    have : ∀ r, r < 60 → nI r * 52 = nI (52 * r) := by decide +kernel
    exact this r hr
  rw [e, nI_add]
theorem idx52' {r i : Nat} (hr : r < 60) (hi : i < 52) : (52 * nI r + nI i) = nI (52 * r + i) := by
  have e : 52 * nI r = nI (52 * r) := by
    have : ∀ r, r < 60 → 52 * nI r = nI (52 * r) := by decide +kernel
    exact this r hr
  rw [e, nI_add]
theorem rowX_one {N n r i L : Nat} {σ : St} (h1 : σ.1 21 0 0 0 = nI r) (hr : r < 60) (hi : i < L) (hL : L ≤ 52) : fBooks_addRow_44 N (n + 1) (nI L) (nI i) σ = fBooks_addRow_44 N n (nI L) (nI (i + 1)) (sI σ 16 0 0 (52 * r + i) (clv (σ.1 110 0 0 i))) := by
  have ei := nI_toInt (n := i) (by omega)
  have ci := nI_clamp (n := i) (by omega)
  have eL := nI_toInt (n := L) (by omega)
  have eb := nI_toInt (n := 52 * r + i) (by omega)
  have cb := nI_clamp (n := 52 * r + i) (by omega)
  show (if nI L ≤ nI i then _ else _) = _
  rw [if_neg (by rw [fa_le, eL, ei]; omega)]
  rw [if_neg (by rw [fa_le, ei, show (600 : Int32).toInt = 600 by decide]; omega)]
  rw [chk_t (inb_n (show i < 600 by omega) (by decide)), mn_e, bn1_e, mx_e, bn1_e, h1, idx52 hr (by omega), chk_t (inb_n (show 52 * r + i < 3120 by omega) (by decide)), nmx, cb, ci, nI_1]
  rfl
theorem rowX_all {N r L : Nat} (hr : r < 60) (hL : L ≤ 52) : ∀ (d i n : Nat) (σ : St), i + d = L → d < n → σ.1 21 0 0 0 = nI r →
    fBooks_addRow_44 N n (nI L) (nI i) σ = some (sI (foldW 16 σ (52 * r + i) ((List.range' i d).map (fun q => clv (σ.1 110 0 0 q)))) 21 0 0 0 (nI (r + 1))) := by
  intro d
  induction d with
  | zero =>
    intro i n σ hi hn h1
    obtain ⟨n, rfl⟩ : ∃ m, n = m + 1 := ⟨n - 1, by omega⟩
    show (if nI L ≤ nI i then _ else _) = _
    rw [if_pos (nI_le (by omega) (by omega))]
    unfold fBooks_addRow_94
    rw [nmx, h1, nI_1]
    rfl
  | succ d ih =>
    intro i n σ hi hn h1
    obtain ⟨n, rfl⟩ : ∃ m, n = m + 1 := ⟨n - 1, by omega⟩
    rw [rowX_one h1 hr (by omega) hL, ih (i + 1) n _ (by omega) (by omega) (by rw [sI_o (by decide)]; exact h1), List.range'_succ]
    have e : (fun q => clv ((sI σ 16 0 0 (52 * r + i) (clv (σ.1 110 0 0 i))).1 110 0 0 q)) = fun q => clv (σ.1 110 0 0 q) := funext fun q => by rw [sI_o (by decide)]
    rw [e]
    rfl
theorem rowM_one {N n r i L : Nat} {μ : St} (h1 : μ.1 216 0 0 0 = nI r) (hr : r < 60) (hi : i < L) (hL : L ≤ 52) : fM_book_105 N (n + 1) (nI L) (nI i) μ = fM_book_105 N n (nI L) (nI (i + 1)) (sI μ 224 0 0 (52 * r + i) (stv (μ.1 246 0 0 i))) := by
  have ei := nI_toInt (n := i) (by omega)
  have ci := nI_clamp (n := i) (by omega)
  have eL := nI_toInt (n := L) (by omega)
  have cb := nI_clamp (n := 52 * r + i) (by omega)
  have g : ∀ v, fM_book_139 N (fM_book_105 N n) (nI L) (nI i) v μ = fM_book_105 N n (nI L) (nI (i + 1)) (sI μ 224 0 0 (52 * r + i) v) := by
    intro v
    unfold fM_book_139
    rw [h1, idx52' hr (by omega), chk_t (inb_n (show 52 * r + i < 3120 by omega) (by decide)), nmx, cb, nI_1]
  show (if nI L ≤ nI i then _ else _) = _
  rw [if_neg (by rw [fa_le, eL, ei]; omega)]
  rw [chk_t (inb_n (show i < 600 by omega) (by decide)), mn_e, bn1_e, g, g, ci]
  unfold stv
  by_cases h : μ.1 246 0 0 i ≤ 127
  · rw [if_pos h, if_pos h]
  · rw [if_neg h, if_neg h]
theorem rowM_all {N r L : Nat} (hr : r < 60) (hL : L ≤ 52) : ∀ (d i n : Nat) (μ : St), i + d = L → d < n → μ.1 216 0 0 0 = nI r →
    fM_book_105 N n (nI L) (nI i) μ = some (1, sI (sI (sI (foldW 224 μ (52 * r + i) ((List.range' i d).map (fun q => stv (μ.1 246 0 0 q)))) 247 0 0 0 0) 216 0 0 0 (nI (r + 1))) 273 0 0 0 0) := by
  intro d
  induction d with
  | zero =>
    intro i n μ hi hn h1
    obtain ⟨n, rfl⟩ : ∃ m, n = m + 1 := ⟨n - 1, by omega⟩
    show (if nI L ≤ nI i then (if nI L = -1 then _ else _) else _) = _
    rw [if_pos (nI_le (by omega) (by omega)), if_neg (m1_ne (by omega)), nmx]
    unfold fM_book_174
    rw [nmx, nmx, sI_o (by decide), h1, nI_1]
    rfl
  | succ d ih =>
    intro i n μ hi hn h1
    obtain ⟨n, rfl⟩ : ∃ m, n = m + 1 := ⟨n - 1, by omega⟩
    rw [rowM_one h1 hr (by omega) hL, ih (i + 1) n _ (by omega) (by omega) (by rw [sI_o (by decide)]; exact h1), List.range'_succ]
    have e : (fun q => stv ((sI μ 224 0 0 (52 * r + i) (stv (μ.1 246 0 0 i))).1 246 0 0 q)) = fun q => stv (μ.1 246 0 0 q) := funext fun q => by rw [sI_o (by decide)]
    rw [e]
    rfl
