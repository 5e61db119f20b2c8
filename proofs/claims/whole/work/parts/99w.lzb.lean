/-! what a day's number says -/
theorem pck_n {k y t c : Nat} (hk : k < 16) (hy : y < 16384) (ht : t < 32) (hc : c < 128) : pck (nI k) (nI y) (nI t - 1) (nI c - 1) = nI (8388608 * c + (262144 * t + (16 * y + k))) := by
  unfold pck
  rw [Int32.sub_add_cancel, Int32.sub_add_cancel, pk_shlN (4 &&& 31) 4 (by decide) (show y * 2 ^ 4 < 2 ^ 32 by omega), pk_shlN (18 &&& 31) 18 (by decide) (show t * 2 ^ 18 < 2 ^ 32 by omega), pk_shlN (23 &&& 31) 23 (by decide) (show c * 2 ^ 23 < 2 ^ 32 by omega)]
  rw [Int32.or_comm (nI k), Nat.mul_comm y, fa_or_sum y (show k < 2 ^ 4 by omega), Int32.or_comm _ (nI (t * 2 ^ 18)), Nat.mul_comm t, fa_or_sum t (show 2 ^ 4 * y + k < 2 ^ 18 by omega), Int32.or_comm _ (nI (c * 2 ^ 23)), Nat.mul_comm c, fa_or_sum c (show 2 ^ 18 * t + (2 ^ 4 * y + k) < 2 ^ 23 by omega)]
theorem pck_d {k y t c : Nat} {x : Int32} (hk : k < 16) (hy : y < 16384) (ht : t < 32) (hc : c < 128) (hx : x = pck (nI k) (nI y) (nI t - 1) (nI c - 1)) : x &&& 15 = nI k ∧ (x >>> (4 &&& 31)) &&& 16383 = nI y ∧ ((x >>> (18 &&& 31)) &&& 31) - 1 = nI t - 1 ∧ ((x >>> (23 &&& 31)) &&& 127) - 1 = nI c - 1 := by
  rw [pck_n hk hy ht hc] at hx
  rw [hx, pk_shrN (by omega) (4 &&& 31) 4 (by decide), pk_shrN (by omega) (18 &&& 31) 18 (by decide), pk_shrN (by omega) (23 &&& 31) 23 (by decide)]
  refine ⟨?_, ?_, ?_, ?_⟩
  · rw [show (15 : Int32) = nI (2 ^ 4 - 1) from rfl, fa_mask]
    congr 1
    omega
  · rw [show (16383 : Int32) = nI (2 ^ 14 - 1) from rfl, fa_mask]
    congr 1
    omega
  · rw [show (31 : Int32) = nI (2 ^ 5 - 1) from rfl, fa_mask]
    congr 2
    omega
  · rw [show (127 : Int32) = nI (2 ^ 7 - 1) from rfl, fa_mask]
    congr 2
    omega
/-- a day as both tell it -/
theorem day_both {N v p k i nc nb : Nat} {σ μ : St} {s : Lfe} (hA : RfA p (k + 1) μ s nc nb) (hs : sl v p σ = s) (hi : 312 + i ≤ k) (hk : k < 936) (hp : p < 20) : ∃ a b c d, fLife_kindOn N v p (nI (312 + i)) σ = some a ∧ fLife_payOn N v p (nI (312 + i)) σ = some b ∧ fLife_actOn N v p (nI (312 + i)) σ = some c ∧ fLife_claimOn N v p (nI (312 + i)) σ = some d ∧ μ.1 304 0 0 (624 * p + i) = a ∧ (μ.2 308 0 0 (624 * p + i)).toInt32 = b ∧ μ.1 305 0 0 (624 * p + i) = c ∧ μ.1 306 0 0 (624 * p + i) = d := by
  obtain ⟨-, -, -, -, -, hD, -⟩ := hA
  obtain ⟨kk, y, t, c, k1, y1, t1, c1, e1, e2, e3, e4, e5⟩ := hD.dy i (by omega)
  have hx : σ.1 78 v p i = pck (nI kk) (nI y) (nI t - 1) (nI c - 1) := by
    rw [← e5, ← hs]
    rfl
  obtain ⟨d1, d2, d3, d4⟩ := pck_d (by omega) (by omega) (by omega) (by omega) hx
  have s1 : nI (312 + i) - 312 = nI i := nI_subl (a := 312) (k := i)
  refine ⟨nI kk, nI y, nI t - 1, nI c - 1, ?_, ?_, ?_, ?_, e1, by rw [e2, i32_64 (by omega)], e3, e4⟩
  · unfold fLife_kindOn
    rw [s1, chk_t (inb_n (by omega) (by decide)), nI_clamp (by omega)]
    exact congrArg some d1
  · unfold fLife_payOn
    rw [s1, chk_t (inb_n (by omega) (by decide)), nI_clamp (by omega)]
    exact congrArg some d2
  · unfold fLife_actOn
    rw [s1, chk_t (inb_n (by omega) (by decide)), nI_clamp (by omega)]
    exact congrArg some d3
  · unfold fLife_claimOn
    rw [s1, chk_t (inb_n (by omega) (by decide)), nI_clamp (by omega)]
    exact congrArg some d4
