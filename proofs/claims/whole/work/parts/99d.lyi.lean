/-! a person signs, in the reference -/
theorem mnI_e {a b : Int32} {σ : St} {N : Nat} : fMath_min_I N a b σ = some (mn32 a b) := by
  unfold fMath_min_I mn32
  by_cases c : b < a
  · rw [if_pos c, if_pos c]
  · rw [if_neg c, if_neg c]
theorem mx1_n (x : Int32) : ¬ mx1 x = 0 := by
  unfold mx1
  by_cases c : 1 < x
  · rw [if_pos c]
    intro q
    rw [q] at c
    exact absurd c (by decide)
  · rw [if_neg c]
    decide
/-- a new claim's place -/
def nwX (p c nc : Nat) (E : Env) (d : Nat) (μ μ' : St) : Prop := (∀ f i, ¬ (f = 284 ∨ f = 285 ∨ f = 286 ∨ (288 ≤ f ∧ f ≤ 299)) → μ'.1 f 0 0 i = μ.1 f 0 0 i) ∧ (∀ f i, 284 ≤ f ∧ f ≤ 285 → i ≠ p → μ'.1 f 0 0 i = μ.1 f 0 0 i) ∧ (∀ f i, 288 ≤ f ∧ f ≤ 299 → i ≠ nc → μ'.1 f 0 0 i = μ.1 f 0 0 i) ∧ (∀ f a b i, ¬ (a = 0 ∧ b = 0) → μ'.1 f a b i = μ.1 f a b i) ∧
  μ'.1 286 0 0 0 = nI (nc + 1) ∧ μ'.1 285 0 0 p = nI (c + 1) ∧ μ'.1 284 0 0 p = nI nc ∧ μ'.1 288 0 0 nc = nI p ∧ μ'.1 289 0 0 nc = nI c ∧ μ'.1 290 0 0 nc = nI d ∧ μ'.1 291 0 0 nc = mn32 (stA E d / mx1 ((E.sh d).par 4)) ((E.sh d).par 3) ∧ μ'.1 292 0 0 nc = 0 ∧ μ'.1 293 0 0 nc = 0 ∧ μ'.1 294 0 0 nc = 0 ∧ μ'.1 295 0 0 nc = 0 ∧ μ'.1 296 0 0 nc = 0 ∧ μ'.1 297 0 0 nc = -1 ∧ μ'.1 298 0 0 nc = stA E d ∧ μ'.1 299 0 0 nc = unA E d ∧ μ'.2 300 0 0 nc = 0 ∧ ∀ f a b i, ¬ (f = 300 ∧ i = nc) → μ'.2 f a b i = μ.2 f a b i
theorem signs49 {N p d c nc : Nat} {E : Env} {μ : St} (hN : 60 ≤ N) (hp : p < 20) (hd1 : 312 ≤ d) (hd : d < 936) (hn : μ.1 269 0 0 0 = nI d) (hnc : nc < 160) (h1 : μ.1 286 0 0 0 = nI nc) (h2 : μ.1 285 0 0 p = nI c) (hq : ∀ k, k < 8 → μ.1 265 0 0 k = (E.sh d).par k) (hst : ∀ μ' : St, (∀ f i, f < 262 → μ'.1 f 0 0 i = μ.1 f 0 0 i) → ∀ w, w < 156 → fM_stampsAt N (nI p) (nI w) μ' = some (E.st w)) : ∃ μ', fM_signs_49 N (nI p) μ = some μ' ∧ nwX p c nc E d μ μ' := by
  have par : ∀ (k : Nat) (μ' : St), k < 8 → (∀ i, μ'.1 265 0 0 i = μ.1 265 0 0 i) → fM_param N (nI k) μ' = some ((E.sh d).par k) := fun k μ' hk h => by
    unfold fM_param
    rw [chk_t (inb_n hk (by decide)), nI_clamp (by omega), show μ'.1 265 0 0 k = (E.sh d).par k from (h k).trans (hq k hk)]
  obtain ⟨S1, q1⟩ : ∃ S, S = sI μ 286 0 0 0 (nI (nc + 1)) := ⟨_, rfl⟩
  obtain ⟨S2, q2⟩ : ∃ S, S = sI S1 288 0 0 nc (nI p) := ⟨_, rfl⟩
  obtain ⟨S3, q3⟩ : ∃ S, S = sI S2 289 0 0 nc (nI c) := ⟨_, rfl⟩
  obtain ⟨S4, q4⟩ : ∃ S, S = sI S3 285 0 0 p (nI (c + 1)) := ⟨_, rfl⟩
  obtain ⟨S5, q5⟩ : ∃ S, S = sI S4 290 0 0 nc (nI d) := ⟨_, rfl⟩
  obtain ⟨S6, q6⟩ : ∃ S, S = sI S5 298 0 0 nc (stA E d) := ⟨_, rfl⟩
  obtain ⟨S7, q7⟩ : ∃ S, S = sI S6 299 0 0 nc (unA E d) := ⟨_, rfl⟩
  obtain ⟨S8, q8⟩ : ∃ S, S = sI S7 291 0 0 nc (mn32 (stA E d / mx1 ((E.sh d).par 4)) ((E.sh d).par 3)) := ⟨_, rfl⟩
  obtain ⟨S9, q9⟩ : ∃ S, S = sI (sI (sI (sI (sI (sI S8 292 0 0 nc 0) 293 0 0 nc 0) 294 0 0 nc 0) 295 0 0 nc 0) 296 0 0 nc 0) 297 0 0 nc (-1) := ⟨_, rfl⟩
  have o7 : ∀ f i, f < 285 → S7.1 f 0 0 i = μ.1 f 0 0 i := fun f i q => by
    rw [q7, q6, q5, q4, q3, q2, q1]
    rw [sI_o (by omega), sI_o (by omega), sI_o (by omega), sI_o (by omega), sI_o (by omega), sI_o (by omega), sI_o (by omega)]
  have o6 : ∀ f i, f < 285 → S6.1 f 0 0 i = μ.1 f 0 0 i := fun f i q => by
    rw [q6, q5, q4, q3, q2, q1]
    rw [sI_o (by omega), sI_o (by omega), sI_o (by omega), sI_o (by omega), sI_o (by omega), sI_o (by omega)]
  have o5 : ∀ f i, f < 285 → S5.1 f 0 0 i = μ.1 f 0 0 i := fun f i q => by
    rw [q5, q4, q3, q2, q1]
    rw [sI_o (by omega), sI_o (by omega), sI_o (by omega), sI_o (by omega), sI_o (by omega)]
  have o4 : S4.1 269 0 0 0 = nI d := by
    rw [q4, q3, q2, q1]
    rw [sI_o (by decide), sI_o (by decide), sI_o (by decide), sI_o (by decide)]
    exact hn
  have o2 : S2.1 285 0 0 p = nI c := by
    rw [q2, q1]
    rw [sI_o (by decide), sI_o (by decide)]
    exact h2
  have o3 : S3.1 285 0 0 p = nI c := by
    rw [q3, sI_o (by decide)]
    exact o2
  have o7s : S7.1 298 0 0 nc = stA E d := by rw [q7, sI_o (by decide), q6, sI_s]
  have sa := (stM_e (N := N) (p := p) (E := E) (μ := S5) hN (hst S5 (fun f i q => o5 f i (by omega))) hd1 hd).1
  have ua := (stM_e (N := N) (p := p) (E := E) (μ := S6) hN (hst S6 (fun f i q => o6 f i (by omega))) hd1 hd).2
  refine ⟨sI (sJ S9 300 0 0 nc 0) 284 0 0 p (nI nc), ?_, ?_⟩
  · unfold fM_signs_49
    rw [show fM_param N 4 μ = some ((E.sh d).par 4) from par 4 μ (by decide) (fun _ => rfl), bn1_e, mx1_e, bn1_e, show μ.1 286 0 0 0 = nI nc from h1, nmx, nI_1, nmx, ← q1, chk_t (inb_n hnc (by decide)), nmx, nI_clamp (n := nc) (by omega), ← q2, chk_t (inb_n hp (by decide)), nmx, nI_clamp (n := p) (by omega), o2, ← q3, nmx, o3, nI_1, ← q4, nmx, o4, ← q5, show S5.1 269 0 0 0 = nI d from (o5 _ _ (by decide)).trans hn, sa, bn1_e, nmx, ← q6, show S6.1 269 0 0 0 = nI d from (o6 _ _ (by decide)).trans hn, ua, bn1_e, nmx, ← q7, chk_t (mx1_n _), show fM_param N 3 S7 = some ((E.sh d).par 3) from par 3 S7 (by decide) (fun i => o7 _ i (by decide)), bn1_e, o7s, mnI_e, bn1_e, nmx, ← q8, nmx, nmx, nmx, nmx, nmx, nmx, ← q9, nmx, nmx]
  · have h9 : ∀ f a b i, ¬ (f = 285 ∨ f = 286 ∨ (288 ≤ f ∧ f ≤ 299)) → S9.1 f a b i = μ.1 f a b i := fun f a b i q => by
      rw [q9, q8, q7, q6, q5, q4, q3, q2, q1]
      rw [sI_o (by omega), sI_o (by omega), sI_o (by omega), sI_o (by omega), sI_o (by omega), sI_o (by omega), sI_o (by omega), sI_o (by omega), sI_o (by omega), sI_o (by omega), sI_o (by omega), sI_o (by omega), sI_o (by omega), sI_o (by omega)]
    have h9i : ∀ f a b i, ¬ (f = 286 ∧ i = 0) → ¬ (f = 285 ∧ i = p) → (288 ≤ f ∧ f ≤ 299 → ¬ (a = 0 ∧ b = 0 ∧ i = nc)) → (f = 286 ∨ f = 285 → True) → S9.1 f a b i = μ.1 f a b i := fun f a b i y1 y2 y3 _ => by
      rw [q9, q8, q7, q6, q5, q4, q3, q2, q1]
      simp only [sI_1]
      repeat rw [if_neg (by rintro ⟨z1, z2, z3, z4⟩; omega)]
    refine ⟨fun f i q => ?_, fun f i q q2' => ?_, fun f i q q2' => ?_, fun f a b i q => ?_, ?_, ?_, ?_, ?_, ?_, ?_, ?_, ?_, ?_, ?_, ?_, ?_, ?_, ?_, ?_, ?_, fun f a b i q => ?_⟩
    · rw [sI_o (by omega), sJ_1]
      exact h9 f 0 0 i (by omega)
    · rw [sI_1, if_neg (fun z => q2' z.2.2.2), sJ_1]
      exact h9i f 0 0 i (by omega) (by omega) (by omega) (fun _ => trivial)
    · rw [sI_o (by omega), sJ_1]
      exact h9i f 0 0 i (by omega) (by omega) (by omega) (fun _ => trivial)
    · rw [sI_1, if_neg (fun z => q ⟨z.2.1, z.2.2.1⟩), sJ_1]
      rw [q9, q8, q7, q6, q5, q4, q3, q2, q1]
      simp only [sI_1]
      repeat rw [if_neg (by rintro ⟨z1, z2, z3, z4⟩; omega)]
    · rw [sI_o (by decide), sJ_1, q9, q8, q7, q6, q5, q4, q3, q2, q1]
      repeat (first | rw [sI_s] | rw [sI_o (by decide)])
    · rw [sI_o (by decide), sJ_1, q9, q8, q7, q6, q5, q4]
      repeat (first | rw [sI_s] | rw [sI_o (by decide)])
    · exact sI_s ..
    · rw [sI_o (by decide), sJ_1, q9, q8, q7, q6, q5, q4, q3, q2]
      repeat (first | rw [sI_s] | rw [sI_o (by decide)])
    · rw [sI_o (by decide), sJ_1, q9, q8, q7, q6, q5, q4, q3]
      repeat (first | rw [sI_s] | rw [sI_o (by decide)])
    · rw [sI_o (by decide), sJ_1, q9, q8, q7, q6, q5]
      repeat (first | rw [sI_s] | rw [sI_o (by decide)])
    · rw [sI_o (by decide), sJ_1, q9, q8]
      repeat (first | rw [sI_s] | rw [sI_o (by decide)])
    · rw [sI_o (by decide), sJ_1, q9]
      repeat (first | rw [sI_s] | rw [sI_o (by decide)])
    · rw [sI_o (by decide), sJ_1, q9]
      repeat (first | rw [sI_s] | rw [sI_o (by decide)])
    · rw [sI_o (by decide), sJ_1, q9]
      repeat (first | rw [sI_s] | rw [sI_o (by decide)])
    · rw [sI_o (by decide), sJ_1, q9]
      repeat (first | rw [sI_s] | rw [sI_o (by decide)])
    · rw [sI_o (by decide), sJ_1, q9]
      repeat (first | rw [sI_s] | rw [sI_o (by decide)])
    · rw [sI_o (by decide), sJ_1, q9]
      repeat (first | rw [sI_s] | rw [sI_o (by decide)])
    · rw [sI_o (by decide), sJ_1, q9, q8, q7, q6]
      repeat (first | rw [sI_s] | rw [sI_o (by decide)])
    · rw [sI_o (by decide), sJ_1, q9, q8, q7]
      repeat (first | rw [sI_s] | rw [sI_o (by decide)])
    · show (sJ S9 300 0 0 nc 0).2 300 0 0 nc = 0
      rw [sJ_2, if_pos ⟨rfl, rfl, rfl, rfl⟩]
    · show (sJ S9 300 0 0 nc 0).2 f a b i = _
      rw [sJ_2, if_neg (fun z => q ⟨z.1, z.2.2.2⟩), q9, q8, q7, q6, q5, q4, q3, q2, q1]
      rfl
