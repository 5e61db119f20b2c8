/-! the numbers that class and reference hold alike -/
def eqF : List (Nat × Nat) := [(44, 209), (45, 210), (46, 207), (47, 211), (48, 212), (49, 213), (50, 214), (51, 215), (52, 208),
  (111, 247), (17, 220), (18, 221), (19, 222), (20, 223), (21, 216), (16, 224), (22, 225), (23, 226), (24, 227), (25, 228), (26, 217),
  (37, 229), (38, 230), (39, 231), (40, 232), (41, 233), (42, 234), (43, 218), (159, 219),
  (96, 318), (97, 319), (98, 320), (99, 321), (100, 322), (101, 323), (102, 316), (103, 325), (104, 326), (105, 327), (106, 328), (107, 317), (108, 331), (109, 332),
  (27, 339), (28, 340), (29, 337), (30, 341), (31, 342), (32, 343), (34, 345), (35, 346), (36, 338), (162, 205), (163, 206), (161, 347)]
def Eq1 (σ μ : St) : Prop := ∀ q ∈ eqF, ∀ i, σ.1 q.1 0 0 i = μ.1 q.2 0 0 i
def pairOk (f g : Nat) : Bool := eqF.all (fun q => (q.1 == f) == (q.2 == g))
theorem Eq1.w {σ μ : St} (h : Eq1 σ μ) {f g i : Nat} {x : Int32} (hp : pairOk f g = true) : Eq1 (sI σ f 0 0 i x) (sI μ g 0 0 i x) := by
  intro q hq j
  have h1 := List.all_eq_true.mp hp q hq
  rw [sI_1, sI_1]
  by_cases e : q.1 = f
  · have e2 : q.2 = g := by
      rw [e] at h1
      simpa using h1
    by_cases ej : j = i
    · rw [if_pos ⟨e, rfl, rfl, ej⟩, if_pos ⟨e2, rfl, rfl, ej⟩]
    · rw [if_neg (fun z => ej z.2.2.2), if_neg (fun z => ej z.2.2.2)]
      exact h q hq j
  · have e2 : q.2 ≠ g := by
      intro e2
      have : (q.1 == f) = false := by simpa using e
      rw [this, e2] at h1
      simp at h1
    rw [if_neg (fun z => e z.1), if_neg (fun z => e2 z.1)]
    exact h q hq j
theorem Eq1.l {σ μ : St} (h : Eq1 σ μ) {f a b i : Nat} {x : Int32} (hp : eqF.all (fun q => q.1 != f) = true) : Eq1 (sI σ f a b i x) μ := by
  intro q hq j
  have h1 := List.all_eq_true.mp hp q hq
  rw [sI_o (by simpa using h1)]
  exact h q hq j
theorem Eq1.r {σ μ : St} (h : Eq1 σ μ) {g a b i : Nat} {x : Int32} (hp : eqF.all (fun q => q.2 != g) = true) : Eq1 σ (sI μ g a b i x) := by
  intro q hq j
  have h1 := List.all_eq_true.mp hp q hq
  rw [sI_o (by simpa using h1)]
  exact h q hq j
theorem Eq1.lJ {σ μ : St} (h : Eq1 σ μ) {f a b i : Nat} {x : Int64} : Eq1 (sJ σ f a b i x) μ := h
theorem Eq1.rJ {σ μ : St} (h : Eq1 σ μ) {f a b i : Nat} {x : Int64} : Eq1 σ (sJ μ f a b i x) := h
theorem Eq1.lA {σ μ : St} (h : Eq1 σ μ) {f a b : Nat} {g : Nat → Int32} (hp : eqF.all (fun q => q.1 != f) = true) : Eq1 (sA σ f a b g) μ := by
  intro q hq j
  have h1 := List.all_eq_true.mp hp q hq
  rw [sA_1, if_neg (fun z => (by simpa using h1 : q.1 ≠ f) z.1)]
  exact h q hq j
/-- where the reference's numbers lie -/
def rngF : List (Nat × Int × Int) := [(209, 0, 99), (210, 0, 99), (207, 0, 8), (211, 0, 7), (212, 0, 90), (213, 0, 7), (214, 0, 999), (215, 0, 99), (208, 0, 20),
  (247, 0, 600), (246, 0, 255), (220, 0, 19), (221, 0, 2), (222, -1, 52), (223, 0, 935), (216, 0, 60), (224, 0, 6), (225, 0, 19), (226, 0, 155), (227, -1, 6), (228, 0, 935), (217, 0, 100),
  (229, 0, 8), (230, 0, 19), (231, 0, 9999), (232, 0, 935), (233, 0, 935), (234, -1, 935), (218, 0, 160), (219, 0, 16),
  (318, 0, 7), (319, 0, 7), (320, 0, 999), (321, 0, 999), (322, 0, 935), (323, 0, 1), (316, 0, 24), (325, 0, 19), (326, 0, 23), (327, -1, 23), (328, 0, 2), (317, 0, 60), (331, 0, 9999), (332, 0, 9999),
  (339, 0, 2), (340, 0, 99), (337, 0, 18), (341, -1, 17), (342, 0, 159), (343, 0, 935), (345, -1, 935), (346, 0, 1), (338, 0, 30), (205, 312, 935), (206, -1, 935), (347, 0, 1), (235, 0, 935), (236, 0, 935), (237, 0, 935)]
def Rng (μ : St) : Prop := ∀ q ∈ rngF, ∀ i, q.2.1 ≤ (μ.1 q.1 0 0 i).toInt ∧ (μ.1 q.1 0 0 i).toInt ≤ q.2.2
def rngAt (g : Nat) (lo hi : Int) : Bool := rngF.all (fun q => q.1 != g || (decide (q.2.1 ≤ lo) && decide (hi ≤ q.2.2)))
theorem Rng.w {μ : St} (h : Rng μ) {g i : Nat} {x : Int32} {lo hi : Int} (hp : rngAt g lo hi = true) (h1 : lo ≤ x.toInt) (h2 : x.toInt ≤ hi) : Rng (sI μ g 0 0 i x) := by
  intro q hq j
  have h3 := List.all_eq_true.mp hp q hq
  rw [sI_1]
  by_cases e : q.1 = g ∧ 0 = 0 ∧ 0 = 0 ∧ j = i
  · rw [if_pos e]
    rw [e.1] at h3
    simp at h3
    omega
  · rw [if_neg e]
    exact h q hq j
theorem Rng.o {μ : St} (h : Rng μ) {g a b i : Nat} {x : Int32} (hp : rngF.all (fun q => q.1 != g) = true) : Rng (sI μ g a b i x) := by
  intro q hq j
  have h1 := List.all_eq_true.mp hp q hq
  rw [sI_o (by simpa using h1)]
  exact h q hq j
theorem Rng.J {μ : St} (h : Rng μ) {f a b i : Nat} {x : Int64} : Rng (sJ μ f a b i x) := h
/-- a number that isn't below nought, as nI -/
theorem nI_self {x : Int32} (h : 0 ≤ x.toInt) : x = nI x.toNatClampNeg := by
  have h0 : ¬ x < 0 := by
    rw [Int32.lt_iff_toInt_lt, Int32.toInt_zero]
    omega
  obtain ⟨j, hj, rfl⟩ := nI_of h0
  rw [nI_clamp hj]
theorem Rng.n {μ : St} (h : Rng μ) {g : Nat} {lo hi : Int} (i : Nat) (hm : (g, lo, hi) ∈ rngF) (h0 : 0 ≤ lo) : ∃ n : Nat, μ.1 g 0 0 i = nI n ∧ (nI n).toInt = (n : Int) ∧ (nI n).toNatClampNeg = n ∧ lo ≤ (n : Int) ∧ (n : Int) ≤ hi := by
  obtain ⟨h1, h2⟩ := h _ hm i
  dsimp only at h1 h2
  have h3 := nI_self (x := μ.1 g 0 0 i) (by omega)
  refine ⟨(μ.1 g 0 0 i).toNatClampNeg, h3, ?_⟩
  have hj : (μ.1 g 0 0 i).toNatClampNeg < 2 ^ 31 := by
    have := Int32.toInt_lt (μ.1 g 0 0 i)
    have e : (μ.1 g 0 0 i).toNatClampNeg = (μ.1 g 0 0 i).toInt.toNat := rfl
    omega
  have h4 : (μ.1 g 0 0 i).toInt = ((μ.1 g 0 0 i).toNatClampNeg : Int) := by
    have e : (μ.1 g 0 0 i).toNatClampNeg = (μ.1 g 0 0 i).toInt.toNat := rfl
    omega
  exact ⟨nI_toInt hj, nI_clamp hj, by omega, by omega⟩
theorem rz {x c : Int32} {lo hi : Int} (e : x = c) (h : lo ≤ c.toInt ∧ c.toInt ≤ hi) : lo ≤ x.toInt ∧ x.toInt ≤ hi := by rw [e]; exact h
