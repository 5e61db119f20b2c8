/-! prices behind a search; the way back -/
def xN (γ : Nat → Nat → Nat) (s : Nat → Nat) (V : Nat) (y' : Nat → Int) (l' : Int) (q : Nat) : Int := if s q < V then (γ q (s q) : Int) - y' (s q) else l'
def yN (y d : Nat → Int) (l' : Int) (v : Nat) : Int := if y v ≤ d v - l' then d v - l' else y v
theorem DU.new {γ : Nat → Nat → Nat} {s : Nat → Nat} {F P V : Nat} {x y d : Nat → Int} {c : Nat → Int32} {l l' : Int} (D : DU γ s F P V x y l) (B : BF γ s F P V y l d c) (hR : ∀ a b, a < V → b < V → Rx γ s F P d a b) (h0 : 0 ≤ l') (hl : l' ≤ l) (hf : ∀ v, v < V → (∀ q, F ≤ q → q < P → s q ≠ v) → d v ≤ l') : DU γ s F P V (xN γ s V (yN y d l') l') (yN y d l') l' := by
  have yl : ∀ v, y v ≤ yN y d l' v ∧ d v - l' ≤ yN y d l' v := fun v => by unfold yN; split <;> omega
  have yc : ∀ v, yN y d l' v = y v ∨ (yN y d l' v = d v - l' ∧ y v ≤ d v - l') := fun v => by
    unfold yN
    split
    · next h => exact Or.inr ⟨rfl, h⟩
    · exact Or.inl rfl
  have xm : ∀ q, s q < V → xN γ s V (yN y d l') l' q = (γ q (s q) : Int) - yN y d l' (s q) := fun q h => if_pos h
  have xu : ∀ q, V ≤ s q → xN γ s V (yN y d l') l' q = l' := fun q h => if_neg (by omega)
  refine ⟨h0, fun q q1 q2 => ?_, fun v hv => ?_, fun q v q1 q2 q3 q4 => ?_, fun q q1 q2 q3 => ⟨(D.t q q1 q2 q3).1, ?_⟩, fun q _ _ q3 => xu q q3, fun v hv hq => ?_, D.i, D.g⟩
  · by_cases k : s q < V
    · rw [xm q k]
      obtain ⟨t1, t2⟩ := D.t q q1 q2 k
      have := D.xl q q1 q2
      rcases yc (s q) with e | ⟨e, e2⟩
      · rw [e]; omega
      · rw [e]
        have := D.y0 _ k
        rcases B.r _ k with r | r <;> omega
    · rw [xu q (by omega)]; exact Int.le_refl _
  · have := yl v
    have := D.y0 v hv
    omega
  · have yv := yl v
    have fq := D.f q v q1 q2 q3 q4
    by_cases k : s q < V
    · rw [xm q k]
      obtain ⟨t1, t2⟩ := D.t q q1 q2 k
      by_cases w : v = s q
      · rw [w]; omega
      · rcases yc (s q) with e | ⟨e, e2⟩
        · rw [e]; omega
        · rw [e]
          have := D.y0 _ k
          have r := hR (s q) v k q3 q q1 q2 rfl (by omega) w q4
          omega
    · rw [xu q (by omega)]
      have := B.o q v q1 q2 q3 (by omega) q4
      omega
  · rw [xm q q3]; omega
  · have e := D.z v hv hq
    have := hf v hv hq
    unfold yN
    split <;> omega
/-- who holds what -/
abbrev Mt (s : Nat → Nat) (F P V : Nat) (ho : Nat → Int32) (e : Nat) : Prop := (∀ q, F ≤ q → q < P → s q < V → ho (s q) = nI q) ∧ (∀ v, v < V → v ≠ e → ho v = -1 ∨ ∃ q, F ≤ q ∧ q < P ∧ ho v = nI q ∧ s q = v)
theorem Mt.a {s : Nat → Nat} {F P V : Nat} {ho : Nat → Int32} {e : Nat} (h : Mt s F P V ho e) : ∀ q, F ≤ q → q < P → s q < V → ho (s q) = nI q := h.1
theorem Mt.b {s : Nat → Nat} {F P V : Nat} {ho : Nat → Int32} {e : Nat} (h : Mt s F P V ho e) : ∀ v, v < V → v ≠ e → ho v = -1 ∨ ∃ q, F ≤ q ∧ q < P ∧ ho v = nI q ∧ s q = v := h.2
/-- the way back, under way: v is to be given anew -/
abbrev WK (γ : Nat → Nat → Nat) (s : Nat → Nat) (F P V : Nat) (x y : Nat → Int) (l : Int) (rk : Nat → Nat) (s1 : Nat → Nat) (ho : Nat → Int32) (v : Nat) : Prop := (v < V) ∧ (Mt s1 F P V ho v) ∧ (∀ q, F ≤ q → q < P → s1 q ≠ v) ∧ (∀ q, F ≤ q → q < P → (V ≤ s q ∨ rk (s q) < rk v) → s1 q = s q) ∧ (ho v = -1 ∨ ∃ q, F ≤ q ∧ q < P ∧ ho v = nI q ∧ s q = v) ∧ (∀ q, F ≤ q → q < P → s1 q < V → γ q (s1 q) ≠ 0 ∧ x q + y (s1 q) = (γ q (s1 q) : Int)) ∧ (∀ u, u < V → u ≠ v → (∀ q, F ≤ q → q < P → s1 q ≠ u) → y u = 0) ∧ (∀ q, F ≤ q → q < P → (s1 q < V ↔ s q < V))
theorem WK.v {γ : Nat → Nat → Nat} {s : Nat → Nat} {F P V : Nat} {x y : Nat → Int} {l : Int} {rk : Nat → Nat} {s1 : Nat → Nat} {ho : Nat → Int32} {v : Nat} (h : WK γ s F P V x y l rk s1 ho v) : v < V := h.1
theorem WK.m {γ : Nat → Nat → Nat} {s : Nat → Nat} {F P V : Nat} {x y : Nat → Int} {l : Int} {rk : Nat → Nat} {s1 : Nat → Nat} {ho : Nat → Int32} {v : Nat} (h : WK γ s F P V x y l rk s1 ho v) : Mt s1 F P V ho v := h.2.1
theorem WK.n {γ : Nat → Nat → Nat} {s : Nat → Nat} {F P V : Nat} {x y : Nat → Int} {l : Int} {rk : Nat → Nat} {s1 : Nat → Nat} {ho : Nat → Int32} {v : Nat} (h : WK γ s F P V x y l rk s1 ho v) : ∀ q, F ≤ q → q < P → s1 q ≠ v := h.2.2.1
theorem WK.o {γ : Nat → Nat → Nat} {s : Nat → Nat} {F P V : Nat} {x y : Nat → Int} {l : Int} {rk : Nat → Nat} {s1 : Nat → Nat} {ho : Nat → Int32} {v : Nat} (h : WK γ s F P V x y l rk s1 ho v) : ∀ q, F ≤ q → q < P → (V ≤ s q ∨ rk (s q) < rk v) → s1 q = s q := h.2.2.2.1
theorem WK.w {γ : Nat → Nat → Nat} {s : Nat → Nat} {F P V : Nat} {x y : Nat → Int} {l : Int} {rk : Nat → Nat} {s1 : Nat → Nat} {ho : Nat → Int32} {v : Nat} (h : WK γ s F P V x y l rk s1 ho v) : ho v = -1 ∨ ∃ q, F ≤ q ∧ q < P ∧ ho v = nI q ∧ s q = v := h.2.2.2.2.1
theorem WK.t {γ : Nat → Nat → Nat} {s : Nat → Nat} {F P V : Nat} {x y : Nat → Int} {l : Int} {rk : Nat → Nat} {s1 : Nat → Nat} {ho : Nat → Int32} {v : Nat} (h : WK γ s F P V x y l rk s1 ho v) : ∀ q, F ≤ q → q < P → s1 q < V → γ q (s1 q) ≠ 0 ∧ x q + y (s1 q) = (γ q (s1 q) : Int) := h.2.2.2.2.2.1
theorem WK.z {γ : Nat → Nat → Nat} {s : Nat → Nat} {F P V : Nat} {x y : Nat → Int} {l : Int} {rk : Nat → Nat} {s1 : Nat → Nat} {ho : Nat → Int32} {v : Nat} (h : WK γ s F P V x y l rk s1 ho v) : ∀ u, u < V → u ≠ v → (∀ q, F ≤ q → q < P → s1 q ≠ u) → y u = 0 := h.2.2.2.2.2.2.1
theorem WK.c {γ : Nat → Nat → Nat} {s : Nat → Nat} {F P V : Nat} {x y : Nat → Int} {l : Int} {rk : Nat → Nat} {s1 : Nat → Nat} {ho : Nat → Int32} {v : Nat} (h : WK γ s F P V x y l rk s1 ho v) : ∀ q, F ≤ q → q < P → (s1 q < V ↔ s q < V) := h.2.2.2.2.2.2.2
def sU (s : Nat → Nat) (j v : Nat) : Nat → Nat := fun q => if q = j then v else s q
theorem sU_s (s : Nat → Nat) (j v : Nat) : sU s j v j = v := if_pos rfl
theorem sU_o {s : Nat → Nat} {j v q : Nat} (h : q ≠ j) : sU s j v q = s q := if_neg h
theorem nIj {a b : Nat} (ha : a < 2 ^ 31) (hb : b < 2 ^ 31) (h : nI a = nI b) : a = b := by
  have := congrArg Int32.toInt h
  rw [nI_toInt ha, nI_toInt hb] at this
  omega
theorem Mt.ij {s : Nat → Nat} {F P V e : Nat} {h : Nat → Int32} (hP : P ≤ 20) (H : Mt s F P V h e) : ∀ q r, F ≤ q → q < P → F ≤ r → r < P → s q < V → s q = s r → q = r := fun q r q1 q2 r1 r2 q3 q4 => by
  have e1 := H.a q q1 q2 q3
  have e2 := H.a r r1 r2 (by omega)
  rw [q4, e2] at e1
  exact (nIj (by omega) (by omega) e1).symm
theorem WK.step {γ : Nat → Nat → Nat} {s s1 : Nat → Nat} {F P V v q : Nat} {x y : Nat → Int} {l : Int} {rk : Nat → Nat} {h h' : Nat → Int32} (hP : P ≤ 20) (W : WK γ s F P V x y l rk s1 h v) (q1 : F ≤ q) (q2 : q < P) (hq : s q < V) (hrk : rk (s q) < rk v) (hne : s q ≠ v) (hg : γ q v ≠ 0) (ht : x q + y v = (γ q v : Int)) (h1 : h' v = nI q) (h2 : ∀ u, u ≠ v → h' u = h u) : WK γ s F P V x y l rk (sU s1 q v) h' (s q) ∧ s1 q = s q := by
  have e1 : s1 q = s q := W.o q q1 q2 (Or.inr hrk)
  have hh : h (s q) = nI q := by rw [← e1]; exact W.m.a q q1 q2 (by omega)
  have ij := W.m.ij hP
  refine ⟨⟨hq, ⟨fun r r1 r2 r3 => ?_, fun u hu hu2 => ?_⟩, fun r r1 r2 => ?_, fun r r1 r2 r3 => ?_, Or.inr ⟨q, q1, q2, by rw [h2 _ hne]; exact hh, rfl⟩, fun r r1 r2 r3 => ?_, fun u hu hu2 hz => ?_, fun r r1 r2 => ?_⟩, e1⟩
  · by_cases k : r = q
    · rw [k, sU_s]; exact h1
    · rw [sU_o k] at r3 ⊢
      rw [h2 _ (W.n r r1 r2)]
      exact W.m.a r r1 r2 r3
  · by_cases k : u = v
    · rw [k]
      exact Or.inr ⟨q, q1, q2, h1, sU_s _ _ _⟩
    · rw [h2 u k]
      rcases W.m.b u hu k with z | ⟨r, r1, r2, r3, r4⟩
      · exact Or.inl z
      · refine Or.inr ⟨r, r1, r2, r3, ?_⟩
        rw [sU_o]
        · exact r4
        · intro e
          rw [e, e1] at r4
          exact hu2 r4.symm
  · by_cases k : r = q
    · rw [k, sU_s]; exact fun e => hne e.symm
    · rw [sU_o k]
      intro e
      exact k (ij r q r1 r2 q1 q2 (by omega) (by omega))
  · have k : r ≠ q := fun e => by
      rw [e] at r3
      omega
    rw [sU_o k]
    exact W.o r r1 r2 (by omega)
  · by_cases k : r = q
    · rw [k, sU_s]; exact ⟨hg, ht⟩
    · rw [sU_o k] at r3 ⊢
      exact W.t r r1 r2 r3
  · have uv : u ≠ v := fun e => by
      have := hz q q1 q2
      rw [sU_s] at this
      exact this e.symm
    refine W.z u hu uv fun r r1 r2 => ?_
    by_cases k : r = q
    · rw [k, e1]; exact fun e => hu2 e.symm
    · have := hz r r1 r2
      rw [sU_o k] at this
      exact this
  · by_cases k : r = q
    · rw [k, sU_s]
      exact ⟨fun _ => hq, fun _ => W.v⟩
    · rw [sU_o k]
      exact W.c r r1 r2
theorem WK.last {γ : Nat → Nat → Nat} {s s1 : Nat → Nat} {F P V v q : Nat} {x y : Nat → Int} {l : Int} {rk : Nat → Nat} {h h' : Nat → Int32} (hP : P ≤ 20) (D : DU γ s F P V x y l) (W : WK γ s F P V x y l rk s1 h v) (q1 : F ≤ q) (q2 : q < P) (hq : V ≤ s q) (hg : γ q v ≠ 0) (ht : x q + y v = (γ q v : Int)) (h1 : h' v = nI q) (h2 : ∀ u, u ≠ v → h' u = h u) : DU γ (sU s1 q v) F P V x y l ∧ Mt (sU s1 q v) F P V h' V ∧ s1 q = s q := by
  have e1 : s1 q = s q := W.o q q1 q2 (Or.inl hq)
  have ij := W.m.ij hP
  have M : Mt (sU s1 q v) F P V h' V := by
    refine ⟨fun r r1 r2 r3 => ?_, fun u hu _ => ?_⟩
    · by_cases k : r = q
      · rw [k, sU_s]; exact h1
      · rw [sU_o k] at r3 ⊢
        rw [h2 _ (W.n r r1 r2)]
        exact W.m.a r r1 r2 r3
    · by_cases k : u = v
      · rw [k]
        exact Or.inr ⟨q, q1, q2, h1, sU_s _ _ _⟩
      · rw [h2 u k]
        rcases W.m.b u hu k with z | ⟨r, r1, r2, r3, r4⟩
        · exact Or.inl z
        · refine Or.inr ⟨r, r1, r2, r3, ?_⟩
          rw [sU_o]
          · exact r4
          · intro e
            rw [e, e1] at r4
            omega
  refine ⟨⟨D.l0, D.xl, D.y0, D.f, fun r r1 r2 r3 => ?_, fun r r1 r2 r3 => ?_, fun u hu hz => ?_, M.ij hP, D.g⟩, M, e1⟩
  · by_cases k : r = q
    · rw [k, sU_s]; exact ⟨hg, ht⟩
    · rw [sU_o k] at r3 ⊢
      exact W.t r r1 r2 r3
  · have k : r ≠ q := fun e => by
      have := W.v
      rw [e, sU_s] at r3
      omega
    rw [sU_o k] at r3
    have := (W.c r r1 r2)
    exact D.u r r1 r2 (by omega)
  · have uv : u ≠ v := fun e => by
      have := hz q q1 q2
      rw [sU_s] at this
      exact this e.symm
    refine W.z u hu uv fun r r1 r2 => ?_
    by_cases k : r = q
    · rw [k, e1]; omega
    · have := hz r r1 r2
      rw [sU_o k] at this
      exact this
/-- what the way back rests on at each of its places -/
theorem way_t {γ : Nat → Nat → Nat} {s : Nat → Nat} {F P V v q : Nat} {x y d : Nat → Int} {c : Nat → Int32} {l l' : Int} (D : DU γ s F P V x y l) (hR : ∀ a b, a < V → b < V → Rx γ s F P d a b) (h0 : 0 ≤ l') (hv : v < V) (q1 : F ≤ q) (q2 : q < P) (hg : γ q v ≠ 0) (hy : y v + l' ≤ d v) (hc : (V ≤ s q ∧ d v = (γ q v : Int)) ∨ (s q < V ∧ s q ≠ v ∧ -1000000 < d (s q) ∧ d v ≤ d (s q) - (γ q (s q) : Int) + (γ q v : Int))) : xN γ s V (yN y d l') l' q + yN y d l' v = (γ q v : Int) ∧ (s q < V → y (s q) + l' ≤ d (s q)) := by
  have yv : yN y d l' v = d v - l' := if_pos (by omega)
  have fq := D.f q v q1 q2 hv hg
  rcases hc with ⟨k, e⟩ | ⟨k, k2, k3, k4⟩
  · have xq : xN γ s V (yN y d l') l' q = l' := if_neg (by omega)
    rw [xq, yv]
    exact ⟨by omega, fun z => absurd z (by omega)⟩
  · have xq : xN γ s V (yN y d l') l' q = (γ q (s q) : Int) - yN y d l' (s q) := if_pos k
    have r := hR (s q) v k hv q q1 q2 rfl k3 (fun e => k2 e.symm) hg
    obtain ⟨t1, t2⟩ := D.t q q1 q2 k
    have ya : y (s q) + l' ≤ d (s q) := by omega
    have ye : yN y d l' (s q) = d (s q) - l' := if_pos (by omega)
    rw [xq, yv, ye]
    exact ⟨by omega, fun _ => ya⟩
theorem lex_rk {T : Nat → Nat} {N a v : Nat} {f : Nat → Int} (hT : ∀ v, T v < N) (ha : 0 ≤ f a) (hv : 0 ≤ f v) (h : f a < f v ∨ (f a = f v ∧ T a < T v)) : (f a).toNat * N + T a < (f v).toNat * N + T v := by
  have ta := hT a
  rcases h with h | ⟨h1, h2⟩
  · have : ((f a).toNat + 1) * N ≤ (f v).toNat * N := Nat.mul_le_mul_right N (by omega)
    rw [Nat.add_mul] at this
    omega
  · rw [h1]; omega
