/-! one more person: ways that are worth most, prices moved by them -/
abbrev DU (γ : Nat → Nat → Nat) (s : Nat → Nat) (F P V : Nat) (x y : Nat → Int) (l : Int) : Prop := (0 ≤ l) ∧ (∀ q, F ≤ q → q < P → l ≤ x q) ∧ (∀ v, v < V → 0 ≤ y v) ∧ (∀ q v, F ≤ q → q < P → v < V → γ q v ≠ 0 → (γ q v : Int) ≤ x q + y v) ∧ (∀ q, F ≤ q → q < P → s q < V → γ q (s q) ≠ 0 ∧ x q + y (s q) = (γ q (s q) : Int)) ∧ (∀ q, F ≤ q → q < P → V ≤ s q → x q = l) ∧ (∀ v, v < V → (∀ q, F ≤ q → q < P → s q ≠ v) → y v = 0) ∧ (∀ q r, F ≤ q → q < P → F ≤ r → r < P → s q < V → s q = s r → q = r) ∧ (∀ q v, γ q v ≤ 999)
theorem DU.l0 {γ : Nat → Nat → Nat} {s : Nat → Nat} {F P V : Nat} {x y : Nat → Int} {l : Int} (h : DU γ s F P V x y l) : 0 ≤ l := h.1
theorem DU.xl {γ : Nat → Nat → Nat} {s : Nat → Nat} {F P V : Nat} {x y : Nat → Int} {l : Int} (h : DU γ s F P V x y l) : ∀ q, F ≤ q → q < P → l ≤ x q := h.2.1
theorem DU.y0 {γ : Nat → Nat → Nat} {s : Nat → Nat} {F P V : Nat} {x y : Nat → Int} {l : Int} (h : DU γ s F P V x y l) : ∀ v, v < V → 0 ≤ y v := h.2.2.1
theorem DU.f {γ : Nat → Nat → Nat} {s : Nat → Nat} {F P V : Nat} {x y : Nat → Int} {l : Int} (h : DU γ s F P V x y l) : ∀ q v, F ≤ q → q < P → v < V → γ q v ≠ 0 → (γ q v : Int) ≤ x q + y v := h.2.2.2.1
theorem DU.t {γ : Nat → Nat → Nat} {s : Nat → Nat} {F P V : Nat} {x y : Nat → Int} {l : Int} (h : DU γ s F P V x y l) : ∀ q, F ≤ q → q < P → s q < V → γ q (s q) ≠ 0 ∧ x q + y (s q) = (γ q (s q) : Int) := h.2.2.2.2.1
theorem DU.u {γ : Nat → Nat → Nat} {s : Nat → Nat} {F P V : Nat} {x y : Nat → Int} {l : Int} (h : DU γ s F P V x y l) : ∀ q, F ≤ q → q < P → V ≤ s q → x q = l := h.2.2.2.2.2.1
theorem DU.z {γ : Nat → Nat → Nat} {s : Nat → Nat} {F P V : Nat} {x y : Nat → Int} {l : Int} (h : DU γ s F P V x y l) : ∀ v, v < V → (∀ q, F ≤ q → q < P → s q ≠ v) → y v = 0 := h.2.2.2.2.2.2.1
theorem DU.i {γ : Nat → Nat → Nat} {s : Nat → Nat} {F P V : Nat} {x y : Nat → Int} {l : Int} (h : DU γ s F P V x y l) : ∀ q r, F ≤ q → q < P → F ≤ r → r < P → s q < V → s q = s r → q = r := h.2.2.2.2.2.2.2.1
theorem DU.g {γ : Nat → Nat → Nat} {s : Nat → Nat} {F P V : Nat} {x y : Nat → Int} {l : Int} (h : DU γ s F P V x y l) : ∀ q v, γ q v ≤ 999 := h.2.2.2.2.2.2.2.2
def slk (y : Nat → Int) (l : Int) (d : Nat → Int) (v : Nat) : Int := l + y v - d v
def rcd (d : Nat → Int) (v : Nat) : Bool := decide (-1000000 < d v)
abbrev BF (γ : Nat → Nat → Nat) (s : Nat → Nat) (F P V : Nat) (y : Nat → Int) (l : Int) (d : Nat → Int) (c : Nat → Int32) : Prop := (∀ v, v < V → d v = -1000000 ∨ (-1000 * (cnt (rcd d) V : Int) ≤ d v ∧ d v ≤ l + y v)) ∧ (∃ T : Nat → Nat, ∃ N : Nat, (∀ v, T v < N) ∧ ∀ v, v < V → -1000000 < d v → ∃ q, F ≤ q ∧ q < P ∧ c v = nI q ∧ γ q v ≠ 0 ∧ ((V ≤ s q ∧ d v = (γ q v : Int)) ∨ (s q < V ∧ s q ≠ v ∧ -1000000 < d (s q) ∧ d v ≤ d (s q) - (γ q (s q) : Int) + (γ q v : Int) ∧ (slk y l d (s q) < slk y l d v ∨ (slk y l d (s q) = slk y l d v ∧ T (s q) < T v))))) ∧ (∀ q v, F ≤ q → q < P → v < V → V ≤ s q → γ q v ≠ 0 → (γ q v : Int) ≤ d v)
theorem BF.r {γ : Nat → Nat → Nat} {s : Nat → Nat} {F P V : Nat} {y : Nat → Int} {l : Int} {d : Nat → Int} {c : Nat → Int32} (h : BF γ s F P V y l d c) : ∀ v, v < V → d v = -1000000 ∨ (-1000 * (cnt (rcd d) V : Int) ≤ d v ∧ d v ≤ l + y v) := h.1
theorem BF.p {γ : Nat → Nat → Nat} {s : Nat → Nat} {F P V : Nat} {y : Nat → Int} {l : Int} {d : Nat → Int} {c : Nat → Int32} (h : BF γ s F P V y l d c) : ∃ T : Nat → Nat, ∃ N : Nat, (∀ v, T v < N) ∧ ∀ v, v < V → -1000000 < d v → ∃ q, F ≤ q ∧ q < P ∧ c v = nI q ∧ γ q v ≠ 0 ∧ ((V ≤ s q ∧ d v = (γ q v : Int)) ∨ (s q < V ∧ s q ≠ v ∧ -1000000 < d (s q) ∧ d v ≤ d (s q) - (γ q (s q) : Int) + (γ q v : Int) ∧ (slk y l d (s q) < slk y l d v ∨ (slk y l d (s q) = slk y l d v ∧ T (s q) < T v)))) := h.2.1
theorem BF.o {γ : Nat → Nat → Nat} {s : Nat → Nat} {F P V : Nat} {y : Nat → Int} {l : Int} {d : Nat → Int} {c : Nat → Int32} (h : BF γ s F P V y l d c) : ∀ q v, F ≤ q → q < P → v < V → V ≤ s q → γ q v ≠ 0 → (γ q v : Int) ≤ d v := h.2.2
/-- the way on from a to b is told -/
def Rx (γ : Nat → Nat → Nat) (s : Nat → Nat) (F P : Nat) (d : Nat → Int) (a b : Nat) : Prop := ∀ q, F ≤ q → q < P → s q = a → -1000000 < d a → b ≠ a → γ q b ≠ 0 → d a - (γ q a : Int) + (γ q b : Int) ≤ d b
def TS (γ : Nat → Nat → Nat) (s : Nat → Nat) (F P V : Nat) (y : Nat → Int) (l : Int) (d : Nat → Int) (t : Nat) : Prop := ∃ S : Nat → Bool, (t ≤ cnt S V ∨ ∀ v, v < V → S v = true) ∧ (∀ a b, a < V → b < V → S a = true → S b = false → slk y l d a ≤ slk y l d b) ∧ ∀ a b, a < V → b < V → S a = true → Rx γ s F P d a b
def TU (γ : Nat → Nat → Nat) (s : Nat → Nat) (F P V : Nat) (y : Nat → Int) (l : Int) (d : Nat → Int) (t a0 b0 : Nat) : Prop := ∃ S S' : Nat → Bool, (∀ v, S v = true → S' v = true) ∧ (t + 1 ≤ cnt S' V ∨ ∀ v, v < V → S' v = true) ∧ (∀ a b, a < V → b < V → S' a = true → S b = false → slk y l d a ≤ slk y l d b) ∧ (∀ a b, a < V → b < V → S a = true → Rx γ s F P d a b) ∧ ∀ a b, a < V → b < V → S' a = true → (a < a0 ∨ (a = a0 ∧ b < b0)) → Rx γ s F P d a b
theorem argmin {f : Nat → Int} {S : Nat → Bool} : ∀ n, (∀ v, v < n → S v = true) ∨ ∃ u, u < n ∧ S u = false ∧ ∀ v, v < n → S v = false → f u ≤ f v
  | 0 => Or.inl fun v h => absurd h (by omega)
  | n + 1 => by
    cases c : S n with
    | true =>
      rcases argmin (f := f) (S := S) n with h | ⟨u, u1, u2, u3⟩
      · exact Or.inl fun v hv => if e : v = n then e ▸ c else h v (by omega)
      · refine Or.inr ⟨u, by omega, u2, fun v hv hs => ?_⟩
        by_cases e : v = n
        · rw [e, c] at hs; exact absurd hs (by decide)
        · exact u3 v (by omega) hs
    | false =>
      rcases argmin (f := f) (S := S) n with h | ⟨u, u1, u2, u3⟩
      · refine Or.inr ⟨n, by omega, c, fun v hv hs => ?_⟩
        by_cases e : v = n
        · rw [e]; exact Int.le_refl _
        · rw [h v (by omega)] at hs; exact absurd hs (by decide)
      · by_cases z : f u ≤ f n
        · refine Or.inr ⟨u, by omega, u2, fun v hv hs => ?_⟩
          by_cases e : v = n
          · rw [e]; exact z
          · exact u3 v (by omega) hs
        · refine Or.inr ⟨n, by omega, c, fun v hv hs => ?_⟩
          by_cases e : v = n
          · rw [e]; exact Int.le_refl _
          · have := u3 v (by omega) hs
            omega
theorem TS.start {γ : Nat → Nat → Nat} {s : Nat → Nat} {F P V : Nat} {y : Nat → Int} {l : Int} {d : Nat → Int} : TS γ s F P V y l d 0 := ⟨fun _ => false, Or.inl (Nat.zero_le _), fun a b _ _ h => absurd h Bool.false_ne_true, fun a b _ _ h => absurd h Bool.false_ne_true⟩
theorem TS.go {γ : Nat → Nat → Nat} {s : Nat → Nat} {F P V t : Nat} {y : Nat → Int} {l : Int} {d : Nat → Int} (h : TS γ s F P V y l d t) : TU γ s F P V y l d t 0 0 := by
  obtain ⟨S, h1, h2, h3⟩ := h
  rcases argmin (f := slk y l d) (S := S) V with c | ⟨u, u1, u2, u3⟩
  · exact ⟨S, S, fun _ a => a, Or.inr c, h2, h3, fun a b q1 q2 q3 _ => h3 a b q1 q2 q3⟩
  · refine ⟨S, insU S u, fun v z => ?_, ?_, fun a b q1 q2 q3 q4 => ?_, h3, fun a b _ _ _ z => absurd z (by omega)⟩
    · simp [insU, z]
    · rcases h1 with k | k
      · have := cnt_add (p := S) (q := insU S u) u2 (insU_s S u) (fun x z => insU_o z) V u1
        exact Or.inl (by omega)
      · rw [k u u1] at u2; exact absurd u2 (by decide)
    · by_cases e : a = u
      · rw [e]; exact u3 b q2 q4
      · rw [insU_o e] at q3
        exact h2 a b q1 q2 q3 q4
theorem TU.nx {γ : Nat → Nat → Nat} {s : Nat → Nat} {F P V t a0 b0 : Nat} {y : Nat → Int} {l : Int} {d : Nat → Int} (h : TU γ s F P V y l d t a0 b0) (hr : Rx γ s F P d a0 b0) : TU γ s F P V y l d t a0 (b0 + 1) := by
  obtain ⟨S, S', h1, h2, h3, h4, h5⟩ := h
  refine ⟨S, S', h1, h2, h3, h4, fun a b q1 q2 q3 q4 => ?_⟩
  by_cases e : a = a0 ∧ b = b0
  · rw [e.1, e.2]; exact hr
  · exact h5 a b q1 q2 q3 (by omega)
theorem TU.row {γ : Nat → Nat → Nat} {s : Nat → Nat} {F P V t a0 : Nat} {y : Nat → Int} {l : Int} {d : Nat → Int} (h : TU γ s F P V y l d t a0 V) : TU γ s F P V y l d t (a0 + 1) 0 := by
  obtain ⟨S, S', h1, h2, h3, h4, h5⟩ := h
  exact ⟨S, S', h1, h2, h3, h4, fun a b q1 q2 q3 q4 => h5 a b q1 q2 q3 (by omega)⟩
theorem TU.skip {γ : Nat → Nat → Nat} {s : Nat → Nat} {F P V t a0 : Nat} {y : Nat → Int} {l : Int} {d : Nat → Int} (h : TU γ s F P V y l d t a0 0) (hr : ∀ b, Rx γ s F P d a0 b) : TU γ s F P V y l d t (a0 + 1) 0 := by
  obtain ⟨S, S', h1, h2, h3, h4, h5⟩ := h
  refine ⟨S, S', h1, h2, h3, h4, fun a b q1 q2 q3 q4 => ?_⟩
  by_cases e : a = a0
  · rw [e]; exact hr b
  · exact h5 a b q1 q2 q3 (by omega)
theorem TU.fin {γ : Nat → Nat → Nat} {s : Nat → Nat} {F P V t : Nat} {y : Nat → Int} {l : Int} {d : Nat → Int} (h : TU γ s F P V y l d t V 0) : TS γ s F P V y l d (t + 1) := by
  obtain ⟨S, S', h1, h2, h3, h4, h5⟩ := h
  refine ⟨S', h2, fun a b q1 q2 q3 q4 => h3 a b q1 q2 q3 ?_, fun a b q1 q2 q3 => h5 a b q1 q2 q3 (by omega)⟩
  cases c : S b with
  | false => rfl
  | true => rw [h1 b c] at q4; exact absurd q4 (by decide)
theorem TS.all {γ : Nat → Nat → Nat} {s : Nat → Nat} {F P V t : Nat} {y : Nat → Int} {l : Int} {d : Nat → Int} (h : TS γ s F P V y l d t) (ht : V ≤ t) : ∀ a b, a < V → b < V → Rx γ s F P d a b := by
  obtain ⟨S, h1, h2, h3⟩ := h
  intro a b q1 q2
  refine h3 a b q1 q2 ?_
  rcases h1 with k | k
  · exact cnt_all V (by omega) a q1
  · exact k a q1
theorem relax {γ : Nat → Nat → Nat} {s : Nat → Nat} {F P V t a0 b0 q0 : Nat} {x y : Nat → Int} {l : Int} {d d' : Nat → Int} {c c' : Nat → Int32} (D : DU γ s F P V x y l) (hV : V ≤ 24) (B : BF γ s F P V y l d c) (U : TU γ s F P V y l d t a0 b0) (ha : a0 < V) (hb : b0 < V) (hq1 : F ≤ q0) (hq2 : q0 < P) (hs : s q0 = a0) (hd : -1000000 < d a0) (hne : b0 ≠ a0) (hg : γ q0 b0 ≠ 0) (hi : d b0 < d a0 - (γ q0 a0 : Int) + (γ q0 b0 : Int)) (d1 : d' b0 = d a0 - (γ q0 a0 : Int) + (γ q0 b0 : Int)) (d2 : ∀ v, v ≠ b0 → d' v = d v) (c1 : c' b0 = nI q0) (c2 : ∀ v, v ≠ b0 → c' v = c v) : BF γ s F P V y l d' c' ∧ TU γ s F P V y l d' t a0 (b0 + 1) := by
  have tA := D.t q0 hq1 hq2 (by omega)
  rw [hs] at tA
  have fA := D.f q0 b0 hq1 hq2 hb hg
  have g1 := D.g q0 a0
  have g2 := D.g q0 b0
  have rA := B.r a0 ha
  have rB := B.r b0 hb
  have cl := cnt_le (rcd d) V
  have ka : slk y l d' a0 = slk y l d a0 := by unfold slk; rw [d2 a0 (fun e => hne e.symm)]
  have ko : ∀ v, v ≠ b0 → slk y l d' v = slk y l d v := fun v e => by unfold slk; rw [d2 v e]
  have kb : slk y l d a0 ≤ slk y l d' b0 ∧ slk y l d' b0 < slk y l d b0 := by
    unfold slk
    rw [d1]
    omega
  have dA : -1000 * (cnt (rcd d) V : Int) ≤ d a0 ∧ d a0 ≤ l + y a0 := rA.resolve_left (by omega)
  refine ⟨⟨?_, ?_, ?_⟩, ?_⟩
  · intro v hv
    by_cases n : d b0 = -1000000
    · have e := cnt_add (p := rcd d) (q := rcd d') (i := b0) (by unfold rcd; simp; omega) (by unfold rcd; simp; omega) (fun w z => by unfold rcd; rw [d2 w z]) V hb
      rw [e]
      by_cases z : v = b0
      · rw [z, d1]
        exact Or.inr ⟨by omega, by omega⟩
      · rw [d2 v z]
        rcases B.r v hv with k | k
        · exact Or.inl k
        · exact Or.inr ⟨by omega, k.2⟩
    · have e : cnt (rcd d') V = cnt (rcd d) V := cnt_cg V fun w _ => by
        by_cases z : w = b0
        · rw [z]
          unfold rcd
          rw [d1]
          have h1 : decide (-1000000 < d b0) = true := decide_eq_true (by omega)
          have h2 : decide (-1000000 < d a0 - (γ q0 a0 : Int) + (γ q0 b0 : Int)) = true := decide_eq_true (by omega)
          rw [h1, h2]
        · unfold rcd; rw [d2 w z]
      rw [e]
      by_cases z : v = b0
      · rw [z, d1]
        exact Or.inr ⟨by omega, by omega⟩
      · rw [d2 v z]
        exact B.r v hv
  · obtain ⟨T, N, hT, hp⟩ := B.p
    refine ⟨fun v => if v = b0 then N else T v, N + 1, fun v => ?_, fun v hv hdv => ?_⟩
    · have := hT v
      dsimp only
      split <;> omega
    · by_cases z : v = b0
      · subst z
        refine ⟨q0, hq1, hq2, c1, hg, Or.inr ⟨by omega, by omega, ?_, ?_, ?_⟩⟩
        · rw [hs, d2 a0 (fun e => hne e.symm)]; exact hd
        · rw [d1, hs, d2 a0 (fun e => hne e.symm)]; exact Int.le_refl _
        · rw [hs, ka]
          have := hT a0
          dsimp only
          rw [if_neg (show ¬ a0 = v from fun e => hne e.symm), if_pos rfl]
          omega
      · rw [d2 v z] at hdv
        obtain ⟨q, q1, q2, q3, q4, q5⟩ := hp v hv hdv
        refine ⟨q, q1, q2, by rw [c2 v z]; exact q3, q4, ?_⟩
        rw [d2 v z, ko v z]
        rcases q5 with k | ⟨k1, k2, k3, k4, k5⟩
        · exact Or.inl k
        · refine Or.inr ⟨k1, k2, ?_⟩
          by_cases w : s q = b0
          · rw [w] at k3 k4 k5 ⊢
            refine ⟨by omega, by omega, Or.inl (by omega)⟩
          · rw [d2 _ w, ko _ w]
            refine ⟨k3, k4, ?_⟩
            dsimp only
            rw [if_neg w, if_neg z]
            exact k5
  · intro q v q1 q2 q3 q4 q5
    have := B.o q v q1 q2 q3 q4 q5
    by_cases z : v = b0
    · rw [z] at this ⊢; omega
    · rw [d2 v z]; exact this
  · obtain ⟨S, S', h1, h2, h3, h4, h5⟩ := U
    have nA : S a0 = false := by
      cases k : S a0 with
      | false => rfl
      | true =>
        have := h4 a0 b0 ha hb k q0 hq1 hq2 hs hd hne hg
        omega
    have nB : S' b0 = false := by
      cases k : S' b0 with
      | false => rfl
      | true =>
        have := h3 b0 a0 hb ha k nA
        omega
    have nS : ∀ a, S' a = true → a ≠ b0 := fun a z e => by rw [e, nB] at z; exact absurd z (by decide)
    have dle : ∀ v, d v ≤ d' v := fun v => by
      by_cases z : v = b0
      · rw [z]; omega
      · rw [d2 v z]; exact Int.le_refl _
    have rx : ∀ a b, S' a = true → Rx γ s F P d a b → Rx γ s F P d' a b := fun a b z r q q1 q2 q3 q4 q5 q6 => by
      rw [d2 a (nS a z)] at q4 ⊢
      exact Int.le_trans (r q q1 q2 q3 q4 q5 q6) (dle b)
    refine ⟨S, S', h1, h2, fun a b q1 q2 q3 q4 => ?_, fun a b q1 q2 q3 => rx a b (h1 a q3) (h4 a b q1 q2 q3), fun a b q1 q2 q3 q4 => ?_⟩
    · rw [ko a (nS a q3)]
      by_cases z : b = b0
      · rw [z]
        have := h3 a a0 q1 ha q3 nA
        omega
      · rw [ko b z]
        exact h3 a b q1 q2 q3 q4
    · by_cases e : a = a0 ∧ b = b0
      · rw [e.1, e.2]
        intro q r1 r2 r3 r4 r5 r6
        have : q = q0 := D.i q q0 r1 r2 hq1 hq2 (by omega) (by omega)
        rw [this, d1, d2 a0 (fun z => hne z.symm)]
        exact Int.le_refl _
      · exact rx a b q3 (h5 a b q1 q2 q3 (by omega))
