/-! a slice at the run's start -/
theorem RfA.start {p : Nat} {E : Env} {μ : St} {s0 : Lfe} (h : StP μ p E.wage) (h1 : μ.1 286 0 0 0 = 0) (h2 : μ.1 287 0 0 0 = 0) : RfA p 312 μ (sBegin E s0) 0 0 := by
  obtain ⟨x1, x2, x3, x4, x5, x6, x7, x8, x9⟩ := h
  have m1 : (sBegin E s0 90 0).toInt = -1 := by
    show (-1 : Int32).toInt = -1
    decide
  refine ⟨0, fun _ => 0, ⟨x1, x2, x3, x4, x5, x6, x7⟩, ⟨rfl, x9, x8, h1, fun i hi => absurd hi (by omega), fun j hj => absurd hj (by omega), rfl, fun q => absurd rfl q, fun i hi => absurd hi (by omega), ⟨by decide, by decide⟩, fun i i' hi => absurd hi (by omega)⟩, ⟨h2, fun b hb => absurd hb (by omega), fun d' q1 q2 => ⟨fun ⟨b, hb, _⟩ => absurd hb (by omega), fun q => ?_⟩, ?_, by decide⟩, ⟨fun i hi => absurd hi (by omega), ?_, ?_, ?_⟩, fun i hi => absurd hi (by omega)⟩
  · rw [m1] at q
    omega
  · rw [m1]
    decide
  · show (0 : Int32) = (0 : Int64).toInt32
    decide
  · show (0 : Int32) = nI 0
    rfl
  · show (0 : Int32) = nI 0
    rfl
