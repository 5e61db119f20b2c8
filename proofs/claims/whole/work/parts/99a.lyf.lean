/-! what a step of one person's may write -/
abbrev PnX (p nc nc' nb nb' : Nat) (μ μ' : St) : Prop := (∀ f a b i, ¬ (f = 268 ∨ (270 ≤ f ∧ f ≤ 272) ∨ (275 ≤ f ∧ f ≤ 276) ∨ (279 ≤ f ∧ f ≤ 306)) → μ'.1 f a b i = μ.1 f a b i) ∧ (∀ f i, (275 ≤ f ∧ f ≤ 276) ∨ (279 ≤ f ∧ f ≤ 285) → i ≠ p → μ'.1 f 0 0 i = μ.1 f 0 0 i) ∧ (nc ≤ nc') ∧ (∀ j, j < nc → μ.1 288 0 0 j ≠ nI p → ∀ f, 288 ≤ f ∧ f ≤ 299 → μ'.1 f 0 0 j = μ.1 f 0 0 j) ∧ (∀ j, j < nc → μ'.1 288 0 0 j = μ.1 288 0 0 j) ∧ (∀ j, nc ≤ j → j < nc' → μ'.1 288 0 0 j = nI p) ∧ (nb ≤ nb') ∧ (∀ j, j < nb → ∀ f, 301 ≤ f ∧ f ≤ 303 → μ'.1 f 0 0 j = μ.1 f 0 0 j) ∧ (∀ j, nb ≤ j → j < nb' → μ'.1 301 0 0 j = nI p) ∧ (∀ f i, 304 ≤ f ∧ f ≤ 306 → ¬ (624 * p ≤ i ∧ i < 624 * p + 624) → μ'.1 f 0 0 i = μ.1 f 0 0 i) ∧ (∀ f a b i, f ≠ 267 → f ≠ 300 → f ≠ 308 → μ'.2 f a b i = μ.2 f a b i) ∧ (∀ j, j < nc → μ.1 288 0 0 j ≠ nI p → μ'.2 300 0 0 j = μ.2 300 0 0 j) ∧ (∀ i, ¬ (624 * p ≤ i ∧ i < 624 * p + 624) → μ'.2 308 0 0 i = μ.2 308 0 0 i)
theorem PnX.o {p nc nc' nb nb' : Nat} {μ μ' : St} (h : PnX p nc nc' nb nb' μ μ') : ∀ f a b i, ¬ (f = 268 ∨ (270 ≤ f ∧ f ≤ 272) ∨ (275 ≤ f ∧ f ≤ 276) ∨ (279 ≤ f ∧ f ≤ 306)) → μ'.1 f a b i = μ.1 f a b i := h.1
theorem PnX.p {p nc nc' nb nb' : Nat} {μ μ' : St} (h : PnX p nc nc' nb nb' μ μ') : ∀ f i, (275 ≤ f ∧ f ≤ 276) ∨ (279 ≤ f ∧ f ≤ 285) → i ≠ p → μ'.1 f 0 0 i = μ.1 f 0 0 i := h.2.1
theorem PnX.cl {p nc nc' nb nb' : Nat} {μ μ' : St} (h : PnX p nc nc' nb nb' μ μ') : nc ≤ nc' := h.2.2.1
theorem PnX.c {p nc nc' nb nb' : Nat} {μ μ' : St} (h : PnX p nc nc' nb nb' μ μ') : ∀ j, j < nc → μ.1 288 0 0 j ≠ nI p → ∀ f, 288 ≤ f ∧ f ≤ 299 → μ'.1 f 0 0 j = μ.1 f 0 0 j := h.2.2.2.1
theorem PnX.cp {p nc nc' nb nb' : Nat} {μ μ' : St} (h : PnX p nc nc' nb nb' μ μ') : ∀ j, j < nc → μ'.1 288 0 0 j = μ.1 288 0 0 j := h.2.2.2.2.1
theorem PnX.cn {p nc nc' nb nb' : Nat} {μ μ' : St} (h : PnX p nc nc' nb nb' μ μ') : ∀ j, nc ≤ j → j < nc' → μ'.1 288 0 0 j = nI p := h.2.2.2.2.2.1
theorem PnX.bl {p nc nc' nb nb' : Nat} {μ μ' : St} (h : PnX p nc nc' nb nb' μ μ') : nb ≤ nb' := h.2.2.2.2.2.2.1
theorem PnX.b {p nc nc' nb nb' : Nat} {μ μ' : St} (h : PnX p nc nc' nb nb' μ μ') : ∀ j, j < nb → ∀ f, 301 ≤ f ∧ f ≤ 303 → μ'.1 f 0 0 j = μ.1 f 0 0 j := h.2.2.2.2.2.2.2.1
theorem PnX.bn {p nc nc' nb nb' : Nat} {μ μ' : St} (h : PnX p nc nc' nb nb' μ μ') : ∀ j, nb ≤ j → j < nb' → μ'.1 301 0 0 j = nI p := h.2.2.2.2.2.2.2.2.1
theorem PnX.d {p nc nc' nb nb' : Nat} {μ μ' : St} (h : PnX p nc nc' nb nb' μ μ') : ∀ f i, 304 ≤ f ∧ f ≤ 306 → ¬ (624 * p ≤ i ∧ i < 624 * p + 624) → μ'.1 f 0 0 i = μ.1 f 0 0 i := h.2.2.2.2.2.2.2.2.2.1
theorem PnX.j {p nc nc' nb nb' : Nat} {μ μ' : St} (h : PnX p nc nc' nb nb' μ μ') : ∀ f a b i, f ≠ 267 → f ≠ 300 → f ≠ 308 → μ'.2 f a b i = μ.2 f a b i := h.2.2.2.2.2.2.2.2.2.2.1
theorem PnX.jc {p nc nc' nb nb' : Nat} {μ μ' : St} (h : PnX p nc nc' nb nb' μ μ') : ∀ j, j < nc → μ.1 288 0 0 j ≠ nI p → μ'.2 300 0 0 j = μ.2 300 0 0 j := h.2.2.2.2.2.2.2.2.2.2.2.1
theorem PnX.jd {p nc nc' nb nb' : Nat} {μ μ' : St} (h : PnX p nc nc' nb nb' μ μ') : ∀ i, ¬ (624 * p ≤ i ∧ i < 624 * p + 624) → μ'.2 308 0 0 i = μ.2 308 0 0 i := h.2.2.2.2.2.2.2.2.2.2.2.2
theorem PnX.rf {p nc nb : Nat} {μ : St} : PnX p nc nc nb nb μ μ :=
  ⟨fun _ _ _ _ _ => rfl, fun _ _ _ _ => rfl, Nat.le_refl _, fun _ _ _ _ _ => rfl, fun _ _ => rfl, fun j a b => by omega, Nat.le_refl _, fun _ _ _ _ => rfl, fun j a b => by omega, fun _ _ _ _ => rfl, fun _ _ _ _ _ _ _ => rfl, fun _ _ _ => rfl, fun _ _ => rfl⟩
theorem PnX.tr {p nc nc' nc'' nb nb' nb'' : Nat} {μ μ' μ'' : St} (h : PnX p nc nc' nb nb' μ μ') (h2 : PnX p nc' nc'' nb' nb'' μ' μ'') : PnX p nc nc'' nb nb'' μ μ'' :=
  ⟨fun f a b i e => (h2.o f a b i e).trans (h.o f a b i e), fun f i e e2 => (h2.p f i e e2).trans (h.p f i e e2), Nat.le_trans h.cl h2.cl,
   fun j a b f e => (h2.c j (Nat.lt_of_lt_of_le a h.cl) (by rw [h.cp j a]; exact b) f e).trans (h.c j a b f e),
   fun j a => (h2.cp j (Nat.lt_of_lt_of_le a h.cl)).trans (h.cp j a),
   fun j a b => by
    by_cases z : j < nc'
    · exact (h2.cp j z).trans (h.cn j a z)
    · exact h2.cn j (by omega) b,
   Nat.le_trans h.bl h2.bl, fun j a f e => (h2.b j (Nat.lt_of_lt_of_le a h.bl) f e).trans (h.b j a f e),
   fun j a b => by
    by_cases z : j < nb'
    · exact (h2.b j z _ (by decide)).trans (h.bn j a z)
    · exact h2.bn j (by omega) b,
   fun f i e e2 => (h2.d f i e e2).trans (h.d f i e e2), fun f a b i e e2 e3 => (h2.j f a b i e e2 e3).trans (h.j f a b i e e2 e3),
   fun j a b => (h2.jc j (Nat.lt_of_lt_of_le a h.cl) (by rw [h.cp j a]; exact b)).trans (h.jc j a b), fun i e => (h2.jd i e).trans (h.jd i e)⟩
/-- a write to a person's own number -/
theorem PnX.s {p nc nb f : Nat} {μ : St} {x : Int32} (h : (275 ≤ f ∧ f ≤ 276) ∨ (279 ≤ f ∧ f ≤ 285)) : PnX p nc nc nb nb μ (sI μ f 0 0 p x) :=
  ⟨fun f' a b i e => sI_o (fun q => e (by omega)), fun f' i _ e2 => by rw [sI_1, if_neg (fun q => e2 q.2.2.2)], Nat.le_refl _, fun _ _ _ f' e => sI_o (by omega), fun _ _ => sI_o (by omega), fun j a b => by omega, Nat.le_refl _, fun _ _ f' e => sI_o (by omega), fun j a b => by omega, fun f' i e _ => sI_o (by omega), fun _ _ _ _ _ _ _ => rfl, fun _ _ _ => rfl, fun _ _ => rfl⟩
/-- a write to what belongs to nobody -/
theorem PnX.g {p nc nb f i : Nat} {μ : St} {x : Int32} (h : f = 268 ∨ (270 ≤ f ∧ f ≤ 272)) : PnX p nc nc nb nb μ (sI μ f 0 0 i x) :=
  ⟨fun f' a b i' e => sI_o (fun q => e (by omega)), fun f' i _ _ => sI_o (by omega), Nat.le_refl _, fun _ _ _ f' e => sI_o (by omega), fun _ _ => sI_o (by omega), fun j a b => by omega, Nat.le_refl _, fun _ _ f' e => sI_o (by omega), fun j a b => by omega, fun f' i e _ => sI_o (by omega), fun _ _ _ _ _ _ _ => rfl, fun _ _ _ => rfl, fun _ _ => rfl⟩
theorem PnX.sk {p nc nb : Nat} {μ μ' : St} (h : Sk 267 μ μ') : PnX p nc nc nb nb μ μ' :=
  ⟨fun _ _ _ _ _ => by rw [h.1], fun _ _ _ _ => by rw [h.1], Nat.le_refl _, fun _ _ _ _ _ => by rw [h.1], fun _ _ => by rw [h.1], fun j a b => by omega, Nat.le_refl _, fun _ _ _ _ => by rw [h.1], fun j a b => by omega, fun _ _ _ _ => by rw [h.1], fun f a b i e _ _ => h.2 f a b i e, fun _ _ _ => h.2 _ _ _ _ (by decide), fun _ _ => h.2 _ _ _ _ (by decide)⟩
/-- a write to a claim of the person's -/
theorem PnX.k {p nc nb f j : Nat} {μ : St} {x : Int32} (h : 289 ≤ f ∧ f ≤ 299) (hj : μ.1 288 0 0 j = nI p) : PnX p nc nc nb nb μ (sI μ f 0 0 j x) :=
  ⟨fun f' a b i' e => sI_o (fun q => e (by omega)), fun f' i e _ => sI_o (by omega), Nat.le_refl _, fun j' _ c f' e => by rw [sI_1, if_neg (fun q => c (by rw [q.2.2.2]; exact hj))], fun _ _ => sI_o (by omega), fun j a b => by omega, Nat.le_refl _, fun _ _ f' e => sI_o (by omega), fun j a b => by omega, fun f' i e _ => sI_o (by omega), fun _ _ _ _ _ _ _ => rfl, fun _ _ _ => rfl, fun _ _ => rfl⟩
theorem PnX.kj {p nc nb j : Nat} {μ : St} {x : Int64} (hj : μ.1 288 0 0 j = nI p) : PnX p nc nc nb nb μ (sJ μ 300 0 0 j x) :=
  ⟨fun _ _ _ _ _ => rfl, fun _ _ _ _ => rfl, Nat.le_refl _, fun _ _ _ _ _ => rfl, fun _ _ => rfl, fun j a b => by omega, Nat.le_refl _, fun _ _ _ _ => rfl, fun j a b => by omega, fun _ _ _ _ => rfl, fun f a b i _ e2 _ => sJ_o e2, fun j' _ c => by rw [sJ_2, if_neg (fun q => c (by rw [q.2.2.2]; exact hj))], fun _ _ => sJ_o (by decide)⟩
/-- a write to a day of the person's -/
theorem PnX.y {p nc nb f i : Nat} {μ : St} {x : Int32} (h : 304 ≤ f ∧ f ≤ 306) (hi : i < 624) : PnX p nc nc nb nb μ (sI μ f 0 0 (624 * p + i) x) :=
  ⟨fun f' a b i' e => sI_o (fun q => e (by omega)), fun f' i e _ => sI_o (by omega), Nat.le_refl _, fun _ _ _ f' e => sI_o (by omega), fun _ _ => sI_o (by omega), fun j a b => by omega, Nat.le_refl _, fun _ _ f' e => sI_o (by omega), fun j a b => by omega, fun f' i' _ e => by rw [sI_1, if_neg (fun q => e (by omega))], fun _ _ _ _ _ _ _ => rfl, fun _ _ _ => rfl, fun _ _ => rfl⟩
theorem PnX.yj {p nc nb i : Nat} {μ : St} {x : Int64} (hi : i < 624) : PnX p nc nc nb nb μ (sJ μ 308 0 0 (624 * p + i) x) :=
  ⟨fun _ _ _ _ _ => rfl, fun _ _ _ _ => rfl, Nat.le_refl _, fun _ _ _ _ _ => rfl, fun _ _ => rfl, fun j a b => by omega, Nat.le_refl _, fun _ _ _ _ => rfl, fun j a b => by omega, fun _ _ _ _ => rfl, fun f a b i _ _ e3 => sJ_o e3, fun _ _ _ => sJ_o (by decide), fun i' e => by rw [sJ_2, if_neg (fun q => e (by omega))]⟩
/-! bars, pay of claims, days -/
abbrev RfB (p d : Nat) (μ : St) (s : Lfe) (nb : Nat) : Prop := (μ.1 287 0 0 0 = nI nb) ∧ (∀ b, b < nb → (μ.1 302 0 0 b).toInt ≤ (d : Int)) ∧ (∀ d' : Nat, d ≤ d' → d' < 936 → ((∃ b, b < nb ∧ μ.1 301 0 0 b = nI p ∧ (d' : Int) ≤ (μ.1 303 0 0 b).toInt) ↔ (d' : Int) ≤ (s 90 0).toInt)) ∧ (-1 ≤ (s 90 0).toInt ∧ (s 90 0).toInt ≤ 20000) ∧ (nb ≤ 160)
theorem RfB.nb {p d : Nat} {μ : St} {s : Lfe} {nb : Nat} (h : RfB p d μ s nb) : μ.1 287 0 0 0 = nI nb := h.1
theorem RfB.fr {p d : Nat} {μ : St} {s : Lfe} {nb : Nat} (h : RfB p d μ s nb) : ∀ b, b < nb → (μ.1 302 0 0 b).toInt ≤ (d : Int) := h.2.1
theorem RfB.eq {p d : Nat} {μ : St} {s : Lfe} {nb : Nat} (h : RfB p d μ s nb) : ∀ d' : Nat, d ≤ d' → d' < 936 → ((∃ b, b < nb ∧ μ.1 301 0 0 b = nI p ∧ (d' : Int) ≤ (μ.1 303 0 0 b).toInt) ↔ (d' : Int) ≤ (s 90 0).toInt) := h.2.2.1
theorem RfB.rg {p d : Nat} {μ : St} {s : Lfe} {nb : Nat} (h : RfB p d μ s nb) : -1 ≤ (s 90 0).toInt ∧ (s 90 0).toInt ≤ 20000 := h.2.2.2.1
theorem RfB.bd {p d : Nat} {μ : St} {s : Lfe} {nb : Nat} (h : RfB p d μ s nb) : nb ≤ 160 := h.2.2.2.2
/-- what was paid on a person's days -/
def pyS (μ : St) (p : Nat) : Nat → Int64
  | 0 => 0
  | n + 1 => pyS μ p n + μ.2 308 0 0 (624 * p + n)
def ctS (μ : St) (p : Nat) (g : Int32 → Bool) : Nat → Nat
  | 0 => 0
  | n + 1 => ctS μ p g n + if g (μ.1 304 0 0 (624 * p + n)) = true then 1 else 0
def DyR (μ : St) (p i : Nat) (s : Lfe) : Prop := ∃ k y t c : Nat, k ≤ 9 ∧ y ≤ 9999 ∧ t ≤ 17 ∧ c ≤ 60 ∧ μ.1 304 0 0 (624 * p + i) = nI k ∧ μ.2 308 0 0 (624 * p + i) = (nI y).toInt64 ∧ μ.1 305 0 0 (624 * p + i) = nI t - 1 ∧ μ.1 306 0 0 (624 * p + i) = nI c - 1 ∧ s 78 i = pck (nI k) (nI y) (nI t - 1) (nI c - 1)
abbrev RfD (p d : Nat) (μ : St) (s : Lfe) : Prop := (∀ i, 312 + i < d → DyR μ p i s) ∧ (s 81 0 = (pyS μ p (d - 312)).toInt32) ∧ (s 81 1 = nI (ctS μ p isPd (d - 312))) ∧ (s 81 2 = nI (ctS μ p (fun k => decide (k = 0)) (d - 312)))
theorem RfD.dy {p d : Nat} {μ : St} {s : Lfe} (h : RfD p d μ s) : ∀ i, 312 + i < d → DyR μ p i s := h.1
theorem RfD.t0 {p d : Nat} {μ : St} {s : Lfe} (h : RfD p d μ s) : s 81 0 = (pyS μ p (d - 312)).toInt32 := h.2.1
theorem RfD.t1 {p d : Nat} {μ : St} {s : Lfe} (h : RfD p d μ s) : s 81 1 = nI (ctS μ p isPd (d - 312)) := h.2.2.1
theorem RfD.t2 {p d : Nat} {μ : St} {s : Lfe} (h : RfD p d μ s) : s 81 2 = nI (ctS μ p (fun k => decide (k = 0)) (d - 312)) := h.2.2.2
def RfY (μ : St) (s : Lfe) (c : Nat) (cm : Nat → Nat) : Prop := ∀ i, i < c → s 79 (11 * i + 6) = (μ.2 300 0 0 (cm i)).toInt32
/-- all of a person's, at a day -/
def RfA (p d : Nat) (μ : St) (s : Lfe) (nc nb : Nat) : Prop := ∃ c cm, RfP p μ s ∧ RfC p μ s c nc cm ∧ RfB p d μ s nb ∧ RfD p d μ s ∧ RfY μ s c cm
theorem pyS_c {μ μ' : St} {p : Nat} : ∀ n, (∀ i, i < n → μ'.2 308 0 0 (624 * p + i) = μ.2 308 0 0 (624 * p + i)) → pyS μ' p n = pyS μ p n
  | 0, _ => rfl
  | n + 1, h => by
    show pyS μ' p n + _ = pyS μ p n + _
    rw [pyS_c n (fun i hi => h i (by omega)), h n (by omega)]
theorem ctS_c {μ μ' : St} {p : Nat} {g : Int32 → Bool} : ∀ n, (∀ i, i < n → μ'.1 304 0 0 (624 * p + i) = μ.1 304 0 0 (624 * p + i)) → ctS μ' p g n = ctS μ p g n
  | 0, _ => rfl
  | n + 1, h => by
    show ctS μ' p g n + _ = ctS μ p g n + _
    rw [ctS_c n (fun i hi => h i (by omega)), h n (by omega)]
/-- the days stay if their places do -/
theorem RfD.mv {p d : Nat} {μ μ' : St} {s s' : Lfe} (h : RfD p d μ s) (hd : d ≤ 936) (h1 : ∀ f i, 304 ≤ f ∧ f ≤ 306 → 312 + i < d → μ'.1 f 0 0 (624 * p + i) = μ.1 f 0 0 (624 * p + i)) (h2 : ∀ i, 312 + i < d → μ'.2 308 0 0 (624 * p + i) = μ.2 308 0 0 (624 * p + i)) (h3 : ∀ i, s' 78 i = s 78 i) (h4 : ∀ i, s' 81 i = s 81 i) : RfD p d μ' s' := by
  obtain ⟨a1, a2, a3, a4⟩ := h
  refine ⟨fun i hi => ?_, ?_, ?_, ?_⟩
  · obtain ⟨k, y, t, c, b1, b2, b3, b4, b5, b6, b7, b8, b9⟩ := a1 i hi
    exact ⟨k, y, t, c, b1, b2, b3, b4, (h1 _ i (by decide) hi).trans b5, (h2 i hi).trans b6, (h1 _ i (by decide) hi).trans b7, (h1 _ i (by decide) hi).trans b8, (h3 i).trans b9⟩
  · rw [h4, a2, pyS_c _ (fun i hi => h2 i (by omega))]
  · rw [h4, a3, ctS_c _ (fun i hi => h1 _ i (by decide) (by omega))]
  · rw [h4, a4, ctS_c _ (fun i hi => h1 _ i (by decide) (by omega))]
/-- another person's slice stays -/
theorem RfA.oth {p q d nc nc' nb nb' : Nat} {μ μ' : St} {s : Lfe} (h : RfA q d μ s nc nb) (hX : PnX p nc nc' nb nb' μ μ') (hpq : q ≠ p) (hq : q < 20) (hp : p < 20) (hd : d ≤ 936) (h1 : μ'.1 286 0 0 0 = nI nc') (h2 : μ'.1 287 0 0 0 = nI nb') (h3 : nc' ≤ 160) (h4 : nb' ≤ 160) (h5 : ∀ b, nb ≤ b → b < nb' → (μ'.1 302 0 0 b).toInt ≤ (d : Int)) : RfA q d μ' s nc' nb' := by
  obtain ⟨c, cm, ⟨p1, p2, p3, p4, p5, p6, p7⟩, hC, ⟨b1, b2, b3, b4, b5⟩, hD, hY⟩ := h
  have ne : nI q ≠ nI p := fun z => hpq ((nI_eq (by omega) (by omega)).mp z)
  have fp : ∀ f, (275 ≤ f ∧ f ≤ 276) ∨ (279 ≤ f ∧ f ≤ 285) → μ'.1 f 0 0 q = μ.1 f 0 0 q := fun f e => hX.p f q e hpq
  have fc : ∀ i, i < c → ∀ f, 288 ≤ f ∧ f ≤ 299 → μ'.1 f 0 0 (cm i) = μ.1 f 0 0 (cm i) := fun i hi f e => by
    obtain ⟨y1, y2, -⟩ := hC.cl i hi
    exact hX.c (cm i) y1 (by rw [y2]; exact ne) f e
  have hcl := hX.cl
  have hbl := hX.bl
  have hbd := hC.bd
  refine ⟨c, cm, ⟨(fp _ (by decide)).trans p1, (fp _ (by decide)).trans p2, (fp _ (by decide)).trans p3, (fp _ (by decide)).trans p4, (fp _ (by decide)).trans p5, (fp _ (by decide)).trans p6, (fp _ (by decide)).trans p7⟩, ⟨hC.cc, (fp _ (by decide)).trans hC.cn, (fp _ (by decide)).trans hC.la, h1, fun i hi => ?_, fun j hj hjp => ?_, ?_, fun c0 => ?_, fun i hi => ?_, ⟨by omega, h3⟩, hC.cj⟩, ⟨h2, fun b hb => ?_, fun d' e1 e2 => ?_, b4, h4⟩, hD.mv hd (fun f i e hi => hX.d f _ e (by omega)) (fun i hi => hX.jd _ (by omega)) (fun _ => rfl) (fun _ => rfl), fun i hi => ?_⟩
  · obtain ⟨y1, y2, y3, y4⟩ := hC.cl i hi
    refine ⟨by omega, (fc i hi _ (by decide)).trans y2, (fc i hi _ (by decide)).trans y3, ?_⟩
    obtain ⟨z0, z1, z2, z3, z4, z5, z7, z8, z9, z10⟩ := y4
    exact ⟨(fc i hi _ (by decide)).trans z0, (fc i hi _ (by decide)).trans z1, (fc i hi _ (by decide)).trans z2, (fc i hi _ (by decide)).trans z3, (fc i hi _ (by decide)).trans z4, (fc i hi _ (by decide)).trans z5, (fc i hi _ (by decide)).trans z7, by rw [fc i hi _ (by decide)]; exact z8, (fc i hi _ (by decide)).trans z9, (fc i hi _ (by decide)).trans z10⟩
  · by_cases z : j < nc
    · exact hC.cv j z (by rw [← hX.cp j z]; exact hjp)
    · exact absurd ((hX.cn j (by omega) hj).symm.trans hjp).symm ne
  · rw [hC.op]
    by_cases c0 : c = 0
    · rw [if_pos c0, if_pos c0]
    · rw [if_neg c0, if_neg c0, fc (c - 1) (by omega) _ (by decide)]
  · rw [fc (c - 1) (by omega) _ (by decide)]
    exact hC.co c0
  · rw [fc i (by omega) _ (by decide)]
    exact hC.ol i hi
  · by_cases z : b < nb
    · rw [hX.b b z _ (by decide)]
      exact b2 b z
    · exact h5 b (by omega) hb
  · rw [← b3 d' e1 e2]
    constructor
    · rintro ⟨b, x1, x2, x3⟩
      by_cases z : b < nb
      · exact ⟨b, z, by rw [← hX.b b z _ (by decide)]; exact x2, by rw [← hX.b b z _ (by decide)]; exact x3⟩
      · exact absurd ((hX.bn b (by omega) x1).symm.trans x2).symm ne
    · rintro ⟨b, x1, x2, x3⟩
      exact ⟨b, by omega, by rw [hX.b b x1 _ (by decide)]; exact x2, by rw [hX.b b x1 _ (by decide)]; exact x3⟩
  · obtain ⟨y1, y2, -⟩ := hC.cl i hi
    rw [hX.jc (cm i) y1 (by rw [y2]; exact ne)]
    exact hY i hi
