/-! what a run of the reference keeps -/
def RnX (μ μ' : St) : Prop := (∀ f a b i, ¬ ((260 ≤ f ∧ f ≤ 308) ∧ f ≠ 266) → μ'.1 f a b i = μ.1 f a b i) ∧ (∀ f a b i, f ≠ 267 → f ≠ 300 → f ≠ 308 → μ'.2 f a b i = μ.2 f a b i)
theorem RnX.rf {μ : St} : RnX μ μ := ⟨fun _ _ _ _ _ => rfl, fun _ _ _ _ _ _ _ => rfl⟩
theorem RnX.tr {μ μ' μ'' : St} (h : RnX μ μ') (h2 : RnX μ' μ'') : RnX μ μ'' := ⟨fun f a b i e => (h2.1 f a b i e).trans (h.1 f a b i e), fun f a b i e e2 e3 => (h2.2 f a b i e e2 e3).trans (h.2 f a b i e e2 e3)⟩
theorem RnX.s {μ : St} {f a b i : Nat} {x : Int32} (h : (260 ≤ f ∧ f ≤ 308) ∧ f ≠ 266) : RnX μ (sI μ f a b i x) := ⟨fun f' a' b' i' e => sI_o (fun q => e (by rw [q]; exact h)), fun _ _ _ _ _ _ _ => rfl⟩
theorem RnX.j {μ : St} {f a b i : Nat} {x : Int64} (h : f = 267 ∨ f = 300 ∨ f = 308) : RnX μ (sJ μ f a b i x) := ⟨fun _ _ _ _ _ => rfl, fun f' a' b' i' e e2 e3 => by rw [sJ_2, if_neg (fun q => by rcases h with h | h | h; exact e (q.1.trans h); exact e2 (q.1.trans h); exact e3 (q.1.trans h))]⟩
theorem RnX.at {μ μ' : St} (h : RnX μ μ') {f i : Nat} (hf : f < 260 ∨ 308 < f ∨ f = 266) : μ'.1 f 0 0 i = μ.1 f 0 0 i := h.1 _ _ _ _ (fun q => by rcases hf with z | z | z; omega; omega; exact q.2 z)
theorem Fx.rn {μ μ' : St} {S : Nat → Bool} (h : Fx S μ μ') (hS : ∀ f, S f = true → (260 ≤ f ∧ f ≤ 308) ∧ f ≠ 266) : RnX μ μ' := ⟨fun f a b i q => h.1 f a b i (by
  cases e : S f with
  | false => rfl
  | true => exact absurd (hS f e) q), fun f a b i _ _ _ => by rw [h.2]⟩
/-! stamps in the reference -/
theorem div52 {w : Nat} (hw : w < 156) : nI w / 52 = nI (w / 52) := by
  have : ∀ w, w < 156 → nI w / 52 = nI (w / 52) := by decide +kernel
  exact this w hw
theorem mod52 {w : Nat} (hw : w < 156) : irem (nI w) 52 = nI (w % 52) := by
  have : ∀ w, w < 156 → irem (nI w) 52 = nI (w % 52) := by decide +kernel
  exact this w hw
theorem stAt_e {N p w k : Nat} {μ0 μ : St} (hR : Rng μ0) (hX : ∀ f i, f < 260 → μ.1 f 0 0 i = μ0.1 f 0 0 i) (hB : BkM k μ0 μ) (hp : p < 20) (hw : w < 156) : fM_inRow N (nI p) (nI w) μ = some (inRw μ0 p k w) ∧ fM_stampsAt N (nI p) (nI w) μ = some (stOf μ0 p k w) := by
  obtain ⟨nr, r1, r2, r3, r4, r5⟩ := hR.n (g := 216) (lo := 0) (hi := 60) 0 (by decide) (by decide)
  have e1 : (3 : Int32) * nI p + nI (w / 52) = nI (3 * p + w / 52) := by rw [show (3 : Int32) * nI p = nI (3 * p) from (Int32.ofNat_mul 3 p).symm, nI_add]
  have e2 : (156 : Int32) * nI p + nI w = nI (156 * p + w) := by rw [show (156 : Int32) * nI p = nI (156 * p) from (Int32.ofNat_mul 156 p).symm, nI_add]
  have a : fM_inRow N (nI p) (nI w) μ = some (inRw μ0 p k w) := by
    unfold fM_inRow
    rw [div52 hw, mod52 hw, e1, chk_t (inb_n (by omega) (by decide)), nmx, nI_clamp (by omega), hB.1 p (w / 52) hp (by omega)]
    cases h : rowL μ0 p (w / 52) k with
    | none =>
      rw [if_pos (show oI none = -1 from rfl)]
      unfold fM_inRow_32 inRw
      rw [h]
    | some r =>
      have hr := (lastB_lt _ _ h).1
      rw [r1, r3] at hr
      have e3 : (52 : Int32) * nI r + nI (w % 52) = nI (52 * r + w % 52) := by rw [show (52 : Int32) * nI r = nI (52 * r) from (Int32.ofNat_mul 52 r).symm, nI_add]
      rw [if_neg (show ¬ oI (some r) = -1 from m1_ne (by omega)), show oI (some r) = nI r from rfl, chk_t (inb_n (by omega) (by decide)), nI_clamp (by omega), hX _ _ (by decide), inRw_s h, e3, chk_t (inb_n (by omega) (by decide)), nI_clamp (by omega), hX _ _ (by decide)]
      unfold fM_inRow_32
      split <;> rfl
  refine ⟨a, ?_⟩
  unfold fM_stampsAt
  rw [a, bn1_e, e2]
  unfold stOf
  by_cases c : inRw μ0 p k w = -1
  · rw [if_pos c, if_pos c, chk_t (inb_n (by omega) (by decide)), nI_clamp (by omega), hB.2 p w hp hw]
  · rw [if_neg c, if_neg c]
theorem stM_loop {N p : Nat} {st : Nat → Int32} {μ : St} (hs : ∀ w, w < 156 → fM_stampsAt N (nI p) (nI w) μ = some (st w)) {d : Nat} (hd : d < 936) : ∀ (m w f : Nat) (x : Int32), w + m = d / 6 → m < f → fM_stampsAhead_11 N f (nI p) (nI d) x (nI w) μ = some (accS st m w x) ∧ fM_unknownAhead_11 N f (nI p) (nI d) x (nI w) μ = some (accU st m w x) := by
  intro m
  induction m with
  | zero =>
    intro w f x h1 h2
    obtain ⟨f, rfl⟩ : ∃ q, f = q + 1 := ⟨f - 1, by omega⟩
    constructor
    · show (if nI d / 6 ≤ nI w then some x else _) = _
      rw [div6 hd, if_pos (nI_le (by omega) (by omega))]
      rfl
    · show (if nI d / 6 ≤ nI w then some x else _) = _
      rw [div6 hd, if_pos (nI_le (by omega) (by omega))]
      rfl
  | succ m ih =>
    intro w f x h1 h2
    obtain ⟨f, rfl⟩ : ∃ q, f = q + 1 := ⟨f - 1, by omega⟩
    constructor
    · show (if nI d / 6 ≤ nI w then _ else bn1 (fM_stampsAt N (nI p) (nI w) μ) fun r1 => bn1 (fMath_max_I N 0 r1 μ) fun r2 => nm (x + r2) fun (y3 : Int32) => fM_stampsAhead_11 N f (nI p) (nI d) y3 (nI w + 1) μ) = _
      rw [div6 hd, if_neg (nI_ge (by omega) (by omega)), hs w (by omega), bn1_e, mx_n, bn1_e, nmx, nI_1, (ih (w + 1) f _ (by omega) (by omega)).1]
      rfl
    · show (if nI d / 6 ≤ nI w then _ else bn1 (fM_stampsAt N (nI p) (nI w) μ) fun r1 => if r1 = -1 then fM_unknownAhead_37 N (fM_unknownAhead_11 N f) (nI p) (nI d) (nI w) x 1 μ else fM_unknownAhead_37 N (fM_unknownAhead_11 N f) (nI p) (nI d) (nI w) x 0 μ) = _
      rw [div6 hd, if_neg (nI_ge (by omega) (by omega)), hs w (by omega), bn1_e]
      unfold fM_unknownAhead_37
      rw [nmx, nmx, nI_1, (ih (w + 1) f _ (by omega) (by omega)).2, (ih (w + 1) f _ (by omega) (by omega)).2]
      show _ = some (accU st m (w + 1) (x + if st w = -1 then 1 else 0))
      split <;> rfl
theorem stM_e {N p d : Nat} {E : Env} {μ : St} (hN : 60 ≤ N) (hs : ∀ w, w < 156 → fM_stampsAt N (nI p) (nI w) μ = some (E.st w)) (h1 : 312 ≤ d) (hd : d < 936) : fM_stampsAhead N (nI p) (nI d) μ = some (stA E d) ∧ fM_unknownAhead N (nI p) (nI d) μ = some (unA E d) := by
  have h := stM_loop hs hd 52 (d / 6 - 52) N 0 (by omega) (by omega)
  constructor
  · unfold fM_stampsAhead stA
    rw [div6 hd, nmx, sub52 (by omega), ← h.1]
  · unfold fM_unknownAhead unA
    rw [div6 hd, nmx, sub52 (by omega), ← h.2]
