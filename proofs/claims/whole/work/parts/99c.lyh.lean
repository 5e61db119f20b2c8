/-! a slice after a write -/
theorem ClR.mv {μ μ' : St} {j i : Nat} {s s' : Lfe} (h : ClR μ j s i) (h1 : ∀ f, 288 ≤ f ∧ f ≤ 299 → μ'.1 f 0 0 j = μ.1 f 0 0 j) (h2 : ∀ k, k < 11 → s' 79 (11 * i + k) = s 79 (11 * i + k)) : ClR μ' j s' i := by
  obtain ⟨z0, z1, z2, z3, z4, z5, z7, z8, z9, z10⟩ := h
  have h0 := h2 0 (by decide)
  rw [Nat.add_zero] at h0
  exact ⟨by rw [h1 _ (by decide), z0, h0], by rw [h1 _ (by decide), z1, h2 1 (by decide)], by rw [h1 _ (by decide), z2, h2 2 (by decide)], by rw [h1 _ (by decide), z3, h2 3 (by decide)], by rw [h1 _ (by decide), z4, h2 4 (by decide)], by rw [h1 _ (by decide), z5, h2 5 (by decide)], by rw [h1 _ (by decide), z7, h2 7 (by decide)], by rw [h1 _ (by decide), h2 8 (by decide), z8], by rw [h1 _ (by decide), z9, h2 9 (by decide)], by rw [h1 _ (by decide), z10, h2 10 (by decide)]⟩
theorem RfC.mv {p c nc : Nat} {μ μ' : St} {s s' : Lfe} {cm : Nat → Nat} (h : RfC p μ s c nc cm) (h1 : ∀ f i, 284 ≤ f ∧ f ≤ 299 ∧ f ≠ 287 → μ'.1 f 0 0 i = μ.1 f 0 0 i) (h2 : ∀ f i, f = 84 ∨ f = 85 ∨ f = 86 ∨ f = 79 → s' f i = s f i) : RfC p μ' s' c nc cm := by
  refine ⟨(h2 _ _ (Or.inl rfl)).trans h.cc, (h1 _ _ (by decide)).trans h.cn, (h1 _ _ (by decide)).trans h.la, (h1 _ _ (by decide)).trans h.nc, fun i hi => ?_, fun j hj hjp => h.cv j hj (by rw [← h1 _ _ (by decide)]; exact hjp), ?_, fun c0 => ?_, fun i hi => ?_, h.bd, h.cj⟩
  · obtain ⟨y1, y2, y3, y4⟩ := h.cl i hi
    exact ⟨y1, (h1 _ _ (by decide)).trans y2, (h1 _ _ (by decide)).trans y3, y4.mv (fun f q => h1 f _ (by omega)) (fun k _ => h2 _ _ (Or.inr (Or.inr (Or.inr rfl))))⟩
  · rw [h2 _ _ (Or.inr (Or.inl rfl)), h.op, h1 _ _ (by decide)]
  · rw [h1 _ _ (by decide), h2 _ _ (Or.inr (Or.inr (Or.inl rfl)))]
    exact h.co c0
  · rw [h1 _ _ (by decide)]
    exact h.ol i hi
theorem RfB.mv {p d nb : Nat} {μ μ' : St} {s s' : Lfe} (h : RfB p d μ s nb) (h1 : ∀ f i, f = 287 ∨ (301 ≤ f ∧ f ≤ 303) → μ'.1 f 0 0 i = μ.1 f 0 0 i) (h2 : s' 90 0 = s 90 0) : RfB p d μ' s' nb := by
  refine ⟨(h1 _ _ (by decide)).trans h.nb, fun b hb => ?_, fun d' q1 q2 => ?_, by rw [h2]; exact h.rg, h.bd⟩
  · rw [h1 _ _ (by decide)]
    exact h.fr b hb
  · rw [h2, ← h.eq d' q1 q2]
    constructor
    · rintro ⟨b, x1, x2, x3⟩
      exact ⟨b, x1, by rw [← h1 _ _ (by decide)]; exact x2, by rw [← h1 _ _ (by decide)]; exact x3⟩
    · rintro ⟨b, x1, x2, x3⟩
      exact ⟨b, x1, by rw [h1 _ _ (by decide)]; exact x2, by rw [h1 _ _ (by decide)]; exact x3⟩
theorem RfY.mv {μ μ' : St} {s s' : Lfe} {c : Nat} {cm : Nat → Nat} (h : RfY μ s c cm) (h1 : ∀ i, μ'.2 300 0 0 i = μ.2 300 0 0 i) (h2 : ∀ i, s' 79 (11 * i + 6) = s 79 (11 * i + 6)) : RfY μ' s' c cm := fun i hi => by rw [h1, h2]; exact h i hi
/-- what stands apart from a person's own numbers -/
abbrev aprt (f : Nat) : Prop := f = 84 ∨ f = 85 ∨ f = 86 ∨ f = 79 ∨ f = 90 ∨ f = 78 ∨ f = 81
theorem RfA.u {p d nc nb : Nat} {μ μ' : St} {s s' : Lfe} (h : RfA p d μ s nc nb) (hd : d ≤ 936) (hP : RfP p μ s → RfP p μ' s') (h1 : ∀ f i, 284 ≤ f ∧ f ≤ 306 → μ'.1 f 0 0 i = μ.1 f 0 0 i) (hj : ∀ f i, f = 300 ∨ f = 308 → μ'.2 f 0 0 i = μ.2 f 0 0 i) (h2 : ∀ f i, aprt f → s' f i = s f i) : RfA p d μ' s' nc nb := by
  obtain ⟨c, cm, a1, a2, a3, a4, a5⟩ := h
  refine ⟨c, cm, hP a1, a2.mv (fun f i q => h1 f i (by omega)) (fun f i q => h2 f i (by rcases q with q | q | q | q <;> rw [q] <;> decide)), a3.mv (fun f i q => h1 f i (by omega)) (h2 _ _ (by decide)), a4.mv hd (fun f i q _ => h1 f _ (by omega)) (fun i _ => hj _ _ (Or.inr rfl)) (fun i => h2 _ _ (by decide)) (fun i => h2 _ _ (by decide)), a5.mv (fun i => hj _ _ (Or.inl rfl)) (fun i => h2 _ _ (by decide))⟩
/-- a person's own number in both -/
abbrev ownP (g f : Nat) : Prop := (g, f) ∈ [(275, 87), (276, 88), (279, 89), (280, 93), (281, 91), (282, 94), (283, 92)]
theorem RfP.set {p g f : Nat} {μ : St} {s : Lfe} {x : Int32} (hg : ownP g f) (h : RfP p μ s) : RfP p (sI μ g 0 0 p x) (uL s f 0 x) := by
  simp only [ownP, List.mem_cons, List.not_mem_nil, or_false, Prod.mk.injEq] at hg
  rcases hg with ⟨rfl, rfl⟩ | ⟨rfl, rfl⟩ | ⟨rfl, rfl⟩ | ⟨rfl, rfl⟩ | ⟨rfl, rfl⟩ | ⟨rfl, rfl⟩ | ⟨rfl, rfl⟩
  all_goals refine ⟨?_, ?_, ?_, ?_, ?_, ?_, ?_⟩
  all_goals first
    | exact (sI_s ..).trans (uL_s ..).symm
    | exact (sI_o (by decide)).trans (h.wk.trans (uL_o (by decide)).symm)
    | exact (sI_o (by decide)).trans (h.aw.trans (uL_o (by decide)).symm)
    | exact (sI_o (by decide)).trans (h.sh.trans (uL_o (by decide)).symm)
    | exact (sI_o (by decide)).trans (h.us.trans (uL_o (by decide)).symm)
    | exact (sI_o (by decide)).trans (h.lf.trans (uL_o (by decide)).symm)
    | exact (sI_o (by decide)).trans (h.me.trans (uL_o (by decide)).symm)
    | exact (sI_o (by decide)).trans (h.re.trans (uL_o (by decide)).symm)
theorem RfA.set {p d nc nb g f : Nat} {μ : St} {s : Lfe} {x : Int32} (hg : ownP g f) (hd : d ≤ 936) (h : RfA p d μ s nc nb) : RfA p d (sI μ g 0 0 p x) (uL s f 0 x) nc nb := by
  have hg' := hg
  simp only [ownP, List.mem_cons, List.not_mem_nil, or_false, Prod.mk.injEq] at hg'
  refine h.u hd (RfP.set hg) (fun f' i q => sI_o (by omega)) (fun _ _ _ => rfl) (fun f' i q => uL_o (by simp only [aprt] at q; omega))
/-- what belongs to nobody -/
theorem RfA.g {p d nc nb : Nat} {μ μ' : St} {s : Lfe} (h : RfA p d μ s nc nb) (hd : d ≤ 936) (h1 : ∀ f i, 275 ≤ f ∧ f ≤ 306 → μ'.1 f 0 0 i = μ.1 f 0 0 i) (hj : ∀ f i, f = 300 ∨ f = 308 → μ'.2 f 0 0 i = μ.2 f 0 0 i) : RfA p d μ' s nc nb :=
  h.u hd (fun q => ⟨(h1 _ _ (by decide)).trans q.wk, (h1 _ _ (by decide)).trans q.aw, (h1 _ _ (by decide)).trans q.sh, (h1 _ _ (by decide)).trans q.us, (h1 _ _ (by decide)).trans q.lf, (h1 _ _ (by decide)).trans q.me, (h1 _ _ (by decide)).trans q.re⟩) (fun f i q => h1 f i (by omega)) hj (fun _ _ _ => rfl)
/-- a claim is closed -/
theorem close_M {N p d nc nb : Nat} {μ : St} {s : Lfe} (h : RfA p d μ s nc nb) (hp : p < 20) (hd : d < 936) (hn : μ.1 269 0 0 0 = nI d) : ∃ μ', fM_close0 N (nI p) μ = some μ' ∧ PnX p nc nc nb nb μ μ' ∧ RfA p d μ' (sClose d s) nc nb ∧ (∀ f i, f ≠ 297 → μ'.1 f 0 0 i = μ.1 f 0 0 i) ∧ μ'.2 = μ.2 := by
  obtain ⟨c, cm, a1, a2, a3, a4, a5⟩ := h
  unfold fM_close0 sClose
  rw [openOf_e a2 hp, bn1_e]
  by_cases o : s 85 0 = 0
  · rw [if_pos o, if_pos rfl, if_pos o]
    exact ⟨μ, rfl, PnX.rf, ⟨c, cm, a1, a2, a3, a4, a5⟩, fun _ _ _ => rfl, rfl⟩
  · obtain ⟨c0, e1, e2, e3⟩ := a2.c0 o
    rw [if_neg (fun q => o ((open_m1 a2).mp q)), if_neg o, if_neg o, chk_t (inb_n (by omega) (by decide)), nI_clamp (by omega), show μ.1 269 0 0 0 = nI d from hn, nmx, e1]
    obtain ⟨y1, y2, y3, y4⟩ := a2.cl (c - 1) (by omega)
    have dm : ¬ nI d = -1 := m1_ne (by omega)
    refine ⟨_, rfl, PnX.k (by decide) y2, ⟨c, cm, ?_, ⟨?_, (sI_o (by decide)).trans a2.cn, (sI_o (by decide)).trans a2.la, (sI_o (by decide)).trans a2.nc, fun i hi => ?_, fun j hj hjp => a2.cv j hj (by rw [sI_o (by decide)] at hjp; exact hjp), ?_, fun _ _ => ?_, fun i hi => ?_, a2.bd, a2.cj⟩, a3.mv (fun f i q => sI_o (by omega)) ?_, a4.mv (by omega) (fun f i q _ => sI_o (by omega)) (fun _ _ => rfl) (fun i => ?_) (fun i => ?_), a5.mv (fun _ => rfl) (fun i => ?_)⟩, fun f i q => sI_o q, rfl⟩
    · exact ⟨(sI_o (by decide)).trans (a1.wk.trans (by rw [uL_o (by decide), uL_o (by decide), uL_o (by decide)])), (sI_o (by decide)).trans (a1.aw.trans (by rw [uL_o (by decide), uL_o (by decide), uL_o (by decide)])), (sI_o (by decide)).trans (a1.sh.trans (by rw [uL_o (by decide), uL_o (by decide), uL_o (by decide)])), (sI_o (by decide)).trans (a1.us.trans (by rw [uL_o (by decide), uL_o (by decide), uL_o (by decide)])), (sI_o (by decide)).trans (a1.lf.trans (by rw [uL_o (by decide), uL_o (by decide), uL_o (by decide)])), (sI_o (by decide)).trans (a1.me.trans (by rw [uL_o (by decide), uL_o (by decide), uL_o (by decide)])), (sI_o (by decide)).trans (a1.re.trans (by rw [uL_o (by decide), uL_o (by decide), uL_o (by decide)]))⟩
    · rw [uL_o (by decide), uL_o (by decide), uL_o (by decide), a2.cc]
    · obtain ⟨w1, w2, w3, w4⟩ := a2.cl i hi
      refine ⟨w1, (sI_o (by decide)).trans w2, (sI_o (by decide)).trans w3, ?_⟩
      by_cases z : i = c - 1
      · subst z
        obtain ⟨z0, z1, z2, z3, z4, z5, z7, z8, z9, z10⟩ := w4
        have q : ∀ k, k ≠ 11 * (c - 1) + 8 → (uL (uL (uL s 85 0 0) 86 0 (nI d)) 79 (11 * (c - 1) + 8) 0) 79 k = s 79 k := fun k hk => by rw [uL_i hk, uL_o (by decide), uL_o (by decide)]
        refine ⟨by rw [sI_o (by decide), z0, q _ (by omega)], by rw [sI_o (by decide), z1, q _ (by omega)], by rw [sI_o (by decide), z2, q _ (by omega)], by rw [sI_o (by decide), z3, q _ (by omega)], by rw [sI_o (by decide), z4, q _ (by omega)], by rw [sI_o (by decide), z5, q _ (by omega)], by rw [sI_o (by decide), z7, q _ (by omega)], ?_, by rw [sI_o (by decide), z9, q _ (by omega)], by rw [sI_o (by decide), z10, q _ (by omega)]⟩
        rw [uL_s, sI_s, if_neg dm]
      · refine w4.mv (fun f q => ?_) (fun k hk => ?_)
        · rw [sI_1, if_neg]
          intro y
          exact z (a2.cj i (c - 1) hi (by omega) y.2.2.2)
        · rw [uL_i (by omega), uL_o (by decide), uL_o (by decide)]
    · rw [uL_o (by decide), uL_o (by decide), uL_s, if_neg c0, sI_s, if_neg dm]
    · rw [uL_o (by decide), uL_s, sI_s]
    · rw [sI_i (fun y => by have := a2.cj i (c - 1) (by omega) (by omega) y; omega)]
      exact a2.ol i hi
    · rw [uL_o (by decide), uL_o (by decide), uL_o (by decide)]
    · rw [uL_o (by decide), uL_o (by decide), uL_o (by decide)]
    · rw [uL_o (by decide), uL_o (by decide), uL_o (by decide)]
    · rw [uL_i (by omega), uL_o (by decide), uL_o (by decide)]
