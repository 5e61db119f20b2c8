/-! the two views when what is told grows -/
theorem shOf_cg {TC : Nat → List Cl} {fr to fr' to' : Nat → Int32} {n d : Nat} (h : ∀ t, t < n → fr' t = fr t ∧ to' t = to t) : shOf TC fr' to' n d = shOf TC fr to n d := by
  unfold shOf
  rw [forR_congr n (fun t ht => ⟨(h t ht).1, by unfold isF; rw [(h t ht).1, (h t ht).2]⟩)]
theorem LvI.sm {v p n : Nat} {TC TC' : Nat → List Cl} {σ μ μ' : St} (h : LvI v p n TC σ μ) (ht : tdN μ ≤ tdN μ') (hE : ∀ u, u ≤ tdN μ → ENM μ' TC' p n (kOf v μ' u) = ENM μ TC p n (kOf v μ u) ∧ evM μ' p (kOf v μ' u) = evM μ p (kOf v μ u)) (he : ∀ e, e < cnM μ' → peM μ' e = p → e < cnM μ ∧ peM μ e = p ∧ dyM μ' e = dyM μ e) : LvI v p n TC' σ μ' := by
  obtain ⟨u, u1, u2, u3, ⟨s0, l1, l2, l3⟩, u5⟩ := h
  obtain ⟨e1, e2⟩ := hE u u2
  refine ⟨u, u1, Nat.le_trans u2 ht, u3, ⟨s0, by rw [e1, e2]; exact l1, fun e q1 q2 => ?_, fun w hw => by rw [e1]; exact l3 w hw⟩, fun hv e q1 q2 => ?_⟩
  · obtain ⟨z1, z2, -⟩ := he e q1 q2
    rw [e1, e2]
    exact l2 e z1 z2
  · obtain ⟨z1, z2, z3⟩ := he e q1 q2
    rw [z3]
    exact u5 hv e z1 z2
theorem VwI.sm {v : Nat} {TC TC' : Nat → List Cl} {σ μ μ' : St} (h : VwI v TC σ μ) (hn : nT μ ≤ nT μ') (hT : ∀ n, n ≤ nT μ → TCn TC' n = TCn TC n) (hf : ∀ t, t < nT μ → frM μ' t = frM μ t ∧ toM μ' t = toM μ t) (hL : ∀ n p, n ≤ nT μ → p < 20 → σ.1 82 v p 0 = σ.1 53 0 0 p → LvI v p n TC σ μ → LvI v p n TC' σ μ') : VwI v TC' σ μ' := by
  obtain ⟨h1, h2⟩ := h
  refine ⟨h1, h2.imp id ?_⟩
  rintro ⟨n, n1, r1, r2, r3⟩
  refine ⟨n, Nat.le_trans n1 hn, r1, fun d hd => ?_, fun p hp hs => hL n p n1 hp hs (r3 p hp hs)⟩
  obtain ⟨s, s1, s2, s3⟩ := r2 d hd
  refine ⟨s, s1, s2, ?_⟩
  rw [hT n n1, shOf_cg (fun t ht => hf t (Nat.lt_of_lt_of_le ht n1))]
  exact s3
theorem TCn_id {TC TC' : Nat → List Cl} {T n : Nat} (h : ∀ t, t < T → TC' t = TC t) (hn : n ≤ T) : TCn TC' n = TCn TC n := by
  funext t
  unfold TCn
  by_cases c : t < n
  · rw [if_pos c, if_pos c, h t (by omega)]
  · rw [if_neg c, if_neg c]
/-- one more change of a person's: the views' lives of others stay -/
theorem VwI.ch {v j : Nat} {TC : Nat → List Cl} {σ σ' μ : St} (h : VwI v TC σ μ) (h1 : ∀ f b i, (62 ≤ f ∧ f ≤ 94) ∨ f = 144 ∨ f = 142 → σ'.1 f v b i = σ.1 f v b i) (h2 : ∀ p, p < 20 → p ≠ j → σ'.1 53 0 0 p = σ.1 53 0 0 p) (h3 : σ'.1 53 0 0 j = σ.1 53 0 0 j + 1) (h4 : ∀ c : Nat, σ.1 53 0 0 j = nI c → c ≤ 10000 → c ≤ 9999) : VwI v TC σ' μ ∧ (j < 20 → σ'.1 82 v j 0 ≠ σ'.1 53 0 0 j) := by
  obtain ⟨⟨p1, p2, p3⟩, hV⟩ := h
  have sj : j < 20 → σ'.1 82 v j 0 ≠ σ'.1 53 0 0 j := fun hj => by
    obtain ⟨c, c1, c2, c3⟩ := p3 j hj
    rw [h1 _ _ _ (by decide), h3, c1, nI_1]
    rcases c3 with q | ⟨s, s1, s2⟩
    · rw [q]
      exact m1_ne' (by omega)
    · rw [s2]
      exact fun q => by have := (nI_eq (by omega) (by omega)).mp q; omega
  refine ⟨⟨⟨fun p hp => (h1 _ _ _ (by decide)).trans (p1 p hp), (h1 _ _ _ (by decide)).trans p2, fun p hp => ?_⟩, ?_⟩, sj⟩
  · obtain ⟨c, c1, c2, c3⟩ := p3 p hp
    by_cases z : p = j
    · rw [z] at c1 c3 ⊢
      have := h4 c c1 c2
      refine ⟨c + 1, by rw [h3, c1, nI_1], by omega, ?_⟩
      rw [h1 _ _ _ (by decide)]
      exact c3.imp id (fun ⟨s, s1, s2⟩ => ⟨s, by omega, s2⟩)
    · refine ⟨c, (h2 p hp z).trans c1, c2, ?_⟩
      rw [h1 _ _ _ (by decide)]
      exact c3
  · rcases hV with q | ⟨n, n1, r1, r2, r3⟩
    · exact Or.inl ((h1 _ _ _ (by decide)).trans q)
    · refine Or.inr ⟨n, n1, (h1 _ _ _ (by decide)).trans r1, fun d hd => ?_, fun p hp hs => ?_⟩
      · obtain ⟨s, s1, s2, s3⟩ := r2 d hd
        exact ⟨s, s1, (h1 _ _ _ (by decide)).trans s2, s3.mv (fun f b i q1 q2 => h1 f b i (by omega))⟩
      · by_cases z : p = j
        · rw [z] at hs hp
          exact absurd hs (sj hp)
        · rw [h1 _ _ _ (by decide), h2 p hp z] at hs
          exact (r3 p hp hs).mv (fun f i q => h1 f p i (by have := q.2; omega)) (fun e _ _ => h1 _ _ _ (by decide))
/-- the same in all that lives rest on -/
abbrev SmA (μ μ' : St) : Prop := (SmE μ μ') ∧ (∀ p k, p < 20 → evM μ' p k = evM μ p k) ∧ (∀ TC p n k, p < 20 → ENM μ' TC p n k = ENM μ TC p n k)
theorem SmA.e {μ μ' : St} (h : SmA μ μ') : SmE μ μ' := h.1
theorem SmA.v {μ μ' : St} (h : SmA μ μ') : ∀ p k, p < 20 → evM μ' p k = evM μ p k := h.2.1
theorem SmA.n {μ μ' : St} (h : SmA μ μ') : ∀ TC p n k, p < 20 → ENM μ' TC p n k = ENM μ TC p n k := h.2.2
theorem SmA.mk {μ μ' : St} (h : ∀ f a b i, (f ∈ LO ∨ f ∈ LB ∨ f ∈ LT ∨ f = 212 ∨ f = 214) → μ'.1 f a b i = μ.1 f a b i) : SmA μ μ' := by
  have w : ∀ S : List Nat, (∀ f ∈ S, f ∈ LO ∨ f ∈ LB ∨ f ∈ LT ∨ f = 212 ∨ f = 214) → ∀ f a b i, f ∈ S → μ'.1 f a b i = μ.1 f a b i := fun S hS f a b i q => h f a b i (hS f q)
  refine ⟨SmE.mk (w LE (by decide)), fun p k _ => evM_c (w LO (by decide)) p k, fun TC p n k _ => ENM_c ⟨?_, ?_⟩ (st_c (w LB (by decide)) p k) (h _ _ _ _ (by decide)) (h _ _ _ _ (by decide)) (h _ _ _ _ (by decide))⟩
  · rw [← cT_fr μ', cut_eq (w LT (by decide)), cT_fr]
  · rw [← cT_to μ', cut_eq (w LT (by decide)), cT_to]
theorem LvI.sa {v p n : Nat} {TC TC' : Nat → List Cl} {σ μ μ' : St} (h : LvI v p n TC σ μ) (hs : SmA μ μ') (hp : p < 20) (hT : TCn TC' n = TCn TC n) (ht : tdN μ' = tdN μ) : LvI v p n TC' σ μ' := by
  have ek : ∀ u, kOf v μ' u = kOf v μ u := fun u => by
    unfold kOf
    rw [show (μ'.1 205 0 0 0).toNatClampNeg = (μ.1 205 0 0 0).toNatClampNeg from ht]
  refine h.sm (by omega) (fun u hu => ⟨?_, ?_⟩) (fun e q1 q2 => ⟨by rw [← hs.e.cn]; exact q1, by rw [← hs.e.pe]; exact q2, by rw [hs.e.dy]⟩)
  · rw [ek, hs.n TC' p n _ hp]
    unfold ENM
    rw [hT]
  · rw [ek, hs.v p _ hp]
theorem VwI.sa {v : Nat} {TC TC' : Nat → List Cl} {σ μ μ' : St} (h : VwI v TC σ μ) (hs : SmA μ μ') (ht : tdN μ' = tdN μ) (hn : nT μ ≤ nT μ') (hT : ∀ n, n ≤ nT μ → TCn TC' n = TCn TC n) (hf : ∀ t, t < nT μ → frM μ' t = frM μ t ∧ toM μ' t = toM μ t) : VwI v TC' σ μ' :=
  h.sm hn hT hf (fun n p h1 h2 _ h4 => h4.sa hs h2 (hT n h1) ht)
theorem RnX.sa {μ μ' : St} (h : RnX μ μ') : SmA μ μ' := SmA.mk (fun f a b i q => h.1 f a b i (by
  have : ∀ S : List Nat, (S.all (fun f => decide (f < 260 ∨ 308 < f))) = true → f ∈ S → f < 260 ∨ 308 < f := fun S hS hf => of_decide_eq_true (List.all_eq_true.mp hS f hf)
  have : f < 260 ∨ 308 < f := by
    rcases q with q | q | q | q | q
    · exact this LO (by decide) q
    · exact this LB (by decide) q
    · exact this LT (by decide) q
    · omega
    · omega
  omega))
