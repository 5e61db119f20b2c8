/-! a clause as a whole -/
def TFM (t : Nat) (μ μ' : St) : Prop := (∀ f a b i, rdM f = false → ¬ (238 ≤ f ∧ f ≤ 245) → μ'.1 f a b i = μ.1 f a b i) ∧ (∀ i, i ≠ t → μ'.1 238 0 0 i = μ.1 238 0 0 i) ∧ (∀ f i, 239 ≤ f → f ≤ 244 → i < 24 * t → μ'.1 f 0 0 i = μ.1 f 0 0 i) ∧ (∀ j, j < 1000 * t → μ'.1 245 0 0 j = μ.1 245 0 0 j) ∧ μ'.2 = μ.2
theorem TFM.rf {t : Nat} {μ : St} : TFM t μ μ := ⟨fun _ _ _ _ _ _ => rfl, fun _ _ => rfl, fun _ _ _ _ _ => rfl, fun _ _ => rfl, rfl⟩
theorem TFM.tr {t : Nat} {μ μ' μ'' : St} (h : TFM t μ μ') (h2 : TFM t μ' μ'') : TFM t μ μ'' :=
  ⟨fun f a b i e e2 => (h2.1 f a b i e e2).trans (h.1 f a b i e e2), fun i e => (h2.2.1 i e).trans (h.2.1 i e), fun f i e e2 e3 => (h2.2.2.1 f i e e2 e3).trans (h.2.2.1 f i e e2 e3), fun j e => (h2.2.2.2.1 j e).trans (h.2.2.2.1 j e), h2.2.2.2.2.trans h.2.2.2.2⟩
theorem RM.tm {t k C : Nat} {μ μ' : St} (h : RM t k C μ μ') : TFM t μ μ' := ⟨h.1, fun i _ => h.2.1 i, fun f i a b c => h.2.2.1 f i a b (by omega), fun j hj => h.2.2.2.1 j (by omega), h.2.2.2.2⟩
theorem TFM.c {t : Nat} {μ : St} {x : Int32} : TFM t μ (sI μ 238 0 0 t x) :=
  ⟨fun f' a b i _ e2 => sI_o (fun q => e2 (by omega)), fun i e => sI_i e, fun f' i _ _ _ => sI_o (by omega), fun j _ => sI_o (by omega), rfl⟩
theorem Txt.c {t L C : Nat} {l : List Cl} {σ μ : St} {x : Int32} (h : Txt t l L C σ μ) : Txt t l L C σ (sI μ 238 0 0 t x) := by
  refine ⟨fun i c hc => ?_, h.2⟩
  obtain ⟨g1, g2, g3⟩ := h.1 i c hc
  exact ⟨g1, g2, g3⟩
theorem Txt.app {t L C L' C' : Nat} {l : List Cl} {c : Cl} {σ μ σ' μ' : St} (h : Txt t l L C σ μ) (hX : CK t L σ σ') (hM : RM t l.length C μ μ') (hL : L ≤ L') (hC : C ≤ C') (h1 : ClOk c) (h2 : ClX t L' c σ') (h3 : ClM t C' l.length c μ') (h4 : ActX t (l ++ [c]) σ') : Txt t (l ++ [c]) L' C' σ' μ' := by
  refine ⟨fun i d hd => ?_, h4⟩
  by_cases hi : i < l.length
  · rw [List.getElem?_append_left hi] at hd
    obtain ⟨g1, g2, g3⟩ := h.1 i d hd
    refine ⟨g1, fun q => ?_, ?_⟩
    · obtain ⟨a1, a2⟩ := g2 q
      exact ⟨At_eq _ _ (fun j b1 b2 => hX j (by omega)) a1, by omega⟩
    · obtain ⟨a1, a2, a3, a4, a5⟩ := g3
      have w : ∀ f, 239 ≤ f → f ≤ 244 → μ'.1 f 0 0 (24 * t + i) = μ.1 f 0 0 (24 * t + i) := fun f b1 b2 => hM.2.2.1 f _ b1 b2 (by omega)
      refine ⟨(w _ (by decide) (by decide)).trans a1, fun q => (w _ (by decide) (by decide)).trans (a2 q), fun q => ⟨(w _ (by decide) (by decide)).trans (a3 q).1, (w _ (by decide) (by decide)).trans (a3 q).2⟩, fun q => (w _ (by decide) (by decide)).trans (a4 q), fun q => ?_⟩
      obtain ⟨e1, e2, e3, e4, e5, e6⟩ := a5 q
      exact ⟨(w _ (by decide) (by decide)).trans e1, (w _ (by decide) (by decide)).trans e2, (w _ (by decide) (by decide)).trans e3, At_eq _ _ (fun j b1 b2 => hM.2.2.2.1 j (by omega)) e4, At_eq _ _ (fun j b1 b2 => hM.2.2.2.1 j (by omega)) e5, by omega⟩
  · have hi2 : i = l.length := by
      have : i < (l ++ [c]).length := by
        rcases Nat.lt_or_ge i (l ++ [c]).length with z | z
        · exact z
        · rw [List.getElem?_eq_none z] at hd
          exact absurd hd (by simp)
      rw [List.length_append, List.length_singleton] at this
      omega
    subst hi2
    rw [List.getElem?_append_right (Nat.le_refl _), Nat.sub_self] at hd
    cases hd
    exact ⟨h1, h2, h3⟩
theorem fil_no {p : Cl → Bool} {l : List Cl} {c : Cl} (h : p c = false) : (l ++ [c]).filter p = l.filter p := by
  rw [List.filter_append, List.filter_cons_of_neg (by rw [h]; decide), List.filter_nil, List.append_nil]
theorem fil_yes {p : Cl → Bool} {l : List Cl} {c : Cl} (h : p c = true) : (l ++ [c]).filter p = l.filter p ++ [c] := by
  rw [List.filter_append, List.filter_cons_of_pos h, List.filter_nil]
theorem lst_no {p : Cl → Bool} {l : List Cl} {c : Cl} (h : p c = false) : lst p (l ++ [c]) = lst p l := by
  rw [lst_app, if_neg (by rw [h]; decide)]
theorem lst_yes {p : Cl → Bool} {l : List Cl} {c : Cl} (h : p c = true) : lst p (l ++ [c]) = some c := by
  rw [lst_app, if_pos h]
theorem get_app {l : List Cl} {c d : Cl} {i : Nat} (h : (l ++ [c])[i]? = some d) : (i < l.length ∧ l[i]? = some d) ∨ (i = l.length ∧ c = d) := by
  by_cases hi : i < l.length
  · rw [List.getElem?_append_left hi] at h
    exact Or.inl ⟨hi, h⟩
  · have : i < (l ++ [c]).length := by
      rcases Nat.lt_or_ge i (l ++ [c]).length with z | z
      · exact z
      · rw [List.getElem?_eq_none z] at h
        exact absurd h (by simp)
    rw [List.length_append, List.length_singleton] at this
    have hi2 : i = l.length := by omega
    subst hi2
    rw [List.getElem?_append_right (Nat.le_refl _), Nat.sub_self] at h
    cases h
    exact Or.inr ⟨rfl, rfl⟩
theorem act0 {t : Nat} {l : List Cl} {c : Cl} {σ σ' : St} (h : ActX t l σ) (hw : c.wh = 0) (s : SameA t 4 σ σ') (e : σ'.1 4 t 0 0 = nI c.one) : ActX t (l ++ [c]) σ' := by
  obtain ⟨h1, h2, h3, h4, h5, h6, h7, h8, h9⟩ := h
  have n : ∀ w, w ≠ 0 → isW w c = false := fun w z => by simp [isW, hw]; exact fun q => z q.symm
  refine ⟨?_, fun k hk => ?_, ?_, ?_, ?_, ?_, ?_, ?_, ?_⟩
  · rw [lst_yes (by simp [isW, hw]), e]; rfl
  · rw [lst_no (by simp [isP, hw]), s _ _ (by decide) (by decide) (by decide), h2 k hk]
  · rw [lst_no (n _ (by decide)), s _ _ (by decide) (by decide) (by decide), h3]
  · rw [lst_no (n _ (by decide)), s _ _ (by decide) (by decide) (by decide), h4]
  · rw [lst_no (n _ (by decide)), s _ _ (by decide) (by decide) (by decide), h5]
  · rw [fil_no (n _ (by decide)), s _ _ (by decide) (by decide) (by decide), h6]
  · rw [fil_no (n _ (by decide))]
    intro i d hd
    rw [s _ _ (by decide) (by decide) (by decide), h7 i d hd]
  · rw [fil_no (n _ (by decide)), s _ _ (by decide) (by decide) (by decide), h8]
  · rw [fil_no (n _ (by decide))]
    intro i d hd
    rw [s _ _ (by decide) (by decide) (by decide), s _ _ (by decide) (by decide) (by decide)]
    exact h9 i d hd
theorem act1 {t : Nat} {l : List Cl} {c : Cl} {σ σ' : St} (h : ActX t l σ) (hw : c.wh = 1) (s : SameA t 3 σ σ') (e : σ'.1 3 t 0 c.one = nI c.two) (e2 : ∀ i, i ≠ c.one → σ'.1 3 t 0 i = σ.1 3 t 0 i) : ActX t (l ++ [c]) σ' := by
  obtain ⟨h1, h2, h3, h4, h5, h6, h7, h8, h9⟩ := h
  have n : ∀ w, w ≠ 1 → isW w c = false := fun w z => by simp [isW, hw]; exact fun q => z q.symm
  refine ⟨?_, fun k hk => ?_, ?_, ?_, ?_, ?_, ?_, ?_, ?_⟩
  · rw [lst_no (n _ (by decide)), s _ _ (by decide) (by decide) (by decide), h1]
  · by_cases z : c.one = k
    · subst z
      rw [lst_yes (by simp [isP, hw]), e]
      rfl
    · rw [lst_no (by simp [isP]; intro _; exact z), e2 k (fun q => z q.symm), h2 k hk]
  · rw [lst_no (n _ (by decide)), s _ _ (by decide) (by decide) (by decide), h3]
  · rw [lst_no (n _ (by decide)), s _ _ (by decide) (by decide) (by decide), h4]
  · rw [lst_no (n _ (by decide)), s _ _ (by decide) (by decide) (by decide), h5]
  · rw [fil_no (n _ (by decide)), s _ _ (by decide) (by decide) (by decide), h6]
  · rw [fil_no (n _ (by decide))]
    intro i d hd
    rw [s _ _ (by decide) (by decide) (by decide), h7 i d hd]
  · rw [fil_no (n _ (by decide)), s _ _ (by decide) (by decide) (by decide), h8]
  · rw [fil_no (n _ (by decide))]
    intro i d hd
    rw [s _ _ (by decide) (by decide) (by decide), s _ _ (by decide) (by decide) (by decide)]
    exact h9 i d hd
theorem act234 {t w f0 : Nat} {l : List Cl} {c : Cl} {σ σ' : St} (h : ActX t l σ) (hw : c.wh = w) (hw2 : (w = 2 ∧ f0 = 5) ∨ (w = 3 ∧ f0 = 6) ∨ (w = 4 ∧ f0 = 7)) (s : SameA t f0 σ σ') (e : σ'.1 f0 t 0 0 = nI c.pX) : ActX t (l ++ [c]) σ' := by
  obtain ⟨h1, h2, h3, h4, h5, h6, h7, h8, h9⟩ := h
  have n : ∀ v, v ≠ w → isW v c = false := fun v z => by simp [isW, hw]; exact fun q => z q.symm
  refine ⟨?_, fun k hk => ?_, ?_, ?_, ?_, ?_, ?_, ?_, ?_⟩
  · rw [lst_no (n _ (by omega)), s _ _ (by decide) (by decide) (by omega), h1]
  · rw [lst_no (by simp [isP, hw]; omega), s _ _ (by decide) (by decide) (by omega), h2 k hk]
  · by_cases z : w = 2
    · rw [lst_yes (by simp [isW, hw, z])]
      rw [show f0 = 5 by omega] at e
      exact e
    · rw [lst_no (n _ (by omega)), s _ _ (by decide) (by decide) (by omega), h3]
  · by_cases z : w = 3
    · rw [lst_yes (by simp [isW, hw, z])]
      rw [show f0 = 6 by omega] at e
      exact e
    · rw [lst_no (n _ (by omega)), s _ _ (by decide) (by decide) (by omega), h4]
  · by_cases z : w = 4
    · rw [lst_yes (by simp [isW, hw, z])]
      rw [show f0 = 7 by omega] at e
      exact e
    · rw [lst_no (n _ (by omega)), s _ _ (by decide) (by decide) (by omega), h5]
  · rw [fil_no (n _ (by omega)), s _ _ (by decide) (by decide) (by omega), h6]
  · rw [fil_no (n _ (by omega))]
    intro i d hd
    rw [s _ _ (by decide) (by decide) (by omega), h7 i d hd]
  · rw [fil_no (n _ (by omega)), s _ _ (by decide) (by decide) (by omega), h8]
  · rw [fil_no (n _ (by omega))]
    intro i d hd
    rw [s _ _ (by decide) (by decide) (by omega), s _ _ (by decide) (by decide) (by omega)]
    exact h9 i d hd
theorem act5 {t s : Nat} {l : List Cl} {c : Cl} {σ σ' : St} (h : ActX t l σ) (hw : c.wh = 5) (hs : (l.filter (isW 5)).length = s) (e : σ'.1 8 t 0 s = nI c.pX) (e2 : ∀ i, i ≠ s → σ'.1 8 t 0 i = σ.1 8 t 0 i) (e3 : σ'.1 9 t 0 0 = nI (s + 1)) (e4 : ∀ f i, 3 ≤ f → f ≤ 12 → f ≠ 8 → f ≠ 9 → σ'.1 f t 0 i = σ.1 f t 0 i) : ActX t (l ++ [c]) σ' := by
  obtain ⟨h1, h2, h3, h4, h5, h6, h7, h8, h9⟩ := h
  have n : ∀ w, w ≠ 5 → isW w c = false := fun w z => by simp [isW, hw]; exact fun q => z q.symm
  refine ⟨?_, fun k hk => ?_, ?_, ?_, ?_, ?_, ?_, ?_, ?_⟩
  · rw [lst_no (n _ (by decide)), e4 _ _ (by decide) (by decide) (by decide) (by decide), h1]
  · rw [lst_no (by simp [isP, hw]), e4 _ _ (by decide) (by decide) (by decide) (by decide), h2 k hk]
  · rw [lst_no (n _ (by decide)), e4 _ _ (by decide) (by decide) (by decide) (by decide), h3]
  · rw [lst_no (n _ (by decide)), e4 _ _ (by decide) (by decide) (by decide) (by decide), h4]
  · rw [lst_no (n _ (by decide)), e4 _ _ (by decide) (by decide) (by decide) (by decide), h5]
  · rw [fil_yes (by simp [isW, hw]), List.length_append, List.length_singleton, hs, e3]
  · rw [fil_yes (by simp [isW, hw])]
    intro i d hd
    rcases get_app hd with ⟨z1, z2⟩ | ⟨z1, z2⟩
    · rw [e2 i (by omega), h7 i d z2]
    · rw [z1, hs, e, z2]
  · rw [fil_no (n _ (by decide)), e4 _ _ (by decide) (by decide) (by decide) (by decide), h8]
  · rw [fil_no (n _ (by decide))]
    intro i d hd
    rw [e4 _ _ (by decide) (by decide) (by decide) (by decide), e4 _ _ (by decide) (by decide) (by decide) (by decide)]
    exact h9 i d hd
theorem act6 {t s : Nat} {l : List Cl} {c : Cl} {σ σ' : St} (h : ActX t l σ) (hw : c.wh = 6) (hs : (l.filter (isW 6)).length = s) (e : σ'.1 10 t 0 s = nI c.pX) (e1 : σ'.1 11 t 0 s = nI c.two) (e2 : ∀ i, i ≠ s → σ'.1 10 t 0 i = σ.1 10 t 0 i ∧ σ'.1 11 t 0 i = σ.1 11 t 0 i) (e3 : σ'.1 12 t 0 0 = nI (s + 1)) (e4 : ∀ f i, 3 ≤ f → f ≤ 9 → σ'.1 f t 0 i = σ.1 f t 0 i) : ActX t (l ++ [c]) σ' := by
  obtain ⟨h1, h2, h3, h4, h5, h6, h7, h8, h9⟩ := h
  have n : ∀ w, w ≠ 6 → isW w c = false := fun w z => by simp [isW, hw]; exact fun q => z q.symm
  refine ⟨?_, fun k hk => ?_, ?_, ?_, ?_, ?_, ?_, ?_, ?_⟩
  · rw [lst_no (n _ (by decide)), e4 _ _ (by decide) (by decide), h1]
  · rw [lst_no (by simp [isP, hw]), e4 _ _ (by decide) (by decide), h2 k hk]
  · rw [lst_no (n _ (by decide)), e4 _ _ (by decide) (by decide), h3]
  · rw [lst_no (n _ (by decide)), e4 _ _ (by decide) (by decide), h4]
  · rw [lst_no (n _ (by decide)), e4 _ _ (by decide) (by decide), h5]
  · rw [fil_no (n _ (by decide)), e4 _ _ (by decide) (by decide), h6]
  · rw [fil_no (n _ (by decide))]
    intro i d hd
    rw [e4 _ _ (by decide) (by decide), h7 i d hd]
  · rw [fil_yes (by simp [isW, hw]), List.length_append, List.length_singleton, hs, e3]
  · rw [fil_yes (by simp [isW, hw])]
    intro i d hd
    rcases get_app hd with ⟨z1, z2⟩ | ⟨z1, z2⟩
    · rw [(e2 i (by omega)).1, (e2 i (by omega)).2]
      exact h9 i d z2
    · rw [z1, hs, e, e1, z2]
      exact ⟨rfl, rfl⟩
/-- which clause begins here -/
theorem cn_no {N : Nat} {μ : St} (hN : 1 ≤ N) (h : μ.1 255 0 0 0 ≠ 0 ∨ μ.1 250 0 0 0 ≠ 1) : fM_clauseNow N μ = some (-1) := by
  unfold fM_clauseNow fM_clauseNow_57
  simp only [is0_e hN h, bn1_e, if_pos]
theorem cn_e {N n t : Nat} {tp : Nat → Nat} {σ μ : St} {w : List Nat} {b a L C : Nat} (hN : 200 ≤ N) (g : GS tp n t σ μ (.word w) b a L C) : (∃ k, k ≤ 6 ∧ fidx 0 KWL w = nI k ∧ fM_clauseNow N μ = some (nI k)) ∨ ((fidx 0 KWL w = -1 ∨ ¬ fidx 0 KWL w ≤ 6) ∧ fM_clauseNow N μ = some (-1)) := by
  have e : ∀ ks, ks < 34 → fM_is N ks μ = some (if sTab.getD ks [] = w then 1 else 0) := fun ks hk => gis_e hN g hk
  unfold fM_clauseNow fM_clauseNow_57
  rw [e 23 (by decide), bn1_e]
  by_cases c0 : sTab.getD 23 [] = w
  · refine Or.inl ⟨0, by decide, by rw [← c0]; decide +kernel, ?_⟩
    rw [if_pos c0, if_neg (by decide), if_neg (by decide)]
    rfl
  rw [if_neg c0, if_pos rfl, e 24 (by decide), bn1_e]
  by_cases c1 : sTab.getD 24 [] = w
  · refine Or.inl ⟨1, by decide, by rw [← c1]; decide +kernel, ?_⟩
    rw [if_pos c1, if_neg (by decide), if_neg (by decide)]
    rfl
  rw [if_neg c1, if_pos rfl, e 25 (by decide), bn1_e]
  by_cases c2 : sTab.getD 25 [] = w
  · refine Or.inl ⟨2, by decide, by rw [← c2]; decide +kernel, ?_⟩
    rw [if_pos c2, if_neg (by decide), if_neg (by decide)]
    rfl
  rw [if_neg c2, if_pos rfl, e 26 (by decide), bn1_e]
  by_cases c3 : sTab.getD 26 [] = w
  · refine Or.inl ⟨3, by decide, by rw [← c3]; decide +kernel, ?_⟩
    rw [if_pos c3, if_neg (by decide), if_neg (by decide)]
    rfl
  rw [if_neg c3, if_pos rfl, if_pos rfl, e 27 (by decide), bn1_e]
  by_cases c4 : sTab.getD 27 [] = w
  · refine Or.inl ⟨4, by decide, by rw [← c4]; decide +kernel, ?_⟩
    rw [if_pos c4, if_neg (by decide)]
    rfl
  rw [if_neg c4, if_pos rfl, e 28 (by decide), bn1_e]
  by_cases c5 : sTab.getD 28 [] = w
  · refine Or.inl ⟨5, by decide, by rw [← c5]; decide +kernel, ?_⟩
    rw [if_pos c5, if_neg (by decide)]
    rfl
  rw [if_neg c5, if_pos rfl, e 29 (by decide), bn1_e]
  by_cases c6 : sTab.getD 29 [] = w
  · refine Or.inl ⟨6, by decide, by rw [← c6]; decide +kernel, ?_⟩
    rw [if_pos c6, if_neg (by decide)]
    rfl
  rw [if_neg c6, if_pos rfl]
  refine Or.inr ⟨?_, rfl⟩
  by_cases hm : w ∈ KWL
  · obtain ⟨j, -, h2, h3, h4⟩ := fidx_ge KWL 0 (by decide +kernel) hm
    have hj : j < 11 := h2
    have h7 : 7 ≤ j := by
      apply Classical.byContradiction
      intro q
      have hj7 : ∀ j, j < 7 → KWL.getD j [] = sTab.getD (23 + j) [] := by decide +kernel
      rw [Nat.sub_zero, hj7 j (by omega)] at h4
      rcases (by omega : j = 0 ∨ j = 1 ∨ j = 2 ∨ j = 3 ∨ j = 4 ∨ j = 5 ∨ j = 6) with rfl | rfl | rfl | rfl | rfl | rfl | rfl
      · exact c0 h4
      · exact c1 h4
      · exact c2 h4
      · exact c3 h4
      · exact c4 h4
      · exact c5 h4
      · exact c6 h4
    refine Or.inr ?_
    rw [h3]
    exact nI_ge (a := 6) (b := j) (by omega) (by omega)
  · exact Or.inl ((fidx_no KWL 0 (by decide +kernel)).mpr hm)
