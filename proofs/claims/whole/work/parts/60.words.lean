/-! which word it is -/
def Wrd (tp : Nat → Nat) (b a : Nat) : List Nat := (List.range' b (a - b)).map tp
theorem Wrd_len (tp : Nat → Nat) (b a : Nat) : (Wrd tp b a).length = a - b := by simp [Wrd]
theorem Wrd_drop {tp : Nat → Nat} {b a x : Nat} (h1 : b ≤ x) (h2 : x < a) : (Wrd tp b a).drop (x - b) = tp x :: (Wrd tp b a).drop (x + 1 - b) := by
  have hl : x - b < (Wrd tp b a).length := by rw [Wrd_len]; omega
  rw [List.drop_eq_getElem_cons hl, show x + 1 - b = x - b + 1 by omega]
  congr 1
  simp only [Wrd, List.getElem_map, List.getElem_range']
  congr 1
  omega
theorem Wrd_drop0 {tp : Nat → Nat} {b a x : Nat} (h2 : a ≤ x) : (Wrd tp b a).drop (x - b) = [] := List.drop_eq_nil_of_le (by rw [Wrd_len]; omega)
def pre : List Nat → List Nat → Bool
  | [], _ => true
  | _ :: _, [] => false
  | c :: u, d :: w => decide (c = d) && pre u w
theorem pre_eq : ∀ u w : List Nat, (pre u w = true ∧ u.length = w.length) ↔ u = w
  | [], [] => by simp [pre]
  | [], d :: w => by simp [pre]
  | c :: u, [] => by simp [pre]
  | c :: u, d :: w => by
    simp only [pre, Bool.and_eq_true, decide_eq_true_eq, List.length_cons, List.cons.injEq]
    constructor
    · rintro ⟨⟨h1, h2⟩, h3⟩
      exact ⟨h1, (pre_eq u w).mp ⟨h2, by omega⟩⟩
    · rintro ⟨h1, h2⟩
      have := (pre_eq u w).mpr h2
      exact ⟨⟨h1, this.1⟩, by omega⟩
def fidx : Nat → List (List Nat) → List Nat → Int32
  | _, [], _ => -1
  | n, u :: us, w => if u = w then nI n else fidx (n + 1) us w
theorem fidx_no {w : List Nat} : ∀ (L : List (List Nat)) (n : Nat), n + L.length < 2 ^ 31 → (fidx n L w = -1 ↔ ¬ w ∈ L)
  | [], n, _ => by simp [fidx]
  | u :: us, n, hl => by
    rw [List.length_cons] at hl
    show (if u = w then nI n else fidx (n + 1) us w) = -1 ↔ _
    by_cases e : u = w
    · rw [if_pos e]
      exact ⟨fun q => absurd q (m1_ne (by omega)), fun q => absurd (by rw [e]; exact List.mem_cons_self) q⟩
    · rw [if_neg e, fidx_no us (n + 1) (by omega), List.mem_cons]
      exact ⟨fun q p => p.elim (fun z => e z.symm) q, fun q p => q (Or.inr p)⟩
theorem fidx_ge {w : List Nat} : ∀ (L : List (List Nat)) (n : Nat), n + L.length < 2 ^ 31 → w ∈ L → ∃ j, n ≤ j ∧ j < n + L.length ∧ fidx n L w = nI j ∧ L.getD (j - n) [] = w
  | [], n, _, h => by simp at h
  | u :: us, n, hl, h => by
    rw [List.length_cons] at hl ⊢
    by_cases e : u = w
    · exact ⟨n, Nat.le_refl _, by omega, if_pos e, by rw [Nat.sub_self]; exact e⟩
    · obtain ⟨j, h1, h2, h3, h4⟩ := fidx_ge us (n + 1) (by omega) ((List.mem_cons.mp h).elim (fun z => absurd z.symm e) id)
      refine ⟨j, by omega, by omega, (if_neg e).trans h3, ?_⟩
      rw [show j - n = (j - (n + 1)) + 1 by omega]
      exact h4
theorem fidx_is {w : List Nat} {L : List (List Nat)} {k : Nat} (hL : L.length < 2 ^ 31) (hn : L.Nodup) (hk : k < L.length) : (fidx 0 L w = nI k) ↔ L.getD k [] = w := by
  constructor
  · intro e
    have hw : w ∈ L := by
      apply Classical.byContradiction
      intro q
      have := (fidx_no L 0 (by omega)).mpr q
      rw [e] at this
      exact m1_ne (by omega) this
    obtain ⟨j, -, h2, h3, h4⟩ := fidx_ge L 0 (by omega) hw
    rw [e] at h3
    have : k = j := (nI_eq (by omega) (by omega)).mp h3
    rw [this]
    exact h4
  · intro e
    have hw : w ∈ L := by
      rw [← e, List.getD_eq_getElem?_getD, List.getElem?_eq_getElem hk]
      exact List.getElem_mem _
    obtain ⟨j, -, h2, h3, h4⟩ := fidx_ge L 0 (by omega) hw
    rw [h3]
    congr 1
    rw [Nat.sub_zero, ← e, List.getD_eq_getElem?_getD, List.getD_eq_getElem?_getD, List.getElem?_eq_getElem hk, List.getElem?_eq_getElem (by omega)] at h4
    exact (List.getElem_inj hn).mp h4
theorem schr_d {ks i c : Nat} {S rest : List Nat} (hS : sTab.getD ks [] = S) (hd : S.drop i = c :: rest) : schr ks i = nI c ∧ i < S.length ∧ S.drop (i + 1) = rest := by
  have hi : i < S.length := by
    apply Classical.byContradiction
    intro q
    rw [List.drop_eq_nil_of_le (by omega)] at hd
    exact absurd hd.symm (List.cons_ne_nil _ _)
  rw [List.drop_eq_getElem_cons hi] at hd
  refine ⟨?_, hi, (List.cons.inj hd).2⟩
  unfold schr
  rw [hS, List.getD_eq_getElem?_getD, List.getElem?_eq_getElem hi]
  show nI S[i] = nI c
  rw [(List.cons.inj hd).1]
theorem place_w {N ks n : Nat} {S : List Nat} {tp : Nat → Nat} {σ μ : St} {b a : Nat} (x2 : Int32) (hS : sTab.getD ks [] = S) (hSl : S.length < 1000) (h : LX tp n σ μ a) (hlet : ∀ j, b ≤ j → j < a → lt? (tp j) = true) : ∀ (u rest : List Nat) (i nx m : Nat) (same : Bool), (∀ c ∈ u, c ≠ 32 ∧ c < 128) → S.drop i = u ++ rest → b ≤ nx → nx + u.length < 2000 →
    fReader_placeIn_13 N ks (u.length + m) x2 (nI nx) (if same = true then 1 else 0) (nI i) σ = fReader_placeIn_13 N ks m x2 (nI (nx + u.length)) (if (same && pre u ((Wrd tp b a).drop (nx - b))) = true then 1 else 0) (nI (i + u.length)) σ
  | [], rest, i, nx, m, same, hu, hd, hnx, hnl => by
    simp only [List.length_nil, Nat.zero_add, Nat.add_zero, pre, Bool.and_true]
  | c :: u, rest, i, nx, m, same, hu, hd, hnx, hnl => by
    have hn := h.hn
    have ha := h.ha
    rw [List.length_cons] at hnl
    obtain ⟨s1, s2, s3⟩ := schr_d hS hd
    obtain ⟨c1, c2⟩ := hu c List.mem_cons_self
    have ih := place_w (N := N) x2 hS hSl h hlet u rest (i + 1) (nx + 1) m
    have hc : ¬ nI c = 32 := fun q => c1 ((nI_eq (b := 32) (by omega) (by omega)).mp q)
    have go : ∀ s : Bool, fReader_placeIn_13 N ks (u.length + m) x2 (nI nx + 1) (if s = true then 1 else 0) (nI i + 1) σ = fReader_placeIn_13 N ks m x2 (nI (nx + (c :: u).length)) (if (s && pre u ((Wrd tp b a).drop (nx + 1 - b))) = true then 1 else 0) (nI (i + (c :: u).length)) σ := by
      intro s
      rw [nI_1, nI_1, ih s (fun x hx => hu x (List.mem_cons_of_mem _ hx)) s3 (by omega) (by omega), List.length_cons, show nx + 1 + u.length = nx + (u.length + 1) by omega, show i + 1 + u.length = i + (u.length + 1) by omega]
    have g0 := go false
    have g1 := go true
    rw [if_neg (by decide), Bool.false_and] at g0
    rw [if_pos rfl, Bool.true_and] at g1
    rw [show (c :: u).length + m = (u.length + m) + 1 by rw [List.length_cons]; omega]
    show (if slen ks ≤ nI i then _ else chk (inb (nI i) (slenN ks)) (if schr ks (nI i).toNatClampNeg = 32 then _ else if (if same = true then (1 : Int32) else 0) = 0 then fReader_placeIn_13 N ks (u.length + m) x2 (nI nx + 1) 0 (nI i + 1) σ else if σ.1 116 0 0 0 ≤ nI nx then fReader_placeIn_13 N ks (u.length + m) x2 (nI nx + 1) 0 (nI i + 1) σ else chk (inb (nI nx) 600) (if σ.1 110 0 0 (nI nx).toNatClampNeg = schr ks (nI i).toNatClampNeg then fReader_placeIn_13 N ks (u.length + m) x2 (nI nx + 1) 1 (nI i + 1) σ else fReader_placeIn_13 N ks (u.length + m) x2 (nI nx + 1) 0 (nI i + 1) σ))) = _
    have hsl : slenN ks = S.length := by unfold slenN; rw [hS]
    have hsl2 : slen ks = nI S.length := by unfold slen; rw [hsl]; rfl
    rw [hsl2, if_neg (nI_ge s2 (by omega)), hsl, chk_t (inb_n s2 (by omega)), nI_clamp (by omega), s1, if_neg hc]
    cases same with
    | false =>
      rw [if_pos (by decide), g0, Bool.false_and]
    | true =>
      rw [if_neg (by decide), h.aX, Bool.true_and]
      by_cases cx : a ≤ nx
      · rw [if_pos (nI_le cx (by omega)), g0, Wrd_drop0 cx]
        rfl
      · obtain ⟨t1, t2, t3⟩ := h.tape nx (by omega)
        rw [if_neg (nI_ge (by omega) (by omega)), chk_t (inb_n (by omega) (by decide)), nI_clamp (by omega), t2, Wrd_drop hnx (by omega)]
        by_cases ce : tp nx = c
        · rw [if_pos ((tb_n t1 c2).mpr ce), g1]
          show _ = fReader_placeIn_13 N ks m x2 _ (if (decide (c = tp nx) && _) = true then 1 else 0) _ σ
          rw [decide_eq_true ce.symm, Bool.true_and]
        · rw [if_neg (fun q => ce ((tb_n t1 c2).mp q)), g0]
          show _ = fReader_placeIn_13 N ks m x2 _ (if (decide (c = tp nx) && _) = true then 1 else 0) _ σ
          rw [decide_eq_false (fun q => ce q.symm), Bool.false_and]
theorem place_ws {N ks n : Nat} {S : List Nat} {tp : Nat → Nat} {σ μ : St} {b a : Nat} (hS : sTab.getD ks [] = S) (hSl : S.length < 1000) (h : LX tp n σ μ a) (hb : σ.1 115 0 0 0 = nI b) (hba : b ≤ a) (hlet : ∀ j, b ≤ j → j < a → lt? (tp j) = true) : ∀ (ws : List (List Nat)) (i k m : Nat), (∀ u ∈ ws, u.length < 100 ∧ ∀ c ∈ u, c ≠ 32 ∧ c < 128) → S.drop i = (ws.map (· ++ [32])).flatten → (ws.map (· ++ [32])).flatten.length < m → i ≤ S.length →
    fReader_placeIn_13 N ks m (nI k) (nI b) 1 (nI i) σ = some (fidx k ws (Wrd tp b a))
  | [], i, k, m, hu, hd, hm, hi => by
    have hsl : slen ks = nI S.length := by unfold slen slenN; rw [hS]; rfl
    have hi : S.length ≤ i := by
      have := congrArg List.length hd
      simp at this
      omega
    obtain ⟨m, rfl⟩ : ∃ q, m = q + 1 := ⟨m - 1, by omega⟩
    show (if slen ks ≤ nI i then _ else _) = _
    rw [hsl, if_pos (nI_le hi (by omega))]
    rfl
  | u :: ws, i, k, m, hu, hd, hm, hi => by
    have hn := h.hn
    have ha := h.ha
    rw [List.map_cons, List.flatten_cons, List.append_assoc] at hd
    rw [List.map_cons, List.flatten_cons, List.length_append, List.length_append] at hm
    have hl1 : [32].length = 1 := rfl
    obtain ⟨hu1, hu2⟩ := hu u List.mem_cons_self
    obtain ⟨m', rfl⟩ : ∃ q, m = u.length + (q + 1) := ⟨m - u.length - 1, by omega⟩
    have e1 := place_w (N := N) (nI k) hS hSl h hlet u ([32] ++ (ws.map (· ++ [32])).flatten) i b (m' + 1) true hu2 hd (Nat.le_refl _) (by omega)
    rw [if_pos rfl] at e1
    rw [e1, Bool.true_and, Nat.sub_self, List.drop_zero]
    have hd2 : S.drop (i + u.length) = 32 :: (ws.map (· ++ [32])).flatten := by
      rw [← List.drop_drop, hd, List.drop_left]
      rfl
    obtain ⟨s1, s2, s3⟩ := schr_d hS hd2
    have hsl : slenN ks = S.length := by unfold slenN; rw [hS]
    have hsl2 : slen ks = nI S.length := by unfold slen; rw [hsl]; rfl
    have ih := place_ws (N := N) hS hSl h hb hba hlet ws (i + u.length + 1) (k + 1) m' (fun v hv => hu v (List.mem_cons_of_mem _ hv)) s3 (by omega) (by omega)
    have e89 : fReader_placeIn_89 N ks (fReader_placeIn_13 N ks m') (nI k) (nI (i + u.length)) σ = some (fidx (k + 1) ws (Wrd tp b a)) := by
      unfold fReader_placeIn_89
      rw [nmx, hb, nI_1, nI_1, ih]
    show (if slen ks ≤ nI (i + u.length) then _ else chk (inb (nI (i + u.length)) (slenN ks)) (if schr ks (nI (i + u.length)).toNatClampNeg = 32 then (if (if pre u (Wrd tp b a) = true then (1 : Int32) else 0) = 0 then fReader_placeIn_89 N ks (fReader_placeIn_13 N ks m') (nI k) (nI (i + u.length)) σ else if nI (b + u.length) = σ.1 116 0 0 0 then some (nI k) else fReader_placeIn_89 N ks (fReader_placeIn_13 N ks m') (nI k) (nI (i + u.length)) σ) else _)) = some (if u = Wrd tp b a then nI k else fidx (k + 1) ws (Wrd tp b a))
    rw [hsl2, if_neg (nI_ge s2 (by omega)), hsl, chk_t (inb_n s2 (by omega)), nI_clamp (by omega), s1, if_pos (show nI 32 = 32 from rfl), e89, h.aX]
    have hp := pre_eq u (Wrd tp b a)
    rw [Wrd_len] at hp
    by_cases e : u = Wrd tp b a
    · have := hp.mpr e
      rw [if_pos this.1, if_neg (by decide), if_pos (by rw [this.2, show b + (a - b) = a by omega]), if_pos e]
    · rw [if_neg e]
      by_cases c : pre u (Wrd tp b a) = true
      · rw [if_pos c, if_neg (by decide), if_neg (fun q => e (hp.mp ⟨c, by
          have := (nI_eq (by omega) (by omega)).mp q
          omega⟩))]
      · rw [if_neg c, if_pos rfl]
def KWL : List (List Nat) := [23, 24, 25, 26, 27, 28, 29, 33, 32, 31, 30].map (fun k => sTab.getD k [])
def FACTL : List (List Nat) := [8, 9, 10, 11, 12, 13, 14, 15, 16, 17, 18, 19].map (fun k => sTab.getD k [])
def PARL : List (List Nat) := [0, 1, 2, 3, 4, 5, 6, 7].map (fun k => sTab.getD k [])
theorem s20 : sTab.getD 20 [] = (KWL.map (· ++ [32])).flatten := by decide +kernel
theorem s21 : sTab.getD 21 [] = (FACTL.map (· ++ [32])).flatten := by decide +kernel
theorem s22 : sTab.getD 22 [] = (PARL.map (· ++ [32])).flatten := by decide +kernel
def valI (w : List Nat) : Int32 := if fidx 0 FACTL w = -1 then fidx 0 PARL w else 8 + fidx 0 FACTL w
theorem placeIn_e {N ks n : Nat} {tp : Nat → Nat} {σ μ : St} {b a : Nat} {L : List (List Nat)} (hN : 200 ≤ N) (hS : sTab.getD ks [] = (L.map (· ++ [32])).flatten) (hL : (L.map (· ++ [32])).flatten.length < 150) (hu : ∀ u ∈ L, u.length < 100 ∧ ∀ c ∈ u, c ≠ 32 ∧ c < 128) (h : LX tp n σ μ a) (hb : σ.1 115 0 0 0 = nI b) (hba : b ≤ a) (hlet : ∀ j, b ≤ j → j < a → lt? (tp j) = true) :
    fReader_placeIn N ks σ = some (fidx 0 L (Wrd tp b a)) := by
  unfold fReader_placeIn
  rw [nmx, hb]
  exact place_ws hS (by omega) h hb hba hlet L 0 0 N hu rfl (by omega) (Nat.zero_le _)
/-- the reference's question whether the word is this one -/
theorem isW_loop {N ks n : Nat} {S : List Nat} {tp : Nat → Nat} {σ μ : St} {b a : Nat} (hS : sTab.getD ks [] = S) (hSl : S.length < 1000) (hSc : ∀ c ∈ S, c < 128) (h : LX tp n σ μ a) (hb : μ.1 253 0 0 0 = nI b) (hl : b + S.length = a) : ∀ (d i m : Nat), i + d = S.length → d < m → fM_is_39 N ks m 1 (nI i) μ = some (if S.drop i = (Wrd tp b a).drop i then 1 else 0) := by
  have hn := h.hn
  have ha := h.ha
  have hsl : slenN ks = S.length := by unfold slenN; rw [hS]
  have hsl2 : slen ks = nI S.length := by unfold slen; rw [hsl]; rfl
  intro d
  induction d with
  | zero =>
    intro i m hi hm
    obtain ⟨m, rfl⟩ : ∃ q, m = q + 1 := ⟨m - 1, by omega⟩
    show (if (1 : Int32) = 0 then _ else if slen ks ≤ nI i then _ else _) = _
    rw [if_neg (by decide), hsl2, if_pos (nI_le (by omega) (by omega)), List.drop_eq_nil_of_le (by omega), List.drop_eq_nil_of_le (by rw [Wrd_len]; omega), if_pos rfl]
    rfl
  | succ d ih =>
    intro i m hi hm
    obtain ⟨m, rfl⟩ : ∃ q, m = q + 1 := ⟨m - 1, by omega⟩
    have hd : S.drop i = S[i]'(by omega) :: S.drop (i + 1) := List.drop_eq_getElem_cons (by omega)
    have hd2 : (Wrd tp b a).drop i = tp (b + i) :: (Wrd tp b a).drop (i + 1) := by
      have := Wrd_drop (tp := tp) (b := b) (a := a) (x := b + i) (by omega) (by omega)
      rw [show b + i - b = i by omega, show b + i + 1 - b = i + 1 by omega] at this
      exact this
    obtain ⟨s1, s2, s3⟩ := schr_d hS hd
    obtain ⟨t1, t2, t3⟩ := h.tape (b + i) (by omega)
    have hc : S[i]'(by omega) < 128 := hSc _ (List.getElem_mem _)
    show (if (1 : Int32) = 0 then _ else if slen ks ≤ nI i then _ else chk (inb (nI i) (slenN ks)) (chk (inb (μ.1 253 0 0 0 + nI i) 600) (if schr ks (nI i).toNatClampNeg = μ.1 246 0 0 (μ.1 253 0 0 0 + nI i).toNatClampNeg then fM_is_39 N ks m 1 (nI i + 1) μ else fM_is_39 N ks m 0 (nI i + 1) μ))) = _
    rw [if_neg (by decide), hsl2, if_neg (nI_ge s2 (by omega)), hsl, chk_t (inb_n s2 (by omega)), hb, nI_add, chk_t (inb_n (by omega) (by decide)), nI_clamp (by omega), nI_clamp (by omega), s1, t3, nI_1, hd, hd2]
    by_cases c : S[i]'(by omega) = tp (b + i)
    · rw [if_pos (by rw [c]), ih (i + 1) m (by omega) (by omega)]
      congr 1
      by_cases e : S.drop (i + 1) = (Wrd tp b a).drop (i + 1)
      · rw [if_pos e, if_pos (by rw [c, e])]
      · rw [if_neg e, if_neg (fun q => e (List.cons.inj q).2)]
    · rw [if_neg (fun q => c ((nI_eq (by omega) (by omega)).mp q)), if_neg (fun q => c (List.cons.inj q).1)]
      obtain ⟨m, rfl⟩ : ∃ q, m = q + 1 := ⟨m - 1, by omega⟩
      rfl
theorem is0_e {N ks : Nat} {μ : St} (hN : 1 ≤ N) (h : μ.1 255 0 0 0 ≠ 0 ∨ μ.1 250 0 0 0 ≠ 1) : fM_is N ks μ = some 0 := by
  have e35 : fM_is_35 N ks μ = some 0 := by
    obtain ⟨N', rfl⟩ : ∃ q, N = q + 1 := ⟨N - 1, by omega⟩
    rfl
  unfold fM_is
  rw [e35]
  rcases h with h | h
  · rw [if_neg h]
  · by_cases c : μ.1 255 0 0 0 = 0
    · rw [if_pos c, if_neg h]
    · rw [if_neg c]
theorem isW_e {N ks n : Nat} {S : List Nat} {tp : Nat → Nat} {σ μ : St} {b a : Nat} (hN : 200 ≤ N) (hS : sTab.getD ks [] = S) (hSl : S.length < 150) (hSc : ∀ c ∈ S, c < 128) (h : LX tp n σ μ a) (hb : μ.1 253 0 0 0 = nI b) (he : μ.1 254 0 0 0 = nI a) (hba : b ≤ a) (h0 : μ.1 255 0 0 0 = 0) (h1 : μ.1 250 0 0 0 = 1) : fM_is N ks μ = some (if S = Wrd tp b a then 1 else 0) := by
  have hn := h.hn
  have ha := h.ha
  have hsl2 : slen ks = nI S.length := by unfold slen slenN; rw [hS]; rfl
  have e35 : fM_is_35 N ks μ = some 0 := by
    obtain ⟨N', rfl⟩ : ∃ q, N = q + 1 := ⟨N - 1, by omega⟩
    rfl
  unfold fM_is
  rw [if_pos h0, if_pos h1, he, hb, hsl2, show nI a - nI b = nI (a - b) by rw [show a = b + (a - b) by omega, nI_subl, show b + (a - b) - b = a - b by omega], e35]
  by_cases c : S.length = a - b
  · rw [if_pos (by rw [c])]
    unfold fM_is_36
    have := isW_loop (N := N) hS (by omega) hSc h hb (by omega) S.length 0 N (by omega) (by omega)
    exact this
  · rw [if_neg (fun q => c ((nI_eq (by omega) (by omega)).mp q)), if_neg (fun q => c (by rw [q, Wrd_len]))]
theorem tabs : ∀ ks, ks < 34 → (sTab.getD ks []).length < 150 ∧ ∀ c ∈ sTab.getD ks [], c < 128 := by decide +kernel
theorem kwl_ok : ∀ u ∈ KWL, u.length < 100 ∧ ∀ c ∈ u, c ≠ 32 ∧ c < 128 := by decide +kernel
theorem factl_ok : ∀ u ∈ FACTL, u.length < 100 ∧ ∀ c ∈ u, c ≠ 32 ∧ c < 128 := by decide +kernel
theorem parl_ok : ∀ u ∈ PARL, u.length < 100 ∧ ∀ c ∈ u, c ≠ 32 ∧ c < 128 := by decide +kernel
