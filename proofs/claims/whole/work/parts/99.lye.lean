/-! days of a bar in the reference -/
def bar64 (E : Env) (d : Nat) (vs : Nat → Int64) : Int64 := match likeL vs (likes E d) with
  | some n => (nI n).toInt64
  | none => match (E.sh d).last 4 with
    | none => 0
    | some x => cv vs x.2
theorem barD_64 (E : Env) (d : Nat) (vs : Nat → Int64) : barD E d vs = lim (bar64 E d vs) := by
  unfold barD bar64
  cases likeL vs (likes E d) with
  | some n => rfl
  | none =>
    dsimp only
    cases (E.sh d).last 4 with
    | none =>
      have : (0 : Int32) = lim 0 := by decide +kernel
      exact this
    | some x => rfl
theorem VM.sk {N : Nat} {μ μ1 : St} {vs : Nat → Int64} (h : VM N μ vs) (hs : Sk 267 μ μ1) : VM N μ1 vs := fun k hk μ2 h2 => h k hk μ2 (h2.trans hs.1)
theorem ClM.sk {t C i : Nat} {c : Cl} {μ μ1 : St} (h : ClM t C i c μ) (hs : Sk 267 μ μ1) : ClM t C i c μ1 := by
  unfold ClM
  rw [hs.1]
  exact h
theorem Rep_at {g : Nat → Int32} : ∀ (l : List Nat), Rep g l → ∀ j e, l.reverse[j]? = some e → g j = nI e := Rep_get
theorem likeM_in {N n t j : Nat} {TC : Nat → List Cl} {vs : Nat → Int64} {μ : St} {go : Int32 → St → Option (Int64 × St)} (hN : 1000 ≤ N) (hT : TxM TC n μ) (ht : t < n) (hn : n ≤ 17) (hf : μ.1 262 0 0 j = nI t) (hj : j < 17) (hv : VM N μ vs) : ∀ (e i m : Nat) (μ1 : St), i + e = (TC t).length → e < m → Sk 267 μ μ1 → ∃ μ', Sk 267 μ μ' ∧ fM_barDays_12 N go m (nI j) (nI i) μ1 = (match likeL vs (((TC t).drop i).filter (isW 6)) with | some q => some ((nI q).toInt64, μ') | none => go (nI (j + 1)) μ') := by
  obtain ⟨h1, h2, h3⟩ := hT t ht
  intro e
  induction e with
  | zero =>
    intro i m μ1 a b hs
    obtain ⟨m, rfl⟩ : ∃ q, m = q + 1 := ⟨m - 1, by omega⟩
    refine ⟨μ1, hs, ?_⟩
    rw [List.drop_eq_nil_of_le (by omega)]
    show chk (inb (nI j) 17) (chk (inb (μ1.1 262 0 0 (nI j).toNatClampNeg) 17) (if μ1.1 238 0 0 (μ1.1 262 0 0 (nI j).toNatClampNeg).toNatClampNeg ≤ nI i then go (nI j + 1) μ1 else _)) = go (nI (j + 1)) μ1
    rw [chk_t (inb_n hj (by decide)), nI_clamp (by omega), hs.1, hf, chk_t (inb_n (by omega) (by decide)), nI_clamp (by omega), h1, if_pos (nI_le (by omega) (by omega)), nI_1]
  | succ e ih =>
    intro i m μ1 a b hs
    obtain ⟨m, rfl⟩ : ∃ q, m = q + 1 := ⟨m - 1, by omega⟩
    obtain ⟨c, hc⟩ : ∃ c, (TC t)[i]? = some c := ⟨(TC t)[i], List.getElem?_eq_getElem (by omega)⟩
    obtain ⟨k1, k2⟩ := h3 i c hc
    have ed : (TC t).drop i = c :: (TC t).drop (i + 1) := by
      rw [List.drop_eq_getElem_cons (by omega)]
      congr 1
      have := List.getElem?_eq_getElem (l := TC t) (i := i) (by omega)
      rw [this] at hc
      exact Option.some.inj hc
    have e1 : (24 : Int32) * nI t + nI i = nI (24 * t + i) := by rw [show (24 : Int32) * nI t = nI (24 * t) from (Int32.ofNat_mul 24 t).symm, nI_add]
    have e0 : fM_barDays_12 N go (m + 1) (nI j) (nI i) μ1 = if nI c.wh = 6 then bnd (fM_told0 N (nI (24 * t + i)) μ1) fun r2 σ3 => if lg_cmp r2 0 = 0 then fM_barDays_12 N go m (nI j) (nI (i + 1)) σ3 else some ((σ3.1 241 0 0 (24 * t + i)).toInt64, σ3) else fM_barDays_12 N go m (nI j) (nI (i + 1)) μ1 := by
      show chk (inb (nI j) 17) (chk (inb (μ1.1 262 0 0 (nI j).toNatClampNeg) 17) (if μ1.1 238 0 0 (μ1.1 262 0 0 (nI j).toNatClampNeg).toNatClampNeg ≤ nI i then go (nI j + 1) μ1 else nm ((24 : Int32) * μ1.1 262 0 0 (nI j).toNatClampNeg + nI i) fun (y1 : Int32) => chk (inb y1 408) (if μ1.1 239 0 0 y1.toNatClampNeg = 6 then bnd (fM_told0 N y1 μ1) fun r2 σ3 => if lg_cmp r2 0 = 0 then fM_barDays_12 N go m (nI j) (nI i + 1) σ3 else some ((σ3.1 241 0 0 y1.toNatClampNeg).toInt64, σ3) else fM_barDays_12 N go m (nI j) (nI i + 1) μ1))) = _
      rw [chk_t (inb_n hj (by decide)), nI_clamp (by omega), hs.1, hf, chk_t (inb_n (by omega) (by decide)), nI_clamp (by omega), h1, if_neg (nI_ge (by omega) (by omega)), nmx, e1, chk_t (inb_n (by omega) (by decide)), nI_clamp (by omega), nI_1, k2.1]
    rw [e0, ed]
    by_cases c6 : c.wh = 6
    · rw [if_pos (show nI c.wh = 6 by rw [c6]; rfl), List.filter_cons_of_pos (show isW 6 c = true from decide_eq_true c6)]
      obtain ⟨μ2, t1, t2⟩ := told0_e (N := N) (t := t) (i := i) (vs := vs) (c := c) (μ := μ1) hN (by omega) (by omega) k1 (k2.sk hs) (by omega) (hv.sk hs)
      rw [t1, bnd_e]
      show ∃ μ', _ ∧ _ = (match (if cv vs c = 0 then likeL vs (((TC t).drop (i + 1)).filter (isW 6)) else some c.two) with | some q => some ((nI q).toInt64, μ') | none => go (nI (j + 1)) μ')
      by_cases z : cv vs c = 0
      · rw [if_pos (czp z), if_pos z]
        exact ih (i + 1) m μ2 (by omega) (by omega) (hs.tr t2)
      · rw [if_neg (czn z), if_neg z]
        refine ⟨μ2, hs.tr t2, ?_⟩
        rw [t2.1, hs.1, k2.2.2.2.1 c6]
    · rw [if_neg (show ¬ nI c.wh = 6 from fun q => c6 ((nI_eq (b := 6) (by have := k1.1; omega) (by decide)).mp q)), List.filter_cons_of_neg (show ¬ isW 6 c = true from fun q => c6 (of_decide_eq_true q))]
      exact ih (i + 1) m μ1 (by omega) (by omega) hs
theorem likeM_out {N n : Nat} {TC : Nat → List Cl} {vs : Nat → Int64} {μ : St} {R : List Nat} (hN : 1000 ≤ N) (hT : TxM TC n μ) (hn : n ≤ 17) (hR : Rep (fun i => μ.1 262 0 0 i) R) (hl : μ.1 263 0 0 0 = nI R.length) (hl2 : R.length ≤ 17) (ht : ∀ t ∈ R, t < n) (hv : VM N μ vs) : ∀ (e j m : Nat) (μ1 : St), j + e = R.length → e < m → Sk 267 μ μ1 → ∃ μ', Sk 267 μ μ' ∧ fM_barDays_2 N m (nI j) μ1 = (match likeL vs ((R.reverse.drop j).flatMap fun t => (TC t).filter (isW 6)) with | some q => some ((nI q).toInt64, μ') | none => if μ.1 264 0 0 4 = -1 then some (0, μ') else bnd (fM_told0 N (μ.1 264 0 0 4) μ') fun r2 σ3 => some (r2, σ3)) := by
  intro e
  induction e with
  | zero =>
    intro j m μ1 a b hs
    obtain ⟨m, rfl⟩ : ∃ q, m = q + 1 := ⟨m - 1, by omega⟩
    refine ⟨μ1, hs, ?_⟩
    rw [List.drop_eq_nil_of_le (by rw [List.length_reverse]; omega)]
    show (if μ1.1 263 0 0 0 ≤ nI j then nm (μ1.1 264 0 0 4) fun (y1 : Int32) => if y1 = -1 then some (0, μ1) else bnd (fM_told0 N y1 μ1) fun r2 σ3 => some (r2, σ3) else _) = (if μ.1 264 0 0 4 = -1 then some (0, μ1) else bnd (fM_told0 N (μ.1 264 0 0 4) μ1) fun r2 σ3 => some (r2, σ3))
    rw [hs.1, hl, if_pos (nI_le (by omega) (by omega)), nmx]
  | succ e ih =>
    intro j m μ1 a b hs
    obtain ⟨m, rfl⟩ : ∃ q, m = q + 1 := ⟨m - 1, by omega⟩
    have hlr : R.reverse.length = R.length := List.length_reverse
    obtain ⟨t, h1⟩ : ∃ t, R.reverse[j]? = some t := ⟨R.reverse[j]'(by omega), List.getElem?_eq_getElem (by omega)⟩
    have hf := Rep_get R hR j t h1
    have htn : t < n := ht t (List.mem_reverse.mp (List.mem_of_getElem? h1))
    have ed : R.reverse.drop j = t :: R.reverse.drop (j + 1) := by
      rw [List.drop_eq_getElem_cons (by omega)]
      congr 1
      have := List.getElem?_eq_getElem (l := R.reverse) (i := j) (by omega)
      rw [this] at h1
      exact Option.some.inj h1
    obtain ⟨h0, h2, -⟩ := hT t htn
    obtain ⟨μ2, i1, i2⟩ := likeM_in (N := N) (j := j) (go := fM_barDays_2 N m) hN hT htn hn hf (by omega) hv (TC t).length 0 N μ1 (by omega) (by omega) hs
    have e0 : fM_barDays_2 N (m + 1) (nI j) μ1 = fM_barDays_12 N (fM_barDays_2 N m) N (nI j) 0 μ1 := by
      show (if μ1.1 263 0 0 0 ≤ nI j then _ else fM_barDays_12 N (fM_barDays_2 N m) N (nI j) 0 μ1) = _
      rw [hs.1, hl, if_neg (nI_ge (by omega) (by omega))]
    rw [e0, show fM_barDays_12 N (fM_barDays_2 N m) N (nI j) 0 μ1 = _ from i2, List.drop_zero, ed, List.flatMap_cons, likeL_app]
    cases likeL vs ((TC t).filter (isW 6)) with
    | some q => exact ⟨μ2, i1, rfl⟩
    | none => exact ih (j + 1) m μ2 (by omega) (by omega) i1
/-- the sheet of a day, in the reference: which clause is the last of its word -/
theorem lawC_e {n d w : Nat} {TC : Nat → List Cl} {fr to : Nat → Int32} {sh : Sheet} {μ : St} (hsh : sh = shOf TC fr to n d) (hS : ShM TC sh μ) (hw : w < 7) : (sh.last w = none ∧ μ.1 264 0 0 w = -1) ∨ ∃ t c i, sh.last w = some (t, c) ∧ t < n ∧ t < 17 ∧ i < 24 ∧ (TC t)[i]? = some c ∧ μ.1 264 0 0 w = nI (24 * t + i) ∧ c.wh = w := by
  rcases hS.2.2.1 w hw with ⟨a, b⟩ | ⟨t, c, i, a, b1, b2, b3, b4⟩
  · exact Or.inl ⟨a, b⟩
  · rw [hsh] at a
    obtain ⟨c1, -, -, c3⟩ := last_in a
    exact Or.inr ⟨t, c, i, by rw [hsh]; exact a, c1, b1, b2, b3, b4, c3⟩
theorem barDays_M {N n d : Nat} {E : Env} {fr to : Nat → Int32} {vs : Nat → Int64} {μ : St} (hN : 1000 ≤ N) (hT : TxM E.TC n μ) (hn : n ≤ 17) (hsh : E.sh d = shOf E.TC fr to n d) (hS : ShM E.TC (E.sh d) μ) (hv : VM N μ vs) : ∃ μ', fM_barDays N μ = some (bar64 E d vs, μ') ∧ Sk 267 μ μ' := by
  have hS' := hS
  obtain ⟨s1, s2, s3, -⟩ := hS'
  have ht : ∀ t ∈ (E.sh d).R, t < n := by rw [hsh]; exact forR_lt fr to (nI d) n
  have hlen : (E.sh d).R.length ≤ 17 := by rw [hsh]; exact Nat.le_trans (forR_len fr to (nI d) n) hn
  obtain ⟨μ1, i1, i2⟩ := likeM_out (N := N) (vs := vs) hN hT hn s1 s2 hlen ht hv (E.sh d).R.length 0 N μ (by omega) (by omega) Sk.rfl'
  unfold fM_barDays
  rw [show fM_barDays_2 N N 0 μ = _ from i2, List.drop_zero]
  unfold bar64 likes
  cases likeL vs ((E.sh d).R.reverse.flatMap fun t => (E.TC t).filter (isW 6)) with
  | some q => exact ⟨μ1, rfl, i1⟩
  | none =>
    dsimp only
    rcases lawC_e hsh hS (show 4 < 7 by decide) with ⟨a, b⟩ | ⟨t, c, i, a, b0, b1, b2, b3, b4, b5⟩
    · rw [a, b, if_pos rfl]
      exact ⟨μ1, rfl, i1⟩
    · obtain ⟨k1, k2⟩ := (hT t b0).2.2 i c b3
      obtain ⟨μ2, j1, j2⟩ := told0_e (N := N) (t := t) (i := i) (vs := vs) (c := c) (μ := μ1) hN b1 b2 k1 (k2.sk i1) (by omega) (hv.sk i1)
      rw [a, b4, if_neg (m1_ne (by omega)), j1, bnd_e]
      exact ⟨μ2, rfl, i1.tr j2⟩
