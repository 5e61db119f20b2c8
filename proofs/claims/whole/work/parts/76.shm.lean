/-! the reference tells the law of a day -/
theorem ovl_in {N f j : Nat} {TC : Nat → List Cl} {go : Int32 → St → Option St} (hf : f < 17) (hj : j < 17) {xs : Nat → Option (Nat × Cl)} {ps : Nat → Int32} : ∀ (d i m : Nat) (μ : St), i + d = (TC f).length → d < m → (TC f).length ≤ 24 → μ.1 262 0 0 j = nI f → μ.1 238 0 0 f = nI (TC f).length → (∀ i c, (TC f)[i]? = some c → ClOk c ∧ ClM f 900 i c μ) →
    (∀ w, w < 7 → LCr TC (match lst (isW w) ((TC f).take i) with | some c => some (f, c) | none => xs w) (μ.1 264 0 0 w)) → (∀ k, k < 8 → μ.1 265 0 0 k = match lst (isP k) ((TC f).take i) with | some c => nI c.two | none => ps k) →
    ∃ μ', fM_tellLaw_226 N go m (nI j) (nI i) μ = go (nI j + (-1)) μ' ∧ Fx (fun f => decide (f = 264) || decide (f = 265)) μ μ' ∧ (∀ w, w < 7 → LCr TC (lT TC w (xs w) f) (μ'.1 264 0 0 w)) ∧ (∀ k, k < 8 → μ'.1 265 0 0 k = pT TC k (ps k) f) := by
  intro d
  induction d with
  | zero =>
    intro i m μ h1 h2 h3 h4 h5 h6 h7 h8
    obtain ⟨m, rfl⟩ : ∃ q, m = q + 1 := ⟨m - 1, by omega⟩
    refine ⟨μ, ?_, Fx.rf, fun w hw => ?_, fun k hk => ?_⟩
    · show (chk (inb (nI j) 17) (chk (inb (μ.1 262 0 0 (nI j).toNatClampNeg) 17) (if μ.1 238 0 0 (μ.1 262 0 0 (nI j).toNatClampNeg).toNatClampNeg ≤ nI i then go (nI j + (-1)) μ else _))) = _
      rw [chk_t (inb_n hj (by decide)), nI_clamp (by omega), h4, chk_t (inb_n hf (by decide)), nI_clamp (by omega), h5, if_pos (nI_le (by omega) (by omega))]
    · have := h7 w hw
      rw [List.take_of_length_le (by omega)] at this
      exact this
    · have := h8 k hk
      rw [List.take_of_length_le (by omega)] at this
      exact this
  | succ d ih =>
    intro i m μ h1 h2 h3 h4 h5 h6 h7 h8
    obtain ⟨m, rfl⟩ : ∃ q, m = q + 1 := ⟨m - 1, by omega⟩
    obtain ⟨c, hc⟩ : ∃ c, (TC f)[i]? = some c := ⟨(TC f)[i]'(by omega), List.getElem?_eq_getElem (by omega)⟩
    obtain ⟨g1, g2⟩ := h6 i c hc
    have hw6 : c.wh ≤ 6 := g1.1
    have htk : (TC f).take (i + 1) = (TC f).take i ++ [c] := by
      rw [List.take_add_one, hc]
      rfl
    have lc : ∀ (μ1 : St), (∀ w, μ1.1 264 0 0 w = if w = c.wh then nI (24 * f + i) else μ.1 264 0 0 w) → ∀ w, w < 7 → LCr TC (match lst (isW w) ((TC f).take (i + 1)) with | some c => some (f, c) | none => xs w) (μ1.1 264 0 0 w) := by
      intro μ1 e w hw
      rw [htk, lst_app, e w]
      by_cases z : w = c.wh
      · rw [if_pos z, if_pos (show isW w c = true by simp [isW, z])]
        exact Or.inr ⟨f, c, i, rfl, hf, by omega, hc, rfl⟩
      · rw [if_neg z, if_neg (show ¬ isW w c = true by simp [isW]; exact fun q => z q.symm)]
        exact h7 w hw
    have e1 : fM_tellLaw_226 N go (m + 1) (nI j) (nI i) μ = (fun σ2 : St => if σ2.1 239 0 0 (24 * f + i) = 1 then chk (inb (σ2.1 240 0 0 (24 * f + i)) 8) (nm (sI σ2 265 0 0 (σ2.1 240 0 0 (24 * f + i)).toNatClampNeg (σ2.1 241 0 0 (24 * f + i))) fun (σ3 : St) => fM_tellLaw_226 N go m (nI j) (nI (i + 1)) σ3) else fM_tellLaw_226 N go m (nI j) (nI (i + 1)) σ2) (sI μ 264 0 0 c.wh (nI (24 * f + i))) := by
      show (chk (inb (nI j) 17) (chk (inb (μ.1 262 0 0 (nI j).toNatClampNeg) 17) (if μ.1 238 0 0 (μ.1 262 0 0 (nI j).toNatClampNeg).toNatClampNeg ≤ nI i then go (nI j + (-1)) μ else nm (24 * μ.1 262 0 0 (nI j).toNatClampNeg + nI i) fun y1 => chk (inb y1 408) (chk (inb (μ.1 239 0 0 y1.toNatClampNeg) 7) (nm (sI μ 264 0 0 (μ.1 239 0 0 y1.toNatClampNeg).toNatClampNeg y1) fun (σ2 : St) => if σ2.1 239 0 0 y1.toNatClampNeg = 1 then chk (inb (σ2.1 240 0 0 y1.toNatClampNeg) 8) (nm (sI σ2 265 0 0 (σ2.1 240 0 0 y1.toNatClampNeg).toNatClampNeg (σ2.1 241 0 0 y1.toNatClampNeg)) fun (σ3 : St) => fM_tellLaw_226 N go m (nI j) (nI i + 1) σ3) else fM_tellLaw_226 N go m (nI j) (nI i + 1) σ2))))) = _
      rw [chk_t (inb_n hj (by decide)), nI_clamp (by omega), h4, chk_t (inb_n hf (by decide)), nI_clamp (by omega), h5, if_neg (nI_ge (by omega) (by omega)), nmx, m24, chk_t (inb_n (by omega) (by decide)), nI_clamp (by omega), g2.1, chk_t (inb_n (by omega) (by decide)), nmx, nI_clamp (by omega), nI_1]
    have is2 : (sI μ 264 0 0 c.wh (nI (24 * f + i))).1 239 0 0 (24 * f + i) = nI c.wh := (sI_o (by decide)).trans g2.1
    have l1 : ∀ w, (sI μ 264 0 0 c.wh (nI (24 * f + i))).1 264 0 0 w = if w = c.wh then nI (24 * f + i) else μ.1 264 0 0 w := by
      intro w
      by_cases z : w = c.wh
      · rw [if_pos z, z, sI_s]
      · rw [if_neg z, sI_i z]
    rw [e1]
    dsimp only
    rw [is2]
    by_cases c1 : c.wh = 1
    · obtain ⟨o1, o2⟩ := g1.2.2.1 c1
      obtain ⟨p1, p2⟩ := g2.2.2.1 c1
      rw [if_pos (by rw [c1]; rfl), sI_o (by decide), p1, chk_t (inb_n o1 (by decide)), nmx, nI_clamp (by omega), sI_o (by decide), p2]
      obtain ⟨μ', i1, i2, i3, i4⟩ := ih (i + 1) m (sI (sI μ 264 0 0 c.wh (nI (24 * f + i))) 265 0 0 c.one (nI c.two)) (by omega) (by omega) h3 h4 h5 (fun i' c' h' => h6 i' c' h') (lc _ (fun w => (sI_o (by decide)).trans (l1 w))) (fun k hk => by
        rw [htk, lst_app]
        by_cases z : k = c.one
        · rw [z, sI_s, if_pos (show isP c.one c = true by simp [isP, c1])]
        · rw [sI_i z, sI_o (by decide), if_neg (show ¬ isP k c = true by simp [isP]; exact fun _ q => z q.symm)]
          exact h8 k hk)
      exact ⟨μ', i1, ((Fx.s (by decide)).tr (Fx.s (by decide))).tr i2, i3, i4⟩
    · rw [if_neg (show ¬ nI c.wh = 1 from fun q => c1 ((nI_eq (b := 1) (by omega) (by omega)).mp q))]
      obtain ⟨μ', i1, i2, i3, i4⟩ := ih (i + 1) m (sI μ 264 0 0 c.wh (nI (24 * f + i))) (by omega) (by omega) h3 h4 h5 (fun i' c' h' => h6 i' c' h') (lc _ l1) (fun k hk => by
        rw [htk, lst_app, sI_o (by decide), if_neg (show ¬ isP k c = true by simp [isP]; exact fun q => absurd q c1)]
        exact h8 k hk)
      exact ⟨μ', i1, (Fx.s (by decide)).tr i2, i3, i4⟩
theorem ovl_out {N n : Nat} {TC : Nat → List Cl} (hN : 30 ≤ N) : ∀ (r : List Nat) (m : Nat) (μ : St) (xs : Nat → Option (Nat × Cl)) (ps : Nat → Int32), r.length < m → r.length ≤ 17 → (∀ x ∈ r, x < n) → n ≤ 17 → TxM TC n μ → Rep (fun i => μ.1 262 0 0 i) r → (∀ w, w < 7 → LCr TC (xs w) (μ.1 264 0 0 w)) → (∀ k, k < 8 → μ.1 265 0 0 k = ps k) →
    ∃ μ', fM_tellLaw_219 N m (nI r.length - 1) μ = some μ' ∧ Fx (fun f => decide (f = 264) || decide (f = 265)) μ μ' ∧ (∀ w, w < 7 → LCr TC (r.foldl (lT TC w) (xs w)) (μ'.1 264 0 0 w)) ∧ (∀ k, k < 8 → μ'.1 265 0 0 k = r.foldl (pT TC k) (ps k)) := by
  intro r
  induction r with
  | nil =>
    intro m μ xs ps h1 h2 h3 hn hT h4 h5 h6
    obtain ⟨m, rfl⟩ : ∃ q, m = q + 1 := ⟨m - 1, by omega⟩
    exact ⟨μ, rfl, Fx.rf, h5, h6⟩
  | cons f r ih =>
    intro m μ xs ps h1 h2 h3 hn hT h4 h5 h6
    rw [List.length_cons] at h1 h2 ⊢
    obtain ⟨m, rfl⟩ : ∃ q, m = q + 1 := ⟨m - 1, by omega⟩
    have hf := h3 f List.mem_cons_self
    obtain ⟨t1, t2, t3⟩ := hT f hf
    have e0 : fM_tellLaw_219 N (m + 1) (nI (r.length + 1) - 1) μ = fM_tellLaw_226 N (fM_tellLaw_219 N m) N (nI r.length) (nI 0) μ := by
      rw [nI_sub1]
      show (if nI r.length < 0 then _ else fM_tellLaw_226 N (fM_tellLaw_219 N m) N (nI r.length) 0 μ) = _
      rw [if_neg (nI_pos (by omega))]
      rfl
    obtain ⟨μ1, i1, i2, i3, i4⟩ := ovl_in (N := N) (f := f) (j := r.length) (TC := TC) (go := fM_tellLaw_219 N m) (xs := xs) (ps := ps) (by omega) (by omega) (TC f).length 0 N μ (by omega) (by omega) t2 h4.1 t1 t3 (fun w hw => by rw [List.take_zero]; exact h5 w hw) (fun k hk => by rw [List.take_zero]; exact h6 k hk)
    have s1 : ∀ f' i, f' ≠ 264 → f' ≠ 265 → μ1.1 f' 0 0 i = μ.1 f' 0 0 i := fun f' i a b => i2.1 f' 0 0 i (by simp [a, b])
    obtain ⟨μ2, j1, j2, j3, j4⟩ := ih m μ1 (fun w => lT TC w (xs w) f) (fun k => pT TC k (ps k) f) (by omega) (by omega) (fun x hx => h3 x (List.mem_cons_of_mem _ hx)) hn (hT.mv (fun f' i a b => s1 f' i (by omega) (by omega))) (Rep.eq r (fun i _ => s1 _ i (by decide) (by decide)) h4.2) i3 i4
    refine ⟨μ2, ?_, i2.tr j2, j3, j4⟩
    rw [Int32.sub_eq_add_neg] at j1
    rw [e0, i1]
    exact j1
theorem ini_c {N : Nat} : ∀ (d i m : Nat) (μ : St), i + d = 7 → d < m → ∃ μ', fM_tellLaw_167 N m (nI i) μ = fM_tellLaw_188 N N 0 μ' ∧ Fx (fun f => decide (f = 264)) μ μ' ∧ (∀ w, i ≤ w → w < 7 → μ'.1 264 0 0 w = -1) ∧ (∀ w, w < i → μ'.1 264 0 0 w = μ.1 264 0 0 w) := by
  intro d
  induction d with
  | zero =>
    intro i m μ h1 h2
    obtain ⟨m, rfl⟩ : ∃ q, m = q + 1 := ⟨m - 1, by omega⟩
    obtain rfl : i = 7 := by omega
    exact ⟨μ, rfl, Fx.rf, fun w a b => by omega, fun _ _ => rfl⟩
  | succ d ih =>
    intro i m μ h1 h2
    obtain ⟨m, rfl⟩ : ∃ q, m = q + 1 := ⟨m - 1, by omega⟩
    obtain ⟨μ', k1, k2, k3, k4⟩ := ih (i + 1) m (sI μ 264 0 0 i (-1)) (by omega) (by omega)
    refine ⟨μ', ?_, (Fx.s (by decide)).tr k2, fun w a b => ?_, fun w a => (k4 w (by omega)).trans (sI_i (by omega))⟩
    · show (if (6 : Int32) < nI i then _ else chk (inb (nI i) 7) (nm (sI μ 264 0 0 (nI i).toNatClampNeg (-1)) fun (σ1 : St) => fM_tellLaw_167 N m (nI i + 1) σ1)) = _
      rw [if_neg (fun q => by have := (nI_ltI (a := 6) (b := i) (by omega) (by omega)).mp q; omega), chk_t (inb_n (by omega) (by decide)), nmx, nI_clamp (by omega), nI_1, k1]
    · by_cases e : w = i
      · rw [e, k4 i (by omega), sI_s]
      · exact k3 w (by omega) b
theorem ini_p {N : Nat} : ∀ (d i m : Nat) (μ : St), i + d = 8 → d < m → (∀ k, k < 8 → μ.1 203 0 0 k = dflts k) → ∃ μ', fM_tellLaw_188 N m (nI i) μ = fM_tellLaw_219 N N (μ'.1 263 0 0 0 - 1) μ' ∧ Fx (fun f => decide (f = 265)) μ μ' ∧ (∀ w, i ≤ w → w < 8 → μ'.1 265 0 0 w = dflts w) ∧ (∀ w, w < i → μ'.1 265 0 0 w = μ.1 265 0 0 w) := by
  intro d
  induction d with
  | zero =>
    intro i m μ h1 h2 h3
    obtain ⟨m, rfl⟩ : ∃ q, m = q + 1 := ⟨m - 1, by omega⟩
    obtain rfl : i = 8 := by omega
    exact ⟨μ, rfl, Fx.rf, fun w a b => by omega, fun _ _ => rfl⟩
  | succ d ih =>
    intro i m μ h1 h2 h3
    obtain ⟨m, rfl⟩ : ∃ q, m = q + 1 := ⟨m - 1, by omega⟩
    obtain ⟨μ', k1, k2, k3, k4⟩ := ih (i + 1) m (sI μ 265 0 0 i (dflts i)) (by omega) (by omega) (fun k hk => (sI_o (by decide)).trans (h3 k hk))
    refine ⟨μ', ?_, (Fx.s (by decide)).tr k2, fun w a b => ?_, fun w a => (k4 w (by omega)).trans (sI_i (by omega))⟩
    · show (if (8 : Int32) ≤ nI i then _ else chk (inb (nI i) 8) (nm (sI μ 265 0 0 (nI i).toNatClampNeg (μ.1 203 0 0 (nI i).toNatClampNeg)) fun (σ1 : St) => fM_tellLaw_188 N m (nI i + 1) σ1)) = _
      rw [if_neg (show ¬ (8 : Int32) ≤ nI i from nI_ge (a := i) (b := 8) (by omega) (by omega)), chk_t (inb_n (by omega) (by decide)), nmx, nI_clamp (by omega), h3 i (by omega), nI_1, k1]
    · by_cases e : w = i
      · rw [e, k4 i (by omega), sI_s]
      · exact k3 w (by omega) b
/-- from the texts in force to the sheet -/
theorem shM_end {N n : Nat} {TC : Nat → List Cl} {r : List Nat} {μ : St} (hN : 30 ≤ N) (hr : r.length ≤ 17) (hm : ∀ x ∈ r, x < n) (hn : n ≤ 17) (hT : TxM TC n μ) (hR : Rep (fun i => μ.1 262 0 0 i) r) (hF : μ.1 263 0 0 0 = nI r.length) (hD : ∀ k, k < 8 → μ.1 203 0 0 k = dflts k) :
    ∃ μ', fM_tellLaw_167 N N 0 μ = some μ' ∧ Fx lawM μ μ' ∧ ShM TC (sheetR TC r) μ' := by
  obtain ⟨μ1, a1, a2, a3, -⟩ := ini_c (N := N) 7 0 N μ (by omega) (by omega)
  obtain ⟨μ2, b1, b2, b3, -⟩ := ini_p (N := N) 8 0 N μ1 (by omega) (by omega) (fun k hk => (a2.1 _ _ _ _ (by decide)).trans (hD k hk))
  have f2 : μ2.1 263 0 0 0 = nI r.length := by rw [b2.1 _ _ _ _ (by decide), a2.1 _ _ _ _ (by decide), hF]
  have s2 : ∀ f i, f ≠ 264 → f ≠ 265 → μ2.1 f 0 0 i = μ.1 f 0 0 i := fun f i x y => by
    rw [b2.1 f 0 0 i (by simp [y]), a2.1 f 0 0 i (by simp [x])]
  obtain ⟨μ3, c1, c2, c3, c4⟩ := ovl_out (N := N) (n := n) hN r N μ2 (fun _ => none) (fun k => dflts k) (by omega) hr hm hn (hT.mv (fun f i x y => s2 f i (by omega) (by omega))) (Rep.eq r (fun i _ => s2 _ i (by decide) (by decide)) hR) (fun w hw => Or.inl ⟨rfl, by rw [b2.1 _ _ _ _ (by decide), a3 w (by omega) hw]⟩) (fun k hk => b3 k (by omega) hk)
  have m1 : ∀ f, lawM f = false → decide (f = 264) = false := fun f e => by simp [lawM] at e ⊢; omega
  have m2 : ∀ f, lawM f = false → decide (f = 265) = false := fun f e => by simp [lawM] at e ⊢; omega
  have m3 : ∀ f, lawM f = false → (decide (f = 264) || decide (f = 265)) = false := fun f e => by simp [lawM] at e ⊢; omega
  refine ⟨μ3, ?_, ((a2.mono m1).tr (b2.mono m2)).tr (c2.mono m3), ?_, ?_, c3, c4, fun t ht => by have := hm t ht; omega⟩
  · show fM_tellLaw_167 N N (nI 0) μ = _
    rw [a1]
    show fM_tellLaw_188 N N (nI 0) μ1 = _
    rw [b1, f2]
    exact c1
  · exact Rep.eq r (fun i _ => by rw [c2.1 _ _ _ _ (by decide), s2 _ _ (by decide) (by decide)]) hR
  · rw [c2.1 _ _ _ _ (by decide), f2]
    rfl
theorem tell_loop {N n n0 T : Nat} {TC : Nat → List Cl} {d k : Int32} {μ0 : St} (hN : 30 ≤ N) (hn : n ≤ 17) (hT : TxM TC n μ0) (hD : ∀ k, k < 8 → μ0.1 203 0 0 k = dflts k) (hx : μ0.1 219 0 0 0 = nI n0) (hn0 : n0 ≤ 16) (hTT : T = if μ0.1 266 0 0 0 = 0 then n0 else n0 + 1) (hnT : n ≤ T) (htk : ∀ t, t < T → (t < n ↔ (μ0.1 237 0 0 t ≤ k ∨ (μ0.1 266 0 0 0 ≠ 0 ∧ t = n0)))) :
    ∀ (e t m : Nat) (μ : St), t + e = T → e < m → Fx lawM μ0 μ → Rep (fun i => μ.1 262 0 0 i) (forR (fun t => μ0.1 235 0 0 t) (fun t => μ0.1 236 0 0 t) d (min t n)) → μ.1 263 0 0 0 = nI (forR (fun t => μ0.1 235 0 0 t) (fun t => μ0.1 236 0 0 t) d (min t n)).length →
      ∃ μ', fM_tellLaw_7 N m d k (nI t) μ = some μ' ∧ Fx lawM μ0 μ' ∧ ShM TC (sheetR TC (forR (fun t => μ0.1 235 0 0 t) (fun t => μ0.1 236 0 0 t) d n)) μ' := by
  have hT17 : T ≤ 17 := by
    rw [hTT]
    split <;> omega
  intro e
  induction e with
  | zero =>
    intro t m μ h1 h2 h3 h4 h5
    obtain ⟨m, rfl⟩ : ∃ q, m = q + 1 := ⟨m - 1, by omega⟩
    obtain rfl : t = T := by omega
    rw [show min t n = n by omega] at h4 h5
    obtain ⟨μ', a1, a2, a3⟩ := shM_end (N := N) (n := n) hN (by have := forR_len (fun t => μ0.1 235 0 0 t) (fun t => μ0.1 236 0 0 t) d n; omega) (fun x hx => forR_lt _ _ _ _ x hx) hn (hT.mv (fun f i x y => h3.law (by omega))) h4 h5 (fun k hk => (h3.law (by decide)).trans (hD k hk))
    refine ⟨μ', ?_, h3.tr a2, a3⟩
    show (if μ.1 266 0 0 0 = 0 then fM_tellLaw_28 N (fM_tellLaw_7 N m) d k (nI t) (nI t) (μ.1 219 0 0 0) μ else fM_tellLaw_28 N (fM_tellLaw_7 N m) d k (nI t) (nI t) (μ.1 219 0 0 0 + 1) μ) = _
    rw [h3.law (by decide), h3.law (by decide), hx, nI_1]
    unfold fM_tellLaw_28
    by_cases c : μ0.1 266 0 0 0 = 0
    · rw [if_pos c] at hTT ⊢
      rw [if_pos (nI_le (by omega) (by omega)), a1]
    · rw [if_neg c] at hTT ⊢
      rw [if_pos (nI_le (by omega) (by omega)), a1]
  | succ e ih =>
    intro t m μ h1 h2 h3 h4 h5
    obtain ⟨m, rfl⟩ : ∃ q, m = q + 1 := ⟨m - 1, by omega⟩
    have ht : t < 17 := by omega
    have e0 : fM_tellLaw_7 N (m + 1) d k (nI t) μ = if t < n then fM_tellLaw_56 N (fM_tellLaw_7 N m) d k (nI t) μ else fM_tellLaw_7 N m d k (nI (t + 1)) μ := by
      show (if μ.1 266 0 0 0 = 0 then fM_tellLaw_28 N (fM_tellLaw_7 N m) d k (nI t) (nI t) (μ.1 219 0 0 0) μ else fM_tellLaw_28 N (fM_tellLaw_7 N m) d k (nI t) (nI t) (μ.1 219 0 0 0 + 1) μ) = _
      have h46 : fM_tellLaw_46 N (fM_tellLaw_7 N m) d k (nI t) μ = if μ0.1 237 0 0 t ≤ k then fM_tellLaw_56 N (fM_tellLaw_7 N m) d k (nI t) μ else fM_tellLaw_7 N m d k (nI (t + 1)) μ := by
        unfold fM_tellLaw_46
        rw [chk_t (inb_n ht (by decide)), nI_clamp (by omega), h3.law (by decide)]
        by_cases c : μ0.1 237 0 0 t ≤ k
        · rw [if_neg (Int32.not_lt.mpr c), if_pos c]
        · rw [if_pos (Int32.not_le.mp c), if_neg c]
          unfold fM_tellLaw_61
          rw [if_pos rfl, nI_1]
      have := htk t (by omega)
      unfold fM_tellLaw_28
      rw [h3.law (by decide), h3.law (by decide), hx, nI_1, h46]
      by_cases c : μ0.1 266 0 0 0 = 0
      · rw [if_pos c] at hTT ⊢
        rw [if_neg (nI_ge (by omega) (by omega)), if_pos c]
        by_cases c2 : μ0.1 237 0 0 t ≤ k
        · rw [if_pos c2, if_pos (this.mpr (Or.inl c2))]
        · rw [if_neg c2, if_neg (fun q => (this.mp q).elim c2 (fun z => z.1 c))]
      · rw [if_neg c] at hTT ⊢
        rw [if_neg (nI_ge (by omega) (by omega)), if_neg c]
        by_cases c3 : t = n0
        · rw [if_pos (by rw [c3]), if_pos (this.mpr (Or.inr ⟨c, c3⟩))]
        · rw [if_neg (fun q => c3 ((nI_eq (by omega) (by omega)).mp q))]
          by_cases c2 : μ0.1 237 0 0 t ≤ k
          · rw [if_pos c2, if_pos (this.mpr (Or.inl c2))]
          · rw [if_neg c2, if_neg (fun q => (this.mp q).elim c2 (fun z => c3 z.2))]
    rw [e0]
    by_cases c : t < n
    · rw [if_pos c]
      have hmt : min t n = t := by omega
      have hm1 : min (t + 1) n = t + 1 := by omega
      have ef : forR (fun t => μ0.1 235 0 0 t) (fun t => μ0.1 236 0 0 t) d (t + 1) = if isF (fun t => μ0.1 235 0 0 t) (fun t => μ0.1 236 0 0 t) d t = true then insR (fun t => μ0.1 235 0 0 t) t (forR (fun t => μ0.1 235 0 0 t) (fun t => μ0.1 236 0 0 t) d t) else forR (fun t => μ0.1 235 0 0 t) (fun t => μ0.1 236 0 0 t) d t := rfl
      rw [hmt] at h4 h5
      have e56 : fM_tellLaw_56 N (fM_tellLaw_7 N m) d k (nI t) μ = if isF (fun t => μ0.1 235 0 0 t) (fun t => μ0.1 236 0 0 t) d t = true then fM_tellLaw_97 N (fM_tellLaw_7 N m) N d k (nI t) (μ.1 263 0 0 0) μ else fM_tellLaw_7 N m d k (nI (t + 1)) μ := by
        unfold fM_tellLaw_56 fM_tellLaw_61 isF
        rw [if_neg (by decide), chk_t (inb_n ht (by decide)), nI_clamp (by omega), h3.law (by decide), h3.law (by decide), nI_1, nmx]
        by_cases c1 : d < μ0.1 235 0 0 t
        · rw [if_pos c1, if_neg (by simp; intro q; exact absurd c1 (Int32.not_lt.mpr q))]
        · rw [if_neg c1]
          by_cases c2 : d < μ0.1 236 0 0 t
          · rw [if_pos c2, if_pos (by simp; exact ⟨Int32.not_lt.mp c1, c2⟩)]
          · rw [if_neg c2, if_neg (by simp; intro _; exact Int32.not_lt.mp c2)]
      rw [e56]
      by_cases ci : isF (fun t => μ0.1 235 0 0 t) (fun t => μ0.1 236 0 0 t) d t = true
      · rw [if_pos ci, h5]
        have hl := forR_len (fun t => μ0.1 235 0 0 t) (fun t => μ0.1 236 0 0 t) d t
        obtain ⟨μ1, a1, a2, a3, a4, a5⟩ := mIns (N := N) (x1 := d) (x2 := k) (go := fM_tellLaw_7 N m) ht _ N μ (by omega) (by omega) (fun x hx => forR_lt _ _ _ _ x hx) h4
        have hfr : (fun t => μ.1 235 0 0 t) = (fun t => μ0.1 235 0 0 t) := funext fun t => h3.law (by decide)
        rw [hfr] at a2
        have f1 : Fx lawM μ0 (sI μ1 263 0 0 0 (μ1.1 263 0 0 0 + 1)) := by
          refine (h3.tr ⟨fun f a b i q => a3 f a b i (fun z => by rw [z] at q; exact absurd q (by decide)), a5⟩).tr (Fx.ls (by decide))
        obtain ⟨μ', b1, b2, b3⟩ := ih (t + 1) m (sI μ1 263 0 0 0 (μ1.1 263 0 0 0 + 1)) (by omega) (by omega) f1 (by rw [hm1, ef, if_pos ci]; exact a2) (by rw [hm1, ef, if_pos ci, sI_s, a3 _ _ _ _ (by decide), h5, nI_1, insR_len])
        refine ⟨μ', ?_, b2, b3⟩
        rw [a1, nmx, nI_1, b1]
      · rw [if_neg ci]
        exact ih (t + 1) m μ (by omega) (by omega) h3 (by rw [hm1, ef, if_neg ci]; exact h4) (by rw [hm1, ef, if_neg ci]; exact h5)
    · rw [if_neg c]
      rw [show min t n = min (t + 1) n by omega] at h4 h5
      exact ih (t + 1) m μ (by omega) (by omega) h3 h4 h5
theorem tellLaw_e {N n : Nat} {TC : Nat → List Cl} {d k : Int32} {μ : St} (hN : 30 ≤ N) (hT : TxM TC n μ) (hD : ∀ k, k < 8 → μ.1 203 0 0 k = dflts k) (htk : takes μ k n) :
    ∃ μ', fM_tellLaw N d k μ = some μ' ∧ Fx lawM μ μ' ∧ ShM TC (sheetR TC (forR (fun t => μ.1 235 0 0 t) (fun t => μ.1 236 0 0 t) d n)) μ' := by
  obtain ⟨n0, hx, h⟩ := htk
  have key : ∃ T, T = (if μ.1 266 0 0 0 = 0 then n0 else n0 + 1) ∧ n ≤ 17 ∧ n0 ≤ 16 ∧ n ≤ T ∧ ∀ t, t < T → (t < n ↔ (μ.1 237 0 0 t ≤ k ∨ (μ.1 266 0 0 0 ≠ 0 ∧ t = n0))) := by
    rcases h with ⟨a, b, c, e, f⟩ | ⟨a, b, c, e⟩
    · refine ⟨n0, by rw [if_pos a], by omega, c, b, fun t ht => ⟨fun q => Or.inl (e t q), fun q => ?_⟩⟩
      rcases q with q | q
      · apply Classical.byContradiction
        intro z
        exact absurd q (Int32.not_le.mpr (f t (by omega) ht))
      · exact absurd a q.1
    · refine ⟨n0 + 1, by rw [if_neg a], by omega, c, by omega, fun t ht => ⟨fun q => ?_, fun _ => by omega⟩⟩
      by_cases z : t = n0
      · exact Or.inr ⟨a, z⟩
      · exact Or.inl (e t (by omega))
  obtain ⟨T, k1, k2, k3, k4, k5⟩ := key
  have hT17 : T < N := by
    rw [k1]
    split <;> omega
  obtain ⟨μ', a1, a2, a3⟩ := tell_loop (N := N) (n := n) (n0 := n0) (T := T) (TC := TC) (d := d) (k := k) (μ0 := μ) hN k2 hT hD hx k3 k1 k4 k5 T 0 N (sI μ 263 0 0 0 0) (by omega) hT17 (Fx.ls (by decide)) (by rw [Nat.zero_min]; trivial) (by rw [Nat.zero_min, sI_s]; rfl)
  refine ⟨μ', ?_, a2, a3⟩
  unfold fM_tellLaw
  rw [nmx]
  exact a1
