/-! a person's slice of the reference's run -/
def ClR (μ : St) (j : Nat) (s : Lfe) (i : Nat) : Prop := μ.1 290 0 0 j = s 79 (11 * i) ∧ μ.1 291 0 0 j = s 79 (11 * i + 1) ∧ μ.1 292 0 0 j = s 79 (11 * i + 2) ∧ μ.1 293 0 0 j = s 79 (11 * i + 3) ∧ μ.1 294 0 0 j = s 79 (11 * i + 4) ∧ μ.1 295 0 0 j = s 79 (11 * i + 5) ∧ μ.1 296 0 0 j = s 79 (11 * i + 7) ∧ s 79 (11 * i + 8) = (if μ.1 297 0 0 j = -1 then 1 else 0) ∧ μ.1 298 0 0 j = s 79 (11 * i + 9) ∧ μ.1 299 0 0 j = s 79 (11 * i + 10)
abbrev RfP (p : Nat) (μ : St) (s : Lfe) : Prop := (μ.1 275 0 0 p = s 87 0) ∧ (μ.1 276 0 0 p = s 88 0) ∧ (μ.1 279 0 0 p = s 89 0) ∧ (μ.1 280 0 0 p = s 93 0) ∧ (μ.1 281 0 0 p = s 91 0) ∧ (μ.1 282 0 0 p = s 94 0) ∧ (μ.1 283 0 0 p = s 92 0)
theorem RfP.wk {p : Nat} {μ : St} {s : Lfe} (h : RfP p μ s) : μ.1 275 0 0 p = s 87 0 := h.1
theorem RfP.aw {p : Nat} {μ : St} {s : Lfe} (h : RfP p μ s) : μ.1 276 0 0 p = s 88 0 := h.2.1
theorem RfP.sh {p : Nat} {μ : St} {s : Lfe} (h : RfP p μ s) : μ.1 279 0 0 p = s 89 0 := h.2.2.1
theorem RfP.us {p : Nat} {μ : St} {s : Lfe} (h : RfP p μ s) : μ.1 280 0 0 p = s 93 0 := h.2.2.2.1
theorem RfP.lf {p : Nat} {μ : St} {s : Lfe} (h : RfP p μ s) : μ.1 281 0 0 p = s 91 0 := h.2.2.2.2.1
theorem RfP.me {p : Nat} {μ : St} {s : Lfe} (h : RfP p μ s) : μ.1 282 0 0 p = s 94 0 := h.2.2.2.2.2.1
theorem RfP.re {p : Nat} {μ : St} {s : Lfe} (h : RfP p μ s) : μ.1 283 0 0 p = s 92 0 := h.2.2.2.2.2.2
abbrev RfC (p : Nat) (μ : St) (s : Lfe) (c nc : Nat) (cm : Nat → Nat) : Prop := (s 84 0 = nI c) ∧ (μ.1 285 0 0 p = nI c) ∧ (μ.1 284 0 0 p = if c = 0 then -1 else nI (cm (c - 1))) ∧ (μ.1 286 0 0 0 = nI nc) ∧ (∀ i, i < c → cm i < nc ∧ μ.1 288 0 0 (cm i) = nI p ∧ μ.1 289 0 0 (cm i) = nI i ∧ ClR μ (cm i) s i) ∧ (∀ j, j < nc → μ.1 288 0 0 j = nI p → ∃ i, i < c ∧ cm i = j) ∧ (s 85 0 = if c = 0 then 0 else if μ.1 297 0 0 (cm (c - 1)) = -1 then 1 else 0) ∧ (c ≠ 0 → μ.1 297 0 0 (cm (c - 1)) ≠ -1 → s 86 0 = μ.1 297 0 0 (cm (c - 1))) ∧ (∀ i, i + 1 < c → μ.1 297 0 0 (cm i) ≠ -1) ∧ (c ≤ nc ∧ nc ≤ 160) ∧ (∀ i i', i < c → i' < c → cm i = cm i' → i = i')
theorem RfC.cc {p : Nat} {μ : St} {s : Lfe} {c nc : Nat} {cm : Nat → Nat} (h : RfC p μ s c nc cm) : s 84 0 = nI c := h.1
theorem RfC.cn {p : Nat} {μ : St} {s : Lfe} {c nc : Nat} {cm : Nat → Nat} (h : RfC p μ s c nc cm) : μ.1 285 0 0 p = nI c := h.2.1
theorem RfC.la {p : Nat} {μ : St} {s : Lfe} {c nc : Nat} {cm : Nat → Nat} (h : RfC p μ s c nc cm) : μ.1 284 0 0 p = if c = 0 then -1 else nI (cm (c - 1)) := h.2.2.1
theorem RfC.nc {p : Nat} {μ : St} {s : Lfe} {c nc : Nat} {cm : Nat → Nat} (h : RfC p μ s c nc cm) : μ.1 286 0 0 0 = nI nc := h.2.2.2.1
theorem RfC.cl {p : Nat} {μ : St} {s : Lfe} {c nc : Nat} {cm : Nat → Nat} (h : RfC p μ s c nc cm) : ∀ i, i < c → cm i < nc ∧ μ.1 288 0 0 (cm i) = nI p ∧ μ.1 289 0 0 (cm i) = nI i ∧ ClR μ (cm i) s i := h.2.2.2.2.1
theorem RfC.cv {p : Nat} {μ : St} {s : Lfe} {c nc : Nat} {cm : Nat → Nat} (h : RfC p μ s c nc cm) : ∀ j, j < nc → μ.1 288 0 0 j = nI p → ∃ i, i < c ∧ cm i = j := h.2.2.2.2.2.1
theorem RfC.op {p : Nat} {μ : St} {s : Lfe} {c nc : Nat} {cm : Nat → Nat} (h : RfC p μ s c nc cm) : s 85 0 = if c = 0 then 0 else if μ.1 297 0 0 (cm (c - 1)) = -1 then 1 else 0 := h.2.2.2.2.2.2.1
theorem RfC.co {p : Nat} {μ : St} {s : Lfe} {c nc : Nat} {cm : Nat → Nat} (h : RfC p μ s c nc cm) : c ≠ 0 → μ.1 297 0 0 (cm (c - 1)) ≠ -1 → s 86 0 = μ.1 297 0 0 (cm (c - 1)) := h.2.2.2.2.2.2.2.1
theorem RfC.ol {p : Nat} {μ : St} {s : Lfe} {c nc : Nat} {cm : Nat → Nat} (h : RfC p μ s c nc cm) : ∀ i, i + 1 < c → μ.1 297 0 0 (cm i) ≠ -1 := h.2.2.2.2.2.2.2.2.1
theorem RfC.bd {p : Nat} {μ : St} {s : Lfe} {c nc : Nat} {cm : Nat → Nat} (h : RfC p μ s c nc cm) : c ≤ nc ∧ nc ≤ 160 := h.2.2.2.2.2.2.2.2.2.1
theorem RfC.cj {p : Nat} {μ : St} {s : Lfe} {c nc : Nat} {cm : Nat → Nat} (h : RfC p μ s c nc cm) : ∀ i i', i < c → i' < c → cm i = cm i' → i = i' := h.2.2.2.2.2.2.2.2.2.2
theorem openOf_e {N p c nc : Nat} {μ : St} {s : Lfe} {cm : Nat → Nat} (h : RfC p μ s c nc cm) (hp : p < 20) : fM_openOf N (nI p) μ = some (if s 85 0 = 0 then -1 else nI (cm (c - 1))) := by
  have ho := h.op
  have hb := h.bd
  unfold fM_openOf
  rw [chk_t (inb_n hp (by decide)), nmx, nI_clamp (by omega), h.la]
  by_cases c0 : c = 0
  · rw [if_pos c0] at ho ⊢
    rw [if_pos rfl, if_pos ho]
  · rw [if_neg c0] at ho ⊢
    obtain ⟨l1, l2, -⟩ := h.cl (c - 1) (by omega)
    rw [if_neg (m1_ne (by omega)), chk_t (inb_n (by omega) (by decide)), nI_clamp (by omega)]
    by_cases cc : μ.1 297 0 0 (cm (c - 1)) = -1
    · rw [if_pos cc] at ho
      rw [if_pos cc, if_neg (by rw [ho]; decide)]
    · rw [if_neg cc] at ho
      rw [if_neg cc, if_pos ho]
theorem open_m1 {p c nc : Nat} {μ : St} {s : Lfe} {cm : Nat → Nat} (h : RfC p μ s c nc cm) : ((if s 85 0 = 0 then -1 else nI (cm (c - 1))) : Int32) = -1 ↔ s 85 0 = 0 := by
  by_cases c1 : s 85 0 = 0
  · rw [if_pos c1]
    exact ⟨fun _ => c1, fun _ => rfl⟩
  · rw [if_neg c1]
    refine ⟨fun q => ?_, fun q => absurd q c1⟩
    have c0 : c ≠ 0 := fun z => c1 (by rw [h.op, if_pos z])
    have hb := h.bd
    have := (h.cl (c - 1) (by omega)).1
    exact absurd q (m1_ne (by omega))
theorem RfC.c0 {p c nc : Nat} {μ : St} {s : Lfe} {cm : Nat → Nat} (h : RfC p μ s c nc cm) (ho : s 85 0 ≠ 0) : c ≠ 0 ∧ rw_ s = 11 * (c - 1) ∧ cm (c - 1) < nc ∧ nc ≤ 160 := by
  have c0 : c ≠ 0 := fun z => ho (by rw [h.op, if_pos z])
  have hb := h.bd
  refine ⟨c0, ?_, (h.cl (c - 1) (by omega)).1, hb.2⟩
  unfold rw_
  rw [h.cc, nI_clamp (by omega)]
/-- what an offer adds to the values -/
def vO (vs : Nat → Int64) (μ : St) (k : Nat) : Int64 := if k = 17 then (μ.1 270 0 0 0).toInt64 else if k = 18 then (μ.1 271 0 0 0).toInt64 else if k = 19 then (μ.1 272 0 0 0).toInt64 else vs k
theorem val_e {N p d c nc : Nat} {E : Env} {μ : St} {s : Lfe} {cm : Nat → Nat} (hN : 60 ≤ N) (hp : p < 20) (h1 : 312 ≤ d) (hd : d < 936) (hP : RfP p μ s) (hC : RfC p μ s c nc cm) (hs : ∀ μ', μ'.1 = μ.1 → ∀ w, w < 156 → fM_stampsAt N (nI p) (nI w) μ' = some (E.st w)) (hw : μ.1 268 0 0 0 = nI p) (hn : μ.1 269 0 0 0 = nI d) (hq : ∀ k, k < 8 → μ.1 265 0 0 k = (E.sh d).par k) (ha : μ.1 212 0 0 p = E.age) (ht : μ.1 211 0 0 p = E.trade) : VM N μ (vO (vS E d s) μ) := by
  intro k hk μ' hμ
  have hs' := hs μ' hμ
  obtain ⟨sa, ua⟩ := stM_e (N := N) (p := p) (E := E) hN hs' h1 hd
  have hC' : RfC p μ' s c nc cm := by
    obtain ⟨q1, q2⟩ := hC
    refine ⟨q1, ?_⟩
    unfold ClR at q2 ⊢
    rw [hμ]
    exact q2
  have op := openOf_e (N := N) hC' hp
  have om := open_m1 hC'
  unfold fM_valueOf vO vS
  rw [hμ] 
  by_cases k8 : k < 8
  · rw [if_neg (show ¬ (8 : Int32) ≤ nI k from nI_ge (a := k) (b := 8) k8 (by decide)), if_neg (by omega), if_neg (by omega), if_neg (by omega), if_pos k8]
    unfold fM_param
    rw [chk_t (inb_n k8 (by decide)), nI_clamp (by omega), hμ, hq k k8, bn1_e]
  · rw [if_pos (show (8 : Int32) ≤ nI k from nI_le (a := 8) (by omega) (by omega)), hw, op, bn1_e]
    have ne : ∀ j, j < 20 → k ≠ j → ¬ nI k = nI j := fun j hj q z => q ((nI_eq (by omega) (by omega)).mp z)
    rcases (show k = 8 ∨ k = 9 ∨ k = 10 ∨ k = 11 ∨ k = 12 ∨ k = 13 ∨ k = 14 ∨ k = 15 ∨ k = 16 ∨ k = 17 ∨ k = 18 ∨ k = 19 by omega) with rfl | rfl | rfl | rfl | rfl | rfl | rfl | rfl | rfl | rfl | rfl | rfl
    · show chk (inb (nI p) 20) _ = _
      rw [chk_t (inb_n hp (by decide)), nI_clamp (by omega), ha]
      rfl
    · show chk (inb (nI p) 20) _ = _
      rw [chk_t (inb_n hp (by decide)), nI_clamp (by omega), ht]
      rfl
    · show chk (inb (nI p) 20) _ = _
      rw [chk_t (inb_n hp (by decide)), nI_clamp (by omega), show μ.1 280 0 0 p = s 93 0 from hP.us]
      rfl
    · show chk (inb (nI p) 20) _ = _
      rw [chk_t (inb_n hp (by decide)), nI_clamp (by omega), show μ.1 275 0 0 p = s 87 0 from hP.wk, show μ.1 281 0 0 p = s 91 0 from hP.lf, show μ.1 269 0 0 0 = nI d from hn]
      show _ = some (if s 87 0 = 0 then (if s 91 0 = -1 then 0 else (nI d - s 91 0).toInt64) else 0)
      unfold fM_valueOf_138
      split
      · split <;> rfl
      · rfl
    · show (if (if s 85 0 = 0 then -1 else nI (cm (c - 1)) : Int32) = -1 then some 0 else _) = some (if s 85 0 = 0 then 0 else (s 79 (rw_ s + 3) + s 79 (rw_ s + 4) + s 79 (rw_ s + 5)).toInt64)
      by_cases o : s 85 0 = 0
      · rw [if_pos (om.mpr o), if_pos o]
      · rw [if_neg (fun q => o (om.mp q)), if_neg o, if_neg o]
        obtain ⟨c0, e1, e2, e3⟩ := hC.c0 o
        obtain ⟨-, -, -, -, -, -, y3, y4, y5, -⟩ := hC.cl (c - 1) (by omega)
        rw [chk_t (inb_n (by omega) (by decide)), nI_clamp (by omega), e1, ← y3, ← y4, ← y5]
    · show (if (if s 85 0 = 0 then -1 else nI (cm (c - 1)) : Int32) = -1 then bn1 (fM_stampsAhead N (nI p) (μ.1 269 0 0 0) μ') fun r2 => some r2.toInt64 else _) = some (if s 85 0 = 0 then (stA E d).toInt64 else (s 79 (rw_ s + 9)).toInt64)
      by_cases o : s 85 0 = 0
      · rw [if_pos (om.mpr o), if_pos o, show μ.1 269 0 0 0 = nI d from hn, sa, bn1_e]
      · rw [if_neg (fun q => o (om.mp q)), if_neg o, if_neg o]
        obtain ⟨c0, e1, e2, e3⟩ := hC.c0 o
        obtain ⟨-, -, -, -, -, -, -, -, -, -, -, y9, -⟩ := hC.cl (c - 1) (by omega)
        rw [chk_t (inb_n (by omega) (by decide)), nI_clamp (by omega), e1, ← y9]
    · show (if (if s 85 0 = 0 then -1 else nI (cm (c - 1)) : Int32) = -1 then bn1 (fM_unknownAhead N (nI p) (μ.1 269 0 0 0) μ') fun r3 => some r3.toInt64 else _) = some (if s 85 0 = 0 then (unA E d).toInt64 else (s 79 (rw_ s + 10)).toInt64)
      by_cases o : s 85 0 = 0
      · rw [if_pos (om.mpr o), if_pos o, show μ.1 269 0 0 0 = nI d from hn, ua, bn1_e]
      · rw [if_neg (fun q => o (om.mp q)), if_neg o, if_neg o]
        obtain ⟨c0, e1, e2, e3⟩ := hC.c0 o
        obtain ⟨-, -, -, -, -, -, -, -, -, -, -, -, y10⟩ := hC.cl (c - 1) (by omega)
        rw [chk_t (inb_n (by omega) (by decide)), nI_clamp (by omega), e1, ← y10]
    · show chk (inb (nI p) 20) _ = _
      rw [chk_t (inb_n hp (by decide)), nI_clamp (by omega), show μ.1 282 0 0 p = s 94 0 from hP.me]
      rfl
    · show chk (inb (nI p) 20) _ = _
      rw [chk_t (inb_n hp (by decide)), nI_clamp (by omega), show μ.1 283 0 0 p = s 92 0 from hP.re]
      rfl
    · rfl
    · rfl
    · rfl
