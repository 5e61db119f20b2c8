/-! who signs, in both -/
theorem nwX.pn {p c nc nb d : Nat} {E : Env} {μ μ' : St} (h : nwX p c nc E d μ μ') : PnX p nc (nc + 1) nb nb μ μ' := by
  obtain ⟨a1, a2, a3, a4, b1, b2, b3, b4, b5, b6, b7, b8, b9, b10, b11, b12, b13, b14, b15, b16, b17⟩ := h
  refine ⟨fun f a b i q => ?_, fun f i q q2 => ?_, Nat.le_succ _, fun j hj _ f q => a3 f j q (by omega), fun j hj => a3 _ j (by decide) (by omega), fun j x y => ?_, Nat.le_refl _, fun j _ f q => a1 f j (by omega), fun j x y => by omega, fun f i q _ => a1 f i (by omega), fun f a b i _ q _ => b17 f a b i (fun z => q z.1), fun j hj _ => b17 _ _ _ _ (fun z => by have := z.2; omega), fun i _ => b17 _ _ _ _ (fun z => absurd z.1 (by decide))⟩
  · by_cases z : a = 0 ∧ b = 0
    · rw [z.1, z.2]
      exact a1 f i (by omega)
    · exact a4 f a b i z
  · by_cases z : 284 ≤ f
    · exact a2 f i (by omega) q2
    · exact a1 f i (by omega)
  · obtain rfl : j = nc := by omega
    exact b4
theorem new_A {p d c nc nb : Nat} {E : Env} {μ μ' : St} {s : Lfe} {cm : Nat → Nat} (hd1 : 312 ≤ d) (hd : d < 936) (a1 : RfP p μ s) (a2 : RfC p μ s c nc cm) (a3 : RfB p d μ s nb) (a4 : RfD p d μ s) (a5 : RfY μ s c cm) (ho : s 85 0 = 0) (hnc : nc < 160) (hX : nwX p c nc E d μ μ') : RfA p d μ' (sNew E d s) (nc + 1) nb := by
  obtain ⟨x1, x2, x3, x4, y1, y2, y3, y4, y5, y6, y7, y8, y9, y10, y11, y12, y13, y14, y15, y16, y17⟩ := hX
  have hbd := a2.bd
  have ec : (s 84 0).toNatClampNeg = c := by rw [a2.cc, nI_clamp (by omega)]
  have es : sNew E d s = uL (uL (fun f i => if f = 79 ∧ 11 * c ≤ i ∧ i < 11 * c + 11 then (if i = 11 * c then nI d else if i = 11 * c + 1 then mn32 (stA E d / mx1 ((E.sh d).par 4)) ((E.sh d).par 3) else if i = 11 * c + 8 then 1 else if i = 11 * c + 9 then stA E d else if i = 11 * c + 10 then unA E d else 0) else s f i) 84 0 (nI (c + 1))) 85 0 1 := by
    unfold sNew
    rw [ec]
  have so : ∀ f i, f ≠ 79 → f ≠ 84 → f ≠ 85 → sNew E d s f i = s f i := fun f i q1 q2 q3 => by
    rw [es, uL_o q3, uL_o q2]
    exact if_neg (fun z => q1 z.1)
  have sc : ∀ i, i < 11 * c → sNew E d s 79 i = s 79 i := fun i hi => by
    rw [es, uL_o (by decide), uL_o (by decide)]
    exact if_neg (fun z => by have := z.2.1; omega)
  have sn : ∀ k, k < 11 → sNew E d s 79 (11 * c + k) = if k = 0 then nI d else if k = 1 then mn32 (stA E d / mx1 ((E.sh d).par 4)) ((E.sh d).par 3) else if k = 8 then 1 else if k = 9 then stA E d else if k = 10 then unA E d else 0 := fun k hk => by
    rw [es, uL_o (by decide), uL_o (by decide)]
    refine (if_pos ⟨rfl, by omega, by omega⟩).trans ?_
    rcases (show k = 0 ∨ k = 1 ∨ k = 2 ∨ k = 3 ∨ k = 4 ∨ k = 5 ∨ k = 6 ∨ k = 7 ∨ k = 8 ∨ k = 9 ∨ k = 10 by omega) with rfl | rfl | rfl | rfl | rfl | rfl | rfl | rfl | rfl | rfl | rfl
    · rw [if_pos (by omega)]; rfl
    · rw [if_neg (by omega), if_pos rfl]; rfl
    · rw [if_neg (by omega), if_neg (by omega), if_neg (by omega), if_neg (by omega), if_neg (by omega)]; rfl
    · rw [if_neg (by omega), if_neg (by omega), if_neg (by omega), if_neg (by omega), if_neg (by omega)]; rfl
    · rw [if_neg (by omega), if_neg (by omega), if_neg (by omega), if_neg (by omega), if_neg (by omega)]; rfl
    · rw [if_neg (by omega), if_neg (by omega), if_neg (by omega), if_neg (by omega), if_neg (by omega)]; rfl
    · rw [if_neg (by omega), if_neg (by omega), if_neg (by omega), if_neg (by omega), if_neg (by omega)]; rfl
    · rw [if_neg (by omega), if_neg (by omega), if_neg (by omega), if_neg (by omega), if_neg (by omega)]; rfl
    · rw [if_neg (by omega), if_neg (by omega), if_pos rfl]; rfl
    · rw [if_neg (by omega), if_neg (by omega), if_neg (by omega), if_pos rfl]; rfl
    · rw [if_neg (by omega), if_neg (by omega), if_neg (by omega), if_neg (by omega), if_pos rfl]; rfl
  have fk : ∀ i, i < c → ∀ f, 288 ≤ f ∧ f ≤ 299 → μ'.1 f 0 0 (cm i) = μ.1 f 0 0 (cm i) := fun i hi f q => x3 f _ q (by have := (a2.cl i hi).1; omega)
  obtain ⟨cm', hc⟩ : ∃ cm' : Nat → Nat, cm' = fun i => if i = c then nc else cm i := ⟨_, rfl⟩
  have hc0 : cm' c = nc := by rw [hc]; exact if_pos rfl
  have hc1 : ∀ i, i < c → cm' i = cm i := fun i hi => by rw [hc]; exact if_neg (by omega)
  refine ⟨c + 1, cm', ?_, ⟨?_, y2, ?_, y1, fun i hi => ?_, fun j hj hjp => ?_, ?_, fun _ q => ?_, fun i hi => ?_, ⟨by omega, by omega⟩, fun i i' h1 h2 q => ?_⟩, a3.mv (fun f i q => x1 f i (by omega)) (so _ _ (by decide) (by decide) (by decide)), a4.mv (by omega) (fun f i q _ => x1 f _ (by omega)) (fun i _ => y17 _ _ _ _ (fun z => absurd z.1 (by decide))) (fun i => so _ _ (by decide) (by decide) (by decide)) (fun i => so _ _ (by decide) (by decide) (by decide)), fun i hi => ?_⟩
  · exact ⟨(x1 _ _ (by decide)).trans (a1.wk.trans (so _ _ (by decide) (by decide) (by decide)).symm), (x1 _ _ (by decide)).trans (a1.aw.trans (so _ _ (by decide) (by decide) (by decide)).symm), (x1 _ _ (by decide)).trans (a1.sh.trans (so _ _ (by decide) (by decide) (by decide)).symm), (x1 _ _ (by decide)).trans (a1.us.trans (so _ _ (by decide) (by decide) (by decide)).symm), (x1 _ _ (by decide)).trans (a1.lf.trans (so _ _ (by decide) (by decide) (by decide)).symm), (x1 _ _ (by decide)).trans (a1.me.trans (so _ _ (by decide) (by decide) (by decide)).symm), (x1 _ _ (by decide)).trans (a1.re.trans (so _ _ (by decide) (by decide) (by decide)).symm)⟩
  · rw [es, uL_o (by decide), uL_s]
  · rw [y3, if_neg (by omega), Nat.add_sub_cancel, hc0]
  · by_cases z : i = c
    · subst z
      rw [hc0]
      have n0 := sn 0 (by decide)
      rw [Nat.add_zero] at n0
      exact ⟨by omega, y4, y5, by rw [y6, n0]; rfl, by rw [y7, sn 1 (by decide)]; rfl, by rw [y8, sn 2 (by decide)]; rfl, by rw [y9, sn 3 (by decide)]; rfl, by rw [y10, sn 4 (by decide)]; rfl, by rw [y11, sn 5 (by decide)]; rfl, by rw [y12, sn 7 (by decide)]; rfl, by rw [y13, sn 8 (by decide)]; rfl, by rw [y14, sn 9 (by decide)]; rfl, by rw [y15, sn 10 (by decide)]; rfl⟩
    · have hi' : i < c := by omega
      obtain ⟨w1, w2, w3, w4⟩ := a2.cl i hi'
      rw [hc1 i hi']
      exact ⟨by omega, (fk i hi' _ (by decide)).trans w2, (fk i hi' _ (by decide)).trans w3, w4.mv (fun f q => fk i hi' f q) (fun k hk => sc _ (by omega))⟩
  · by_cases z : j = nc
    · exact ⟨c, by omega, by rw [hc0, z]⟩
    · obtain ⟨i, i1, i2⟩ := a2.cv j (by omega) (by rw [← x3 _ j (by decide) z]; exact hjp)
      exact ⟨i, by omega, by rw [hc1 i i1, i2]⟩
  · rw [if_neg (by omega), Nat.add_sub_cancel, hc0, if_pos y13, es, uL_s]
  · rw [Nat.add_sub_cancel, hc0] at q
    exact absurd y13 q
  · rw [hc1 i (by omega), fk i (by omega) _ (by decide)]
    by_cases z : i + 1 < c
    · exact a2.ol i z
    · have e1 : c - 1 = i := by omega
      have op := a2.op
      rw [ho, if_neg (by omega), e1] at op
      intro y
      rw [if_pos y] at op
      exact absurd op (by decide)
  · by_cases z1 : i = c
    · by_cases z2 : i' = c
      · omega
      · rw [z1, hc0, hc1 i' (by omega)] at q
        have := (a2.cl i' (by omega)).1
        omega
    · by_cases z2 : i' = c
      · rw [z2, hc0, hc1 i (by omega)] at q
        have := (a2.cl i (by omega)).1
        omega
      · rw [hc1 i (by omega), hc1 i' (by omega)] at q
        exact a2.cj i i' (by omega) (by omega) q
  · by_cases z : i = c
    · subst z
      rw [hc0, y16, sn 6 (by decide)]
      rfl
    · rw [hc1 i (by omega), sc _ (by omega), y17 _ _ _ _ (fun q => by have := q.2; have := (a2.cl i (by omega)).1; omega)]
      exact a5 i (by omega)
theorem signs_M {N p d nc nb : Nat} {E : Env} {μ : St} {s : Lfe} (hN : 60 ≤ N) (hp : p < 20) (hd1 : 312 ≤ d) (hd : d < 936) (hn : μ.1 269 0 0 0 = nI d) (hnc : nc < 160) (h : RfA p d μ s nc nb) (ho : s 85 0 = 0) (hq : ∀ k, k < 8 → μ.1 265 0 0 k = (E.sh d).par k) (hst : ∀ μ' : St, (∀ f i, f < 262 → μ'.1 f 0 0 i = μ.1 f 0 0 i) → ∀ w, w < 156 → fM_stampsAt N (nI p) (nI w) μ' = some (E.st w)) : ∃ μ' nc', fM_signs N (nI p) μ = some μ' ∧ PnX p nc nc' nb nb μ μ' ∧ nc' ≤ nc + 1 ∧ RfA p d μ' (sSign E d s) nc' nb := by
  obtain ⟨c, cm, a1, a2, a3, a4, a5⟩ := h
  have hbd := a2.bd
  obtain ⟨μ1, i1, i2⟩ := signs49 (N := N) (p := p) (d := d) (c := c) (nc := nc) (E := E) (μ := μ) hN hp hd1 hd hn hnc a2.nc a2.cn hq hst
  have anew : ∃ μ' nc', fM_signs_49 N (nI p) μ = some μ' ∧ PnX p nc nc' nb nb μ μ' ∧ nc' ≤ nc + 1 ∧ RfA p d μ' (sNew E d s) nc' nb := ⟨μ1, nc + 1, i1, i2.pn, Nat.le_refl _, new_A hd1 hd a1 a2 a3 a4 a5 ho hnc i2⟩
  unfold fM_signs sSign
  rw [chk_t (inb_n hp (by decide)), nI_clamp (by omega), nmx, show μ.1 284 0 0 p = _ from a2.la, a2.cc]
  by_cases c0 : c = 0
  · rw [if_pos c0, if_pos rfl, if_pos (by rw [c0]; rfl)]
    exact anew
  · obtain ⟨w1, w2, w3, w4⟩ := a2.cl (c - 1) (by omega)
    have hcl : μ.1 297 0 0 (cm (c - 1)) ≠ -1 := fun y => by
      have op := a2.op
      rw [ho, if_neg c0, if_pos y] at op
      exact absurd op (by decide)
    have hco := a2.co c0 hcl
    have p1 : fM_param N 1 μ = some ((E.sh d).par 1) := by
      unfold fM_param
      rw [chk_t (show inb (1 : Int32) 8 by decide)]
      exact congrArg some (hq 1 (by decide))
    rw [if_neg c0, if_neg (m1_ne (by omega)), if_neg (show ¬ nI c = 0 from fun q => c0 ((nI_eq (b := 0) (by omega) (by decide)).mp q)), chk_t (inb_n (by omega) (by decide)), nI_clamp (by omega), p1, bn1_e, show μ.1 269 0 0 0 = nI d from hn, hco]
    by_cases cg : (E.sh d).par 1 < nI d - μ.1 297 0 0 (cm (c - 1))
    · rw [if_pos cg, if_pos cg]
      exact anew
    · rw [if_neg cg, if_neg cg, nmx, nmx]
      have er : rw_ s = 11 * (c - 1) := by
        unfold rw_
        rw [a2.cc, nI_clamp (by omega)]
      rw [er, sI_o (by decide)]
      obtain ⟨z0, z1, z2, z3, z4, z5, z7, z8, z9, z10⟩ := w4
      have so : ∀ f i, f ≠ 79 → f ≠ 85 → uL (uL (uL s 79 (11 * (c - 1) + 7) (s 79 (11 * (c - 1) + 7) + 1)) 85 0 1) 79 (11 * (c - 1) + 8) 1 f i = s f i := fun f i q1 q2 => by rw [uL_o q1, uL_o q2, uL_o q1]
      have sk : ∀ i, i ≠ 11 * (c - 1) + 7 → i ≠ 11 * (c - 1) + 8 → uL (uL (uL s 79 (11 * (c - 1) + 7) (s 79 (11 * (c - 1) + 7) + 1)) 85 0 1) 79 (11 * (c - 1) + 8) 1 79 i = s 79 i := fun i q1 q2 => by rw [uL_i q2, uL_o (by decide), uL_i q1]
      refine ⟨_, nc, rfl, (PnX.k (by decide) w2).tr (PnX.k (by decide) ((sI_o (by decide)).trans w2)), Nat.le_succ _, c, cm, ?_, ⟨?_, ?_, ?_, ?_, fun i hi => ?_, fun j hj hjp => ?_, ?_, fun _ q => ?_, fun i hi => ?_, a2.bd, a2.cj⟩, a3.mv (fun f i q => by rw [sI_o (by omega), sI_o (by omega)]) (so _ _ (by decide) (by decide)), a4.mv (by omega) (fun f i q _ => by rw [sI_o (by omega), sI_o (by omega)]) (fun i _ => rfl) (fun i => so _ _ (by decide) (by decide)) (fun i => so _ _ (by decide) (by decide)), a5.mv (fun _ => rfl) (fun i => sk _ (by omega) (by omega))⟩
      · exact ⟨by rw [sI_o (by decide), sI_o (by decide), so _ _ (by decide) (by decide)]; exact a1.wk, by rw [sI_o (by decide), sI_o (by decide), so _ _ (by decide) (by decide)]; exact a1.aw, by rw [sI_o (by decide), sI_o (by decide), so _ _ (by decide) (by decide)]; exact a1.sh, by rw [sI_o (by decide), sI_o (by decide), so _ _ (by decide) (by decide)]; exact a1.us, by rw [sI_o (by decide), sI_o (by decide), so _ _ (by decide) (by decide)]; exact a1.lf, by rw [sI_o (by decide), sI_o (by decide), so _ _ (by decide) (by decide)]; exact a1.me, by rw [sI_o (by decide), sI_o (by decide), so _ _ (by decide) (by decide)]; exact a1.re⟩
      · rw [so _ _ (by decide) (by decide)]
        exact a2.cc
      · rw [sI_o (by decide), sI_o (by decide)]
        exact a2.cn
      · rw [sI_o (by decide), sI_o (by decide)]
        exact a2.la
      · rw [sI_o (by decide), sI_o (by decide)]
        exact a2.nc
      · obtain ⟨v1, v2, v3, v4⟩ := a2.cl i hi
        refine ⟨v1, by rw [sI_o (by decide), sI_o (by decide)]; exact v2, by rw [sI_o (by decide), sI_o (by decide)]; exact v3, ?_⟩
        by_cases z : i = c - 1
        · subst z
          refine ⟨by rw [sI_o (by decide), sI_o (by decide), sk _ (by omega) (by omega), z0], by rw [sI_o (by decide), sI_o (by decide), sk _ (by omega) (by omega), z1], by rw [sI_o (by decide), sI_o (by decide), sk _ (by omega) (by omega), z2], by rw [sI_o (by decide), sI_o (by decide), sk _ (by omega) (by omega), z3], by rw [sI_o (by decide), sI_o (by decide), sk _ (by omega) (by omega), z4], by rw [sI_o (by decide), sI_o (by decide), sk _ (by omega) (by omega), z5], ?_, ?_, by rw [sI_o (by decide), sI_o (by decide), sk _ (by omega) (by omega), z9], by rw [sI_o (by decide), sI_o (by decide), sk _ (by omega) (by omega), z10]⟩
          · rw [sI_s, uL_i (by omega), uL_o (by decide), uL_s]
            exact congrArg (· + 1) z7
          · rw [sI_o (by decide), sI_s, uL_s, if_pos rfl]
        · have ne : cm i ≠ cm (c - 1) := fun y => z (a2.cj i (c - 1) hi (by omega) y)
          refine v4.mv (fun f q => ?_) (fun k hk => sk _ (by omega) (by omega))
          rw [sI_1, if_neg (fun y => ne y.2.2.2), sI_1, if_neg (fun y => ne y.2.2.2)]
      · rw [sI_o (by decide), sI_o (by decide)] at hjp
        exact a2.cv j hj hjp
      · rw [if_neg c0, sI_o (by decide), sI_s, if_pos rfl, uL_o (by decide), uL_s]
      · rw [sI_o (by decide), sI_s] at q
        exact absurd rfl q
      · rw [sI_o (by decide), sI_i (fun y => by have := a2.cj i (c - 1) (by omega) (by omega) y; omega)]
        exact a2.ol i hi
