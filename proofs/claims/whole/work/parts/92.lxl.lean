/-! the class gives the life of a person, worked up to the day -/
theorem evN_cn {μ : St} {p k : Nat} (n : Nat) : evN (evM μ p k) n ≤ cnM μ := by
  have h := evN_le (dy := dyM μ) (EV := EVM μ p k) (l := (LL (slM μ p k) (dyM μ) (cnM μ)).reverse) (ev := evM μ p k) (fun d => by rw [LL_fil]; rfl) n
  have h2 := List.length_filter_le (fun e => decide (dyM μ e < 312 + n)) (LL (slM μ p k) (dyM μ) (cnM μ)).reverse
  have h3 := LL_len (slM μ p k) (dyM μ) (cnM μ)
  rw [List.length_reverse] at h2
  omega
theorem lifeOf_b {N v p n on : Nat} {TC : Nat → List Cl} {σ μ : St} (hN : 700 ≤ N) (hE : Eq1 σ μ) (hR : Rng μ) (hI : EvI μ) (hp : p < 20) (ho1 : 311 ≤ on) (ho2 : on < 936) (ho : σ.1 147 v 0 0 = nI on) (hL : LawX v (TCn TC n) (frM μ) (toM μ) n σ) (hT : TxX (TCn TC n) (frM μ) (toM μ) n σ) (hn : n ≤ 17) (hper : σ.1 74 v p 0 = nI p) :
    ∃ σ', fView_lifeOf_43 N v (nI p) p σ = some ((v, p), σ') ∧ WfX v p σ σ' ∧ LfOK v p on (ENM μ TC p n on) μ (evM μ p on) σ' ∧ σ'.1 82 v p 0 = σ.1 53 0 0 p ∧ (∀ e, (cnM μ ≤ e ∨ peM μ e ≠ p) → σ'.1 144 v 0 e = σ.1 144 v 0 e) := by
  obtain ⟨nc, c1, c2, c3, c4, c5⟩ := hR.n (g := 218) (lo := 0) (hi := 160) 0 (by decide) (by decide)
  have hcn : cnM μ = nc := by unfold cnM; rw [c1, c3]
  obtain ⟨σ1, a1, a2, a3⟩ := begin_e2 (N := N) (v := v) (E := ENM μ TC p n on) (by omega) hp hper (hE.at (g := 214) p (by decide))
  obtain ⟨σ2, h2⟩ : ∃ σ2, σ2 = sI σ1 82 v p 0 (σ1.1 53 0 0 p) := ⟨_, rfl⟩
  have w2 : WfX v p σ σ2 := by rw [h2]; exact a2.wf.tr WfX.s
  have se2 : σ2.1 82 v p 0 = σ.1 53 0 0 p := by
    rw [h2, sI_s]
    exact a2.1 _ _ _ _ (fun q => absurd q.1.1 (by decide))
  obtain ⟨σ3, b1, b2, b3⟩ := copySt_e (N := N) (v := v) (p := p) (x := p) (k := on) (by omega) (w2.eq hE) hR
  have w3 : WfX v p σ σ3 := w2.tr b2.wf
  have on2 : σ2.1 147 v 0 0 = nI on := (w2.1 _ _ _ _ (fun z => absurd z.2.1 (by decide)) (fun z => absurd z.2.1 (by decide))).trans ho
  have on3 : σ3.1 147 v 0 0 = nI on := (w3.1 _ _ _ _ (fun z => absurd z.2.1 (by decide)) (fun z => absurd z.2.1 (by decide))).trans ho
  obtain ⟨σ4, d1, d2, d3, d4, d5⟩ := list_loop (N := N) (v := v) (p := p) (cnt := cnM μ) (on := on) (pe := peM μ) (dy := dyM μ) (kd := kdM μ) (nu := nuM μ) (kw := kwM μ on) (by omega) hp (fun e he h8 => (hI e he).2.2.2.1 h8) (cnM μ) 0 N σ3 (by omega) (by omega) (BX.mk (w3.eq hE) hR) on3 trivial (fun q hq => absurd hq (by omega))
  obtain ⟨r, hr⟩ : ∃ r, r = LL (slM μ p on) (dyM μ) (cnM μ) := ⟨_, rfl⟩
  have lr : r.length ≤ cnM μ := by rw [hr]; exact LL_len _ _ _
  have mr : ∀ x ∈ r, x < cnM μ ∧ slM μ p on x = true := by rw [hr]; exact LL_mem _ _ _
  have sr : r.Pairwise (fun a b => dyM μ b ≤ dyM μ a) := by rw [hr]; exact LL_sort _ _ _
  have fr : ∀ d, evM μ p on d = (r.reverse.filter (fun e => decide (dyM μ e = d))).map (EVM μ p on) := fun d => by rw [hr, LL_fil]; rfl
  have d1' : fView_listEvents N v (nI p) σ3 = some (nI r.length, σ4) := by rw [hr]; exact d1
  have d3' : Rep (fun i => σ4.1 146 v 0 i) r := by rw [hr]; exact d3
  have w4 : WfX v p σ σ4 := w3.tr d2.wf
  have on4 : σ4.1 147 v 0 0 = nI on := (w4.1 _ _ _ _ (fun z => absurd z.2.1 (by decide)) (fun z => absurd z.2.1 (by decide))).trans ho
  have st4 : ∀ w, w < 156 → σ4.1 80 v p w = stOf μ p on w := fun w hw => (d2.1 _ _ _ _ (fun z => absurd z.1 (by decide))).trans (b3 w hw)
  have E4 : EX v p n (ENM μ TC p n on) σ4 := EX.mk (w4.eq hE) (w4.law hL) (w4.tx hT) hn hp ((w4.1 _ _ _ _ (fun z => absurd z.1 (by decide)) (fun z => absurd z.1 (by decide))).trans hper) st4
  have lf : ∀ f i, lfq f → sl v p σ4 f i = sl v p σ1 f i := fun f i q => by
    unfold sl
    by_cases z : slr f
    · rw [if_pos z, if_pos z, d2.1 _ _ _ _ (fun y => by have := q.1; omega), b2.1 _ _ _ _ (fun y => q.2.1 y.1), h2, sI_o q.2.2]
    · rw [if_neg z, if_neg z]
  have sb := sBegin_r lf a3
  have up4 : σ4.1 83 v p 0 = 311 := (sb 83 0).symm
  obtain ⟨σ', i1, i2, i3, i4⟩ := days_loop (N := N) (v := v) (p := p) (n := n) (on := on) (E := ENM μ TC p n on) (EV := EVM μ p on) (dy := dyM μ) (ev := evM μ p on) (s0 := sl v p σ4) (D := DoX v σ4) hN ho2 (on - 311) 312 0 N r.reverse σ4 (by omega) (by omega) (by omega) (List.pairwise_reverse.mpr sr) (fun e he => (hI e (mr e (List.mem_reverse.mp he)).1).1) (by rw [List.length_reverse]; omega) E4 (fun e he => by
    obtain ⟨m1, m2⟩ := mr e (List.mem_reverse.mp he)
    simp only [slM, Bool.and_eq_true, decide_eq_true_eq, Bool.not_eq_true', decide_eq_false_iff_not] at m2
    exact EvX.mk (w4.eq hE) hR hI m1 m2.2 (d4 e m1 m2.1.1).2) (fun j e he => by
    rw [Nat.zero_add]
    exact Rep_get r d3' j e he) (fun d' _ _ => fr d') on4 (funext fun f => funext fun i => (sb f i).symm) rfl (Nat.le_trans (evN_cn _) (by omega))
  refine ⟨σ', ?_, w4.tr i2.wf, ⟨sl v p σ4, ?_, fun e he hpe => ?_, fun w hw => ?_⟩, ?_, fun e he => ?_⟩
  · unfold fView_lifeOf_43
    rw [a1, bn1_e, chk_t (inb_n hp (by decide)), nmx, nI_clamp (by omega), ← h2, on2, b1, bn1_e, d1', bnd_e]
    unfold fView_lifeOf_82
    rw [nmx, up4]
    rw [List.length_reverse, Nat.zero_add] at i1
    exact i1
  · rw [i3, show on + 1 - 312 = on - 311 by omega]
  · have := congrFun i4 e
    rw [show on + 1 - 312 = on - 311 by omega] at this
    refine this.trans (LDo_at ?_ _)
    exact (d4 e he hpe).1
  · rw [i2.1 _ _ _ _ (fun q => q.1.2.1 rfl) (fun q => absurd q.1 (by decide))]
    exact st4 w hw
  · rw [i2.1 _ _ _ _ (fun q => q.1.2.2 rfl) (fun q => absurd q.1 (by decide)), d2.1 _ _ _ _ (fun z => absurd z.1 (by decide)), b2.1 _ _ _ _ (fun z => absurd z.1 (by decide)), se2]
  · have := congrFun i4 e
    have o : LDo (ENM μ TC p n on) (evM μ p on) (sl v p σ4) (DoX v σ4) (on + 1 - 312) e = DoX v σ4 e := LDo_out (fun d x hx => by
      obtain ⟨y, y1, y2⟩ := List.mem_map.mp hx
      obtain ⟨y3, y4⟩ := List.mem_filter.mp y1
      simp only [slM, Bool.and_eq_true, decide_eq_true_eq] at y4
      rw [← y2]
      show y ≠ e
      intro z
      rcases he with q | q
      · have := List.mem_range.mp y3
        omega
      · exact q (by rw [← z]; exact y4.1.1.1)) _
    refine (this.trans o).trans ((d5 e he).trans ?_)
    rw [b2.1 _ _ _ _ (fun z => absurd z.1 (by decide)), h2, sI_o (by decide)]
    exact a2.1 _ _ _ _ (fun z => absurd z.1.1.2 (by decide))
/-- a life goes on, or begins anew -/
theorem lifeOf_e {N v p n on : Nat} {TC : Nat → List Cl} {σ μ : St} (hN : 700 ≤ N) (hE : Eq1 σ μ) (hR : Rng μ) (hI : EvI μ) (hp : p < 20) (ho1 : 311 ≤ on) (ho2 : on < 936) (ho : σ.1 147 v 0 0 = nI on) (hL : LawX v (TCn TC n) (frM μ) (toM μ) n σ) (hT : TxX (TCn TC n) (frM μ) (toM μ) n σ) (hn : n ≤ 17) (hper : σ.1 74 v p 0 = nI p)
    (hs : σ.1 82 v p 0 = σ.1 53 0 0 p → ∃ u, 311 ≤ u ∧ u < 936 ∧ σ.1 83 v p 0 = nI u ∧ (σ.1 142 v 0 0 = 0 → u = on → LfOK v p on (ENM μ TC p n on) μ (evM μ p on) σ) ∧ (σ.1 142 v 0 0 ≠ 0 → u ≤ on ∧ LfOK v p u (ENM μ TC p n on) μ (evM μ p on) σ ∧ ∀ e, e < cnM μ → peM μ e = p → dyM μ e ≤ u)) :
    ∃ σ', fView_lifeOf N v (nI p) σ = some ((v, p), σ') ∧ WfX v p σ σ' ∧ LfOK v p on (ENM μ TC p n on) μ (evM μ p on) σ' ∧ σ'.1 82 v p 0 = σ.1 53 0 0 p ∧ σ'.1 83 v p 0 = nI on ∧ (∀ e, (cnM μ ≤ e ∨ peM μ e ≠ p) → σ'.1 144 v 0 e = σ.1 144 v 0 e) := by
  have up : ∀ {σ' : St}, LfOK v p on (ENM μ TC p n on) μ (evM μ p on) σ' → σ'.1 83 v p 0 = nI on := by
    rintro σ' ⟨s0, h, -⟩
    have h1 : sl v p σ' 83 0 = LRun (ENM μ TC p n on) (evM μ p on) s0 (on - 311) 83 0 := by rw [h]
    rw [LRun_u _ (by omega), show 311 + (on - 311) = on by omega] at h1
    exact h1
  have anew : ∀ x, x = fView_lifeOf_43 N v (nI p) p σ → ∃ σ', x = some ((v, p), σ') ∧ WfX v p σ σ' ∧ LfOK v p on (ENM μ TC p n on) μ (evM μ p on) σ' ∧ σ'.1 82 v p 0 = σ.1 53 0 0 p ∧ σ'.1 83 v p 0 = nI on ∧ (∀ e, (cnM μ ≤ e ∨ peM μ e ≠ p) → σ'.1 144 v 0 e = σ.1 144 v 0 e) := by
    intro x hx
    obtain ⟨σ', h1, h2, h3, h4, h5⟩ := lifeOf_b hN hE hR hI hp ho1 ho2 ho hL hT hn hper
    exact ⟨σ', by rw [hx, h1], h2, h3, h4, up h3, h5⟩
  unfold fView_lifeOf
  rw [chk_t (inb_n hp (by decide)), nI_clamp (by omega)]
  by_cases c1 : σ.1 82 v p 0 = σ.1 53 0 0 p
  · obtain ⟨u, u1, u2, u3, u4, u5⟩ := hs c1
    rw [if_pos c1, show σ.1 83 v p 0 = nI u from u3, show σ.1 147 v 0 0 = nI on from ho]
    have stay : ∀ x, x = fView_lifeOf_82 N v p 0 σ → u ≤ on → LfOK v p u (ENM μ TC p n on) μ (evM μ p on) σ → (u = on ∨ ∀ e, e < cnM μ → peM μ e = p → dyM μ e ≤ u) → ∃ σ', x = some ((v, p), σ') ∧ WfX v p σ σ' ∧ LfOK v p on (ENM μ TC p n on) μ (evM μ p on) σ' ∧ σ'.1 82 v p 0 = σ.1 53 0 0 p ∧ σ'.1 83 v p 0 = nI on ∧ (∀ e, (cnM μ ≤ e ∨ peM μ e ≠ p) → σ'.1 144 v 0 e = σ.1 144 v 0 e) := by
      intro x hx hu hk hd
      obtain ⟨s0, k1, k2, k3⟩ := hk
      have E0 : EX v p n (ENM μ TC p n on) σ := EX.mk hE hL hT hn hp hper k3
      obtain ⟨nc, e1, e2, e3, e4, e5⟩ := hR.n (g := 218) (lo := 0) (hi := 160) 0 (by decide) (by decide)
      have hcn : cnM μ = nc := by unfold cnM; rw [e1, e3]
      obtain ⟨D, hD⟩ : ∃ D : Nat → Int32, D = fun e => if e < cnM μ ∧ peM μ e = p then 0 else σ.1 144 v 0 e := ⟨_, rfl⟩
      have out : ∀ e, ¬ (e < cnM μ ∧ peM μ e = p) → ∀ m, LDo (ENM μ TC p n on) (evM μ p on) s0 D m e = D e := fun e he m => LDo_out (fun d x hx => by
        obtain ⟨y, y1, y2⟩ := List.mem_map.mp hx
        obtain ⟨y3, y4⟩ := List.mem_filter.mp y1
        simp only [slM, Bool.and_eq_true, decide_eq_true_eq] at y4
        rw [← y2]
        show y ≠ e
        intro z
        exact he ⟨by rw [← z]; exact List.mem_range.mp y3, by rw [← z]; exact y4.1.1.1⟩) _
      have hd0 : DoX v σ = LDo (ENM μ TC p n on) (evM μ p on) s0 D (u + 1 - 312) := funext fun e => by
        by_cases c : e < cnM μ ∧ peM μ e = p
        · rw [show u + 1 - 312 = u - 311 by omega]
          exact (k2 e c.1 c.2).trans (LDo_at (by rw [hD]; exact (if_pos c).symm) _)
        · rw [out e c, hD]
          exact (if_neg c).symm
      obtain ⟨σ', i1, i2, i3, i4⟩ := days_loop (N := N) (v := v) (p := p) (n := n) (on := on) (E := ENM μ TC p n on) (EV := EVM μ p on) (dy := dyM μ) (ev := evM μ p on) (s0 := s0) (D := D) hN ho2 (on - u) (u + 1) 0 N [] σ (by omega) (by omega) (by omega) List.Pairwise.nil (fun e he => absurd he (by simp)) (by decide) E0 (fun e he => absurd he (by simp)) (fun j e he => absurd he (by simp)) (fun d' q1 q2 => by
        show ((List.range (cnM μ)).filter (fun e => slM μ p on e && decide (dyM μ e = d'))).map (EVM μ p on) = []
        rw [fil_none]
        · rfl
        · intro e he
          have he' := List.mem_range.mp he
          rcases hd with z | z
          · omega
          · by_cases y : peM μ e = p
            · have := z e he' y
              rw [show decide (dyM μ e = d') = false from decide_eq_false (by omega), Bool.and_false]
            · unfold slM
              rw [show decide (peM μ e = p) = false from decide_eq_false y, Bool.false_and, Bool.false_and, Bool.false_and]) ho (by rw [k1, show u + 1 - 312 = u - 311 by omega]) hd0 (Nat.le_trans (evN_cn _) (by omega))
      have ok : LfOK v p on (ENM μ TC p n on) μ (evM μ p on) σ' := by
        refine ⟨s0, ?_, fun e he hpe => ?_, fun w hw => ?_⟩
        · rw [i3, show on + 1 - 312 = on - 311 by omega]
        · have := congrFun i4 e
          rw [show on + 1 - 312 = on - 311 by omega] at this
          exact this.trans (LDo_at (by rw [hD]; exact if_pos ⟨he, hpe⟩) _)
        · rw [i2.1 _ _ _ _ (fun q => q.1.2.1 rfl) (fun q => absurd q.1 (by decide))]
          exact k3 w hw
      refine ⟨σ', ?_, i2.wf, ok, ?_, up ok, fun e he => ?_⟩
      · rw [hx]
        unfold fView_lifeOf_82
        rw [nmx, show σ.1 83 v p 0 = nI u from u3, nI_1]
        exact i1
      · rw [i2.1 _ _ _ _ (fun q => q.1.2.2 rfl) (fun q => absurd q.1 (by decide)), c1]
      · have := congrFun i4 e
        have c : ¬ (e < cnM μ ∧ peM μ e = p) := fun q => by
          rcases he with z | z
          · omega
          · exact z q.2
        refine (this.trans (out e c _)).trans ?_
        rw [hD]
        exact if_neg c
    by_cases c2 : u = on
    · rw [if_pos (by rw [c2])]
      by_cases c3 : σ.1 142 v 0 0 = 0
      · exact stay _ rfl (Nat.le_of_eq c2) (by have := u4 c3 c2; rw [c2]; exact this) (Or.inl c2)
      · exact stay _ rfl (u5 c3).1 (u5 c3).2.1 (Or.inl c2)
    · rw [if_neg (fun q => c2 ((nI_eq (by omega) (by omega)).mp q))]
      by_cases c3 : σ.1 142 v 0 0 = 0
      · rw [show σ.1 142 v 0 0 = 0 from c3, if_pos rfl]
        exact anew _ rfl
      · rw [if_neg (show ¬ σ.1 142 v 0 0 = 0 from c3)]
        exact stay _ rfl (u5 c3).1 (u5 c3).2.1 (Or.inr (u5 c3).2.2)
  · rw [if_neg c1]
    exact anew _ rfl
