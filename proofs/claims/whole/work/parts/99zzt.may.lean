/-! a row is placed: one more -/
theorem insU_le {Q : Nat → Bool} {j0 j : Nat} : insU Q j0 j = false → Q j = false := fun z => by
  unfold insU at z
  simp at z
  exact z.2
theorem reachFrom_e {N P V R C k j0 step : Nat} {G : Nat → Nat → Nat} {wh wr : Nat → Nat} {σ : St} (hN : 100 ≤ N) (h : PlS G P V R C wh wr k σ j0 step) (hk : k < R + C) (ht : 1 ≤ raX σ j0) : ∃ near σ', fSending_reachFrom N (nI j0) (sI σ 135 0 0 j0 1) = some (nI near, σ') ∧ plX σ σ' ∧ PlS G P V R C wh wr k σ' near (step + 1) := by
  have p2 := h.x.s.P2
  have v2 := h.x.s.V2
  have r2 := h.x.s.R2
  have c2 := h.x.s.C2
  have cb := cst_b h.x.s
  obtain ⟨bu, bw⟩ := h.g.bd hk cb
  obtain ⟨τ, hτ⟩ : ∃ τ, τ = sI σ 135 0 0 j0 1 := ⟨_, rfl⟩
  have tx : SX G P V R C wh wr τ := h.x.mv fun f a b i z => by rw [hτ, sI_o (by omega)]
  have to : ∀ f i, f ≠ 135 → τ.1 f 0 0 i = σ.1 f 0 0 i := fun f i z => by rw [hτ, sI_o z]
  have eu : rpX τ = rpX σ := funext fun i => by unfold rpX; rw [to _ _ (by decide)]
  have ew : cpX τ = cpX σ := funext fun i => by unfold cpX; rw [to _ _ (by decide)]
  have et : raX τ = raX σ := funext fun i => by unfold raX; rw [to _ _ (by decide)]
  have ef : fmX τ = fmX σ := funext fun i => by unfold fmX; rw [to _ _ (by decide)]
  have el : leX τ = leX σ := funext fun i => by unfold leX; rw [to _ _ (by decide)]
  have eq : reX τ = insU (reX σ) j0 := funext fun i => by
    unfold reX insU
    rw [hτ]
    by_cases z : i = j0
    · rw [z, sI_s]
      simp
    · rw [sI_i z]
      simp [z]
  have j0n := h.g.j0.1
  have tk : ∀ j, j ≤ R + C → raX σ j ≤ k + 1 := fun j a => by
    by_cases z : j = 0
    · rw [z, h.g.t0]; omega
    · have := h.g.t1 j (by omega) a
      omega
  have LF := h.g.lf hk cb ht
  obtain ⟨f, f1, f2, f3⟩ := freeC hk h.g.t1 h.g.inj
  have qm' : ∀ j, 1 ≤ j → j ≤ R + C → insU (reX σ) j0 j = true → 1 ≤ raX σ j := fun j a b z => by
    by_cases e : j = j0
    · rw [e]; exact ht
    · rw [insU_o e] at z
      exact h.g.qm j a b z
  have ff : insU (reX σ) j0 f = false := by
    cases z : insU (reX σ) j0 f with
    | false => rfl
    | true => have := qm' f f1 f2 z; omega
  have q0' : insU (reX σ) j0 0 = true := by
    rcases h.g.q0 with ⟨_, z, _⟩ | ⟨_, _, z⟩
    · rw [z]; exact insU_s _ _
    · unfold insU
      rw [z, Bool.or_true]
  obtain ⟨σa, near, way, a1, a2, a3, a4, a5, a6⟩ := reach16 (N := N) (i0 := raX σ j0) (j0 := j0) tx ht (by have := tk j0 j0n; omega) (by omega) (by rw [eu]; exact bu _ ht (tk j0 j0n)) (by rw [ew]; exact bw) (by
    rw [eq, el]
    intro j j1 j2 z
    by_cases s : step = 0
    · rw [h.g.le s j j1 j2]; exact Int.le_refl _
    · obtain ⟨l1, l2, l3, l4⟩ := h.g.la (by omega) j j1 j2 (insU_le z)
      have b1 := bw j j1 j2
      have b2 := cb (raX σ (fmX σ j)) j
      have pf : 1 ≤ raX σ (fmX σ j) := by
        by_cases y : fmX σ j = 0
        · rw [y, h.g.t0]; omega
        · exact h.g.qm _ (by omega) l2 l3
      have b3 := bu _ pf (tk _ l2)
      omega) (R + C) 1 N 0 τ 1000000000 (by omega) (by omega) (Nat.le_refl 1) (fun _ _ _ _ _ _ => rfl) rfl (fun j' a b => absurd a (by omega)) (fun _ _ => ⟨rfl, rfl⟩) (Or.inl ⟨rfl, rfl, fun j' a b => absurd a (by omega)⟩)
  rw [eq, eu, ew, el] at a4 a6
  rw [eq] at a5
  obtain ⟨n1, n2, n3, n4, n5⟩ := a6.resolve_left (fun z => by
    rw [z.2 f f1 f2] at ff
    exact absurd ff (by decide))
  have so : ∀ f i, f ≠ 133 → f ≠ 134 → f ≠ 135 → σa.1 f 0 0 i = σ.1 f 0 0 i := fun f i z1 z2 z3 => (a2 _ _ _ _ z1 z2).trans (to _ _ z3)
  have au : rpX σa = rpX σ := funext fun i => by unfold rpX; rw [so _ _ (by decide) (by decide) (by decide)]
  have aw : cpX σa = cpX σ := funext fun i => by unfold cpX; rw [so _ _ (by decide) (by decide) (by decide)]
  have at' : raX σa = raX σ := funext fun i => by unfold raX; rw [so _ _ (by decide) (by decide) (by decide)]
  have aq : reX σa = insU (reX σ) j0 := by
    rw [← eq]
    funext i
    unfold reX
    rw [a2 _ _ _ _ (by decide) (by decide)]
  have inj' : ∀ j j', j ≤ R + C → j' ≤ R + C → insU (reX σ) j0 j = true → insU (reX σ) j0 j' = true → raX σ j = raX σ j' → j = j' := fun j j' a b z z' e => by
    by_cases p : j = 0
    · by_cases q : j' = 0
      · omega
      · rw [p, h.g.t0] at e
        have := h.g.t1 j' (by omega) b
        omega
    · by_cases q : j' = 0
      · rw [q, h.g.t0] at e
        have := h.g.t1 j (by omega) a
        omega
      · exact h.g.inj j j' (by omega) a (by omega) b (qm' j (by omega) a z) e
  have lb : ∀ j, 1 ≤ j → j ≤ R + C → insU (reX σ) j0 j = false → -3000 ≤ leN (cst G R C wh wr) (rpX σ) (cpX σ) (raX σ j0) (leX σ) j ∧ leN (cst G R C wh wr) (rpX σ) (cpX σ) (raX σ j0) (leX σ) j ≤ 3000 := fun j j1 j2 z => by
    obtain ⟨l1, l2, l3, l4⟩ := LF j j1 j2 z
    have b1 := bw j j1 j2
    have b2 := cb (raX σ (fmN (cst G R C wh wr) (rpX σ) (cpX σ) (raX σ j0) j0 (leX σ) (fmX σ) j)) j
    have pf : 1 ≤ raX σ (fmN (cst G R C wh wr) (rpX σ) (cpX σ) (raX σ j0) j0 (leX σ) (fmX σ) j) := by
      by_cases y : fmN (cst G R C wh wr) (rpX σ) (cpX σ) (raX σ j0) j0 (leX σ) (fmX σ) j = 0
      · rw [y, h.g.t0]; omega
      · exact qm' _ (by omega) l2 l3
    have b3 := bu _ pf (tk _ l2)
    omega
  obtain ⟨σ', c1, c3, c4, c5, c6, c7, c8⟩ := reach109 (N := N) (n := R + C) (near := near) (σ0 := σa) (way := way) (by omega) ((so _ _ (by decide) (by decide) (by decide)).trans h.x.n) (fun j a => ⟨by rw [so _ _ (by decide) (by decide) (by decide), at']; exact h.t j a, by rw [at']; have := tk j a; omega⟩) (by rw [aq, at']; exact inj') (by rw [n4]; exact lb near n1 n2 n3) (by
    rw [aq, at', au]
    intro j a z
    have := bu (raX σ j) (by
      by_cases y : j = 0
      · rw [y, h.g.t0]; omega
      · exact qm' j (by omega) a z) (tk j a)
    omega) (by
    rw [aw]
    intro j j1 j2
    have := bw j j1 j2
    omega) (by
    rw [aq]
    intro j j1 j2 z
    rw [(a4 j j1 j2 z).1]
    exact lb j j1 j2 z) (by rw [aq]; exact q0') (R + C + 1) 0 N σa (by omega) (by omega) (fun _ _ _ _ _ _ _ => rfl) rfl (fun j' a b => absurd b (by omega)) (fun j' a b => absurd b (by omega)) (fun j' a => absurd a (by omega)) (fun _ _ => rfl) (fun _ _ => rfl) (fun _ _ => rfl)
  rw [aq, at'] at c7 c8
  rw [aq] at c5 c6
  rw [au] at c7 c8
  rw [aw] at c6
  have bt : raX σ' = raX σ := by
    rw [← at']
    funext i
    unfold raX
    rw [c3 _ _ _ _ (by decide) (by decide) (by decide)]
  have bq' : reX σ' = insU (reX σ) j0 := by
    rw [← aq]
    funext i
    unfold reX
    rw [c3 _ _ _ _ (by decide) (by decide) (by decide)]
  have f133 : ∀ i, σ'.1 133 0 0 i = σa.1 133 0 0 i := fun i => c3 _ _ _ _ (by decide) (by decide) (by decide)
  have fm1 : ∀ j, 1 ≤ j → j ≤ R + C → fmX σ' j = if insU (reX σ) j0 j = false then fmN (cst G R C wh wr) (rpX σ) (cpX σ) (raX σ j0) j0 (leX σ) (fmX σ) j else fmX σ j := fun j j1 j2 => by
    unfold fmX
    rw [f133]
    cases z : insU (reX σ) j0 j with
    | false =>
      rw [if_pos rfl, (a4 j j1 j2 z).2]
      unfold fmN
      by_cases y : cst G R C wh wr (raX σ j0) j - rpX σ (raX σ j0) - cpX σ j < leX σ j
      · rw [if_pos y, if_pos y, nI_clamp (by omega)]
      · rw [if_neg y, if_neg y, to _ _ (by decide)]
    | true =>
      rw [if_neg (by decide), a5 j z, to _ _ (by decide)]
  refine ⟨near, σ', ?_, ⟨fun f a b i z => ?_, c4.trans (a3.trans (by rw [hτ]; rfl))⟩, ?_, ?_, ?_, ?_⟩
  · show chk (inb (nI j0) 45) (nm (((sI σ 135 0 0 j0 1).1 131 0 0 (nI j0).toNatClampNeg)) fun (y1 : Int32) => fSending_reachFrom_16 N N (nI j0) y1 (nI 0) 1000000000 (nI 1) (sI σ 135 0 0 j0 1)) = _
    rw [chk_t (inb_n (by omega) (by decide)), nmx, nI_clamp (by omega), ← hτ, to _ _ (by decide), h.t j0 j0n, a1]
    exact c1
  · rw [c3 f a b i (by omega) (by omega) (by omega), a2 f a b i (by omega) (by omega), hτ, sI_o (by omega)]
  · exact h.x.mv fun f a b i z => by rw [c3 f a b i (by omega) (by omega) (by omega), a2 f a b i (by omega) (by omega), hτ, sI_o (by omega)]
  · rw [bt, bq']
    refine h.g.next hk cb ht (near := near) (way := way.toInt) n1 n2 n3 n4 n5 (fun j j1 j2 z => ?_) fm1 c6 c7 (fun i i1 i2 => c8 i i2)
    rw [c5 j j1 j2 z, (a4 j j1 j2 z).1]
  · intro j a
    rw [bt, c3 _ _ _ _ (by decide) (by decide) (by decide), so _ _ (by decide) (by decide) (by decide)]
    exact h.t j a
  · intro _ j j1 j2
    rw [fm1 j j1 j2, f133]
    cases z : insU (reX σ) j0 j with
    | false =>
      rw [if_pos rfl, (a4 j j1 j2 z).2]
      unfold fmN
      by_cases y : cst G R C wh wr (raX σ j0) j - rpX σ (raX σ j0) - cpX σ j < leX σ j
      · rw [if_pos y, if_pos y]
      · rw [if_neg y, if_neg y, to _ _ (by decide)]
        refine h.f ?_ j j1 j2
        refine Classical.byContradiction fun s => y ?_
        have e1 := h.g.le (by omega) j j1 j2
        have b1 := bw j j1 j2
        have b2 := cb (raX σ j0) j
        have b3 := bu _ ht (tk _ j0n)
        omega
    | true =>
      rw [if_neg (by decide), a5 j z, to _ _ (by decide)]
      refine h.f ?_ j j1 j2
      rcases h.g.q0 with ⟨s, e, e2⟩ | ⟨s, _, _⟩
      · by_cases y : j = j0
        · omega
        · rw [insU_o y, e2 j j2] at z
          exact absurd z (by decide)
      · exact s
/-- the way back: the column cc is to be given anew -/
abbrev WB (c : Nat → Nat → Int) (n k : Nat) (u w : Nat → Int) (t : Nat → Nat) (Q : Nat → Bool) (o : Nat → Nat) (t' : Nat → Nat) (cc : Nat) : Prop := (1 ≤ cc ∧ cc ≤ n) ∧ (∀ j, 1 ≤ j → j ≤ n → j ≠ cc → t' j ≤ k ∧ (1 ≤ t' j → u (t' j) + w j = c (t' j) j)) ∧ (∀ j j', 1 ≤ j → j ≤ n → j ≠ cc → 1 ≤ j' → j' ≤ n → j' ≠ cc → 1 ≤ t' j → t' j = t' j' → j = j') ∧ (∀ i, 1 ≤ i → i ≤ k → ∃ j, 1 ≤ j ∧ j ≤ n ∧ j ≠ cc ∧ t' j = i) ∧ (∀ j, 1 ≤ j → j ≤ n → j ≠ cc → t' j = 0 → t j = 0) ∧ (∀ j, j ≤ n → Q j = true → o j < o cc → t' j = t j)
theorem WB.c {c : Nat → Nat → Int} {n k : Nat} {u w : Nat → Int} {t : Nat → Nat} {Q : Nat → Bool} {o : Nat → Nat} {t' : Nat → Nat} {cc : Nat} (h : WB c n k u w t Q o t' cc) : 1 ≤ cc ∧ cc ≤ n := h.1
theorem WB.a {c : Nat → Nat → Int} {n k : Nat} {u w : Nat → Int} {t : Nat → Nat} {Q : Nat → Bool} {o : Nat → Nat} {t' : Nat → Nat} {cc : Nat} (h : WB c n k u w t Q o t' cc) : ∀ j, 1 ≤ j → j ≤ n → j ≠ cc → t' j ≤ k ∧ (1 ≤ t' j → u (t' j) + w j = c (t' j) j) := h.2.1
theorem WB.i {c : Nat → Nat → Int} {n k : Nat} {u w : Nat → Int} {t : Nat → Nat} {Q : Nat → Bool} {o : Nat → Nat} {t' : Nat → Nat} {cc : Nat} (h : WB c n k u w t Q o t' cc) : ∀ j j', 1 ≤ j → j ≤ n → j ≠ cc → 1 ≤ j' → j' ≤ n → j' ≠ cc → 1 ≤ t' j → t' j = t' j' → j = j' := h.2.2.1
theorem WB.on {c : Nat → Nat → Int} {n k : Nat} {u w : Nat → Int} {t : Nat → Nat} {Q : Nat → Bool} {o : Nat → Nat} {t' : Nat → Nat} {cc : Nat} (h : WB c n k u w t Q o t' cc) : ∀ i, 1 ≤ i → i ≤ k → ∃ j, 1 ≤ j ∧ j ≤ n ∧ j ≠ cc ∧ t' j = i := h.2.2.2.1
theorem WB.z {c : Nat → Nat → Int} {n k : Nat} {u w : Nat → Int} {t : Nat → Nat} {Q : Nat → Bool} {o : Nat → Nat} {t' : Nat → Nat} {cc : Nat} (h : WB c n k u w t Q o t' cc) : ∀ j, 1 ≤ j → j ≤ n → j ≠ cc → t' j = 0 → t j = 0 := h.2.2.2.2.1
theorem WB.o {c : Nat → Nat → Int} {n k : Nat} {u w : Nat → Int} {t : Nat → Nat} {Q : Nat → Bool} {o : Nat → Nat} {t' : Nat → Nat} {cc : Nat} (h : WB c n k u w t Q o t' cc) : ∀ j, j ≤ n → Q j = true → o j < o cc → t' j = t j := h.2.2.2.2.2
theorem WB.step {c : Nat → Nat → Int} {n k : Nat} {u w : Nat → Int} {t : Nat → Nat} {Q : Nat → Bool} {o t' t2 : Nat → Nat} {cc f : Nat} (W : WB c n k u w t Q o t' cc) (t1 : ∀ j, 1 ≤ j → j ≤ n → t j ≤ k) (qm : ∀ j, 1 ≤ j → j ≤ n → Q j = true → 1 ≤ t j) (f0 : 1 ≤ f) (fn : f ≤ n) (fQ : Q f = true) (fo : o f < o cc) (ft : u (t f) + w cc = c (t f) cc) (e1 : t2 cc = t' f) (e2 : ∀ j, j ≠ cc → t2 j = t' j) : WB c n k u w t Q o t2 f := by
  have tf := W.o f fn fQ fo
  have pf := qm f f0 fn fQ
  have lf := t1 f f0 fn
  have ne : f ≠ cc := fun e => by rw [e] at fo; omega
  refine ⟨⟨f0, fn⟩, fun j j1 j2 j3 => ?_, fun j j' j1 j2 j3 j4 j5 j6 j7 j8 => ?_, fun i i1 i2 => ?_, fun j j1 j2 j3 j4 => ?_, fun j j1 j2 j3 => ?_⟩
  · by_cases y : j = cc
    · rw [y, e1, tf]
      exact ⟨lf, fun _ => ft⟩
    · rw [e2 j y]
      exact W.a j j1 j2 y
  · by_cases y : j = cc
    · by_cases y' : j' = cc
      · omega
      · rw [y, e1, e2 j' y'] at j8
        exact absurd (W.i f j' f0 fn ne j4 j5 y' (by rw [tf]; exact pf) j8).symm j6
    · rw [e2 j y] at j7 j8
      by_cases y' : j' = cc
      · rw [y', e1] at j8
        exact absurd (W.i j f j1 j2 y f0 fn ne j7 j8) j3
      · rw [e2 j' y'] at j8
        exact W.i j j' j1 j2 y j4 j5 y' j7 j8
  · obtain ⟨j, j1, j2, j3, j4⟩ := W.on i i1 i2
    by_cases y : j = f
    · exact ⟨cc, W.c.1, W.c.2, fun e => ne e.symm, by rw [e1, ← j4, y]⟩
    · exact ⟨j, j1, j2, y, by rw [e2 j j3]; exact j4⟩
  · by_cases y : j = cc
    · rw [y, e1, tf] at j4
      omega
    · rw [e2 j y] at j4
      exact W.z j j1 j2 y j4
  · have y : j ≠ cc := fun e => by rw [e] at j3; omega
    rw [e2 j y]
    exact W.o j j1 j2 (by omega)
theorem WB.last {c : Nat → Nat → Int} {n k : Nat} {u w : Nat → Int} {t : Nat → Nat} {Q : Nat → Bool} {o t' t2 : Nat → Nat} {cc : Nat} (W : WB c n k u w t Q o t' cc) (f : ∀ i j, 1 ≤ i → i ≤ k + 1 → 1 ≤ j → j ≤ n → u i + w j ≤ c i j) (w0 : ∀ j, 1 ≤ j → j ≤ n → w j ≤ 0) (fr : ∀ j, 1 ≤ j → j ≤ n → t j = 0 → w j = 0) (u0 : ∀ i, k + 1 < i → i ≤ n → u i = 0) (ft : u (k + 1) + w cc = c (k + 1) cc) (bu : ∀ i, 1 ≤ i → i ≤ k + 1 → -1000 ≤ u i ∧ u i ≤ 1) (bw : ∀ j, 1 ≤ j → j ≤ n → -1001 ≤ w j ∧ w j ≤ 0) (e1 : t2 cc = k + 1) (e2 : ∀ j, j ≠ cc → t2 j = t' j) : HP c n (k + 1) u w t2 := by
  have wc := W.c
  refine ⟨fun j j1 j2 => ?_, fun j j1 j2 j3 => ?_, fun j j' j1 j2 j4 j5 j7 j8 => ?_, f, fun i i1 i2 => ?_, w0, fun j j1 j2 j3 => ?_, u0, bu, bw⟩
  · by_cases y : j = cc
    · rw [y, e1]; exact Nat.le_refl _
    · rw [e2 j y]
      have := (W.a j j1 j2 y).1
      omega
  · by_cases y : j = cc
    · rw [y, e1]; exact ft
    · rw [e2 j y] at j3 ⊢
      exact (W.a j j1 j2 y).2 j3
  · by_cases y : j = cc
    · by_cases y' : j' = cc
      · omega
      · rw [y, e1, e2 j' y'] at j8
        have := (W.a j' j4 j5 y').1
        omega
    · rw [e2 j y] at j7 j8
      by_cases y' : j' = cc
      · rw [y', e1] at j8
        have := (W.a j j1 j2 y).1
        omega
      · rw [e2 j' y'] at j8
        exact W.i j j' j1 j2 y j4 j5 y' j7 j8
  · by_cases y : i = k + 1
    · exact ⟨cc, wc.1, wc.2, by rw [e1, y]⟩
    · obtain ⟨j, j1, j2, j3, j4⟩ := W.on i i1 (by omega)
      exact ⟨j, j1, j2, by rw [e2 j j3]; exact j4⟩
  · by_cases y : j = cc
    · rw [y, e1] at j3
      omega
    · rw [e2 j y] at j3
      exact fr j j1 j2 (W.z j j1 j2 y j3)
