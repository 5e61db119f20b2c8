/-! reading expressions, level by level -/
def BOk (fX fM : St → Option St) (t : Nat) : Prop := ∀ σ μ, BS t σ μ → fX σ = some σ ∧ fM μ = some μ
def StepOp (N n t : Nat) (tp : Nat → Nat) (sX sM : St → Option St) (gX : Nat → Int32 → St → Option St) (gM : Nat → St → Option St) : Prop :=
  ∀ m i σ μ tk b a L C, i ≤ b → GS tp n t σ μ tk b a L C →
    (gX (m + 1) (nI i) σ = some σ ∧ gM (m + 1) μ = some μ) ∨
    (tk ≠ .fin ∧ ∃ o, (1 ≤ o ∧ o ≤ 8) ∧
      (gX (m + 1) (nI i) σ = bn1 (fReader_advance N σ) fun σ2 => bn1 (sX σ2) fun σ3 => chk (inb (σ3.1 121 0 0 0) 17) <| bn1 (fAct_emit N (σ3.1 121 0 0 0).toNatClampNeg (sg o) σ3) fun σ4 => gX m (nI (i + 1)) σ4) ∧
      (gM (m + 1) μ = bn1 (fM_step N μ) fun μ2 => bn1 (sM μ2) fun μ3 => bn1 (fM_emit N (nI o) μ3) fun μ4 => gM m μ4))
def StepB (t : Nat) (gX : Nat → Int32 → St → Option St) (gM : Nat → St → Option St) : Prop := ∀ m i σ μ, BS t σ μ → gX (m + 1) i σ = some σ ∧ gM (m + 1) μ = some μ
theorem PostE.act {tp : Nat → Nat} {H n t b L C : Nat} {σ μ σ' μ' : St} (h : PostE tp H n t b L C σ μ σ' μ') : σ'.1 121 0 0 0 = nI t ∧ t < 17 := by
  rcases h.2.2 with h | ⟨-, tk, b', a', e, h, -⟩
  · exact ⟨h.tX, h.ht⟩
  · exact ⟨h.ps.tX, h.ps.ht⟩
theorem lvl_loop {N n t Hs b L C : Nat} {tp : Nat → Nat} {sX sM : St → Option St} {gX : Nat → Int32 → St → Option St} {gM : Nat → St → Option St} (hN : 2000 ≤ N) (hs : SubOk sX sM tp n t Hs) (hso : StepOp N n t tp sX sM gX gM) (hsb : StepB t gX gM) (hL : L ≤ b) (hC : 2 * C ≤ 3 * b) :
    ∀ (d m i : Nat) (σ μ : St) (tk : Tok) (b' a' : Nat) (e : Ex), n - e.cX.length ≤ d → d < m → i ≤ e.cX.length → SegAt tp (Hs + 1) n t b L C σ μ tk b' a' e → ∃ σ' μ', gX m (nI i) σ = some σ' ∧ gM m μ = some μ' ∧ PostE tp (Hs + 1) n t b L C σ μ σ' μ' := by
  intro d
  induction d with
  | zero =>
    intro m i σ μ tk b' a' e h1 h2 h3 h
    obtain ⟨m, rfl⟩ : ∃ q, m = q + 1 := ⟨m - 1, by omega⟩
    obtain ⟨g, q1, q2, q3, q4, q5, q6⟩ := h
    rcases hso m i σ μ tk b' a' _ _ (by omega) g with ⟨x1, x2⟩ | ⟨hf, -⟩
    · exact ⟨σ, μ, x1, x2, PFX.rf, PFM.rf, Or.inr ⟨fun _ _ => rfl, tk, b', a', e, g, q1, q2, q3, q4, q5, q6⟩⟩
    · exfalso
      obtain ⟨n1, n2, n3⟩ := g.ps.bn
      rcases g.ps.hp with q | q
      · exact hf q.1
      · omega
  | succ d ih =>
    intro m i σ μ tk b' a' e h1 h2 h3 h
    obtain ⟨m, rfl⟩ : ∃ q, m = q + 1 := ⟨m - 1, by omega⟩
    obtain ⟨g, q1, q2, q3, q4, q5, q6⟩ := h
    rcases hso m i σ μ tk b' a' _ _ (by omega) g with ⟨x1, x2⟩ | ⟨hf, o, ho, x1, x2⟩
    · exact ⟨σ, μ, x1, x2, PFX.rf, PFM.rf, Or.inr ⟨fun _ _ => rfl, tk, b', a', e, g, q1, q2, q3, q4, q5, q6⟩⟩
    · obtain ⟨n1, n2, n3⟩ := g.ps.bn
      have hba : b' < a' := by
        rcases g.ps.hp with q | q
        · exact absurd q.1 hf
        · exact q.2
      obtain ⟨tk2, b2, a2, σ1, μ1, k1, k2, k3, k4, k5, k6⟩ := rstep_e hN g
      obtain ⟨σ2, μ2, j1, j2, j3⟩ := hs σ1 μ1 tk2 b2 a2 _ _ k3 (by omega) (by omega)
      obtain ⟨act, ht⟩ := j3.act
      obtain ⟨σ3, μ3, i1, i2, i3, i4, i5⟩ := bin_e (N := N) (o := o) (σ := σ) (μ := μ) ho hL hC ht q3 q4 (by omega) (by omega) (At_eq _ _ (fun j _ _ => k5.1 _ _ _ _ (by decide)) q5) (At_eq _ _ (fun j _ _ => k6.1 _ _ _ _ (by decide)) q6) j3
      rw [k1, bn1_e, j1, bn1_e, act, chk_t (inb_n ht (by decide)), nI_clamp (by omega), i1, bn1_e] at x1
      rw [k2, bn1_e, j2, bn1_e, i2, bn1_e] at x2
      have p1 : PFX t σ σ3 := (k5.pX lexX_rd).tr i3
      have p2 : PFM t C μ μ3 := (Fx.pM (L := C) k6 lexM_rd (by decide)).tr i4 (Nat.le_refl _)
      rcases i5 with i5 | ⟨i5, tk3, b3, a3, e3, i6, i7⟩
      · obtain ⟨m, rfl⟩ : ∃ q, m = q + 1 := ⟨m - 1, by omega⟩
        obtain ⟨y1, y2⟩ := hsb m (nI (i + 1)) σ3 μ3 i5
        exact ⟨σ3, μ3, x1.trans y1, x2.trans y2, p1, p2, Or.inl i5⟩
      · rw [show max (Hs + 1) (1 + Hs) = Hs + 1 by omega] at i6
        obtain ⟨σ4, μ4, y1, y2, y3, y4, y5⟩ := ih m (i + 1) σ3 μ3 tk3 b3 a3 e3 (by omega) (by omega) (by omega) i6
        refine ⟨σ4, μ4, x1.trans y1, x2.trans y2, p1.tr y3, p2.tr y4 (Nat.le_refl _), ?_⟩
        rcases y5 with y5 | ⟨y5, y6⟩
        · exact Or.inl y5
        · exact Or.inr ⟨((k5.ck (L := L) (by decide)).tr i5 (Nat.le_refl _)).tr y5 (Nat.le_refl _), y6⟩
/-- a level: a first part, then operators with parts -/
theorem lvl_e {N n t Hs : Nat} {tp : Nat → Nat} {sX sM : St → Option St} {gX : Nat → Int32 → St → Option St} {gM : Nat → St → Option St} (hN : 2000 ≤ N) (hs : SubOk sX sM tp n t Hs) (hso : StepOp N n t tp sX sM gX gM) (hsb : StepB t gX gM) :
    SubOk (fun σ => bn1 (sX σ) fun σ1 => gX N 0 σ1) (fun μ => bn1 (sM μ) fun μ1 => gM N μ1) tp n t (Hs + 1) := by
  intro σ μ tk b a L C g hL hC
  obtain ⟨σ1, μ1, j1, j2, j3, j4, j5⟩ := hs σ μ tk b a L C g hL hC
  rcases j5 with j5 | ⟨j5, tk2, b2, a2, e, j6⟩
  · obtain ⟨M, rfl⟩ : ∃ q, N = q + 1 := ⟨N - 1, by omega⟩
    obtain ⟨y1, y2⟩ := hsb M 0 σ1 μ1 j5
    exact ⟨σ1, μ1, by dsimp only; rw [j1, bn1_e, y1], by dsimp only; rw [j2, bn1_e, y2], j3, j4, Or.inl j5⟩
  · obtain ⟨g2, q1, q2, q3, q4, q5, q6⟩ := j6
    obtain ⟨n1, n2, n3⟩ := g2.ps.bn
    obtain ⟨σ4, μ4, y1, y2, y3, y4, y5⟩ := lvl_loop hN hs hso hsb hL hC n N 0 σ1 μ1 tk2 b2 a2 e (by omega) (by omega) (by omega) ⟨g2, q1, q2, q3, by omega, q5, q6⟩
    refine ⟨σ4, μ4, by dsimp only; rw [j1, bn1_e]; exact y1, by dsimp only; rw [j2, bn1_e]; exact y2, j3.tr y3, j4.tr y4 (Nat.le_refl _), ?_⟩
    rcases y5 with y5 | ⟨y5, y6⟩
    · exact Or.inl y5
    · exact Or.inr ⟨j5.tr y5 (Nat.le_refl _), y6⟩
theorem lvl_b {N t : Nat} {sX sM : St → Option St} {gX : Nat → Int32 → St → Option St} {gM : Nat → St → Option St} (hN : 1 ≤ N) (hb : BOk sX sM t) (hsb : StepB t gX gM) : BOk (fun σ => bn1 (sX σ) fun σ1 => gX N 0 σ1) (fun μ => bn1 (sM μ) fun μ1 => gM N μ1) t := by
  intro σ μ h
  obtain ⟨M, rfl⟩ : ∃ q, N = q + 1 := ⟨N - 1, by omega⟩
  obtain ⟨a1, a2⟩ := hb σ μ h
  obtain ⟨y1, y2⟩ := hsb M 0 σ μ h
  exact ⟨by dsimp only; rw [a1, bn1_e, y1], by dsimp only; rw [a2, bn1_e, y2]⟩
/-- a token with which no expression begins -/
def nst (tk : Tok) : Prop := (∀ w, tk ≠ .word w) ∧ (∀ l v, tk ≠ .num l v) ∧ tk ≠ .sign 40
def NsOk (N n t : Nat) (tp : Nat → Nat) (fX : St → Option St) : Prop := ∀ σ μ tk b a L C, GS tp n t σ μ tk b a L C → L ≤ 600 → nst tk → ∃ σ' μ', fX σ = some σ' ∧ fM_wrong N 1 μ = some μ' ∧ BS t σ' μ' ∧ PFX t σ σ' ∧ Fx fltM μ μ'
theorem lvl_n {N n t : Nat} {tp : Nat → Nat} {sX : St → Option St} {gX : Nat → Int32 → St → Option St} {gM : Nat → St → Option St} (hN : 1 ≤ N) (hs : NsOk N n t tp sX) (hsb : StepB t gX gM) : NsOk N n t tp (fun σ => bn1 (sX σ) fun σ1 => gX N 0 σ1) := by
  intro σ μ tk b a L C g hL hn
  obtain ⟨σ', μ', h1, h2, h3, h4, h5⟩ := hs σ μ tk b a L C g hL hn
  obtain ⟨M, hM⟩ : ∃ q, N = q + 1 := ⟨N - 1, by omega⟩
  have y1 := (hsb M 0 σ' μ' h3).1
  rw [← hM] at y1
  exact ⟨σ', μ', by dsimp only; rw [h1, bn1_e, y1], h2, h3, h4, h5⟩
