/-! a person's values in the reference, and a bar -/
theorem VM.congr {N : Nat} {μ : St} {vs vs' : Nat → Int64} (h : VM N μ vs) (e : ∀ k, k < 20 → vs k = vs' k) : VM N μ vs' := fun k hk μ' hm => by rw [← e k hk]; exact h k hk μ' hm
theorem ShM.mv2 {TC : Nat → List Cl} {s : Sheet} {μ μ' : St} (h : ShM TC s μ) (hm : ∀ f i, 262 ≤ f → f ≤ 265 → μ'.1 f 0 0 i = μ.1 f 0 0 i) : ShM TC s μ' := by
  obtain ⟨a, b, c, d, e⟩ := h
  exact ⟨Rep.eq _ (fun i _ => hm _ _ (by decide) (by decide)) a, (hm _ _ (by decide) (by decide)).trans b, fun w hw => by rw [hm _ _ (by decide) (by decide)]; exact c w hw, fun k hk => (hm _ _ (by decide) (by decide)).trans (d k hk), e⟩
abbrev Cx (N n p d : Nat) (E : Env) (fr to : Nat → Int32) (μ : St) : Prop := (TxM E.TC n μ) ∧ (n ≤ 17) ∧ (E.sh d = shOf E.TC fr to n d) ∧ (ShM E.TC (E.sh d) μ) ∧ (p < 20) ∧ (312 ≤ d) ∧ (d < 936) ∧ (μ.1 269 0 0 0 = nI d) ∧ (∀ μ' : St, (∀ f i, f < 262 → μ'.1 f 0 0 i = μ.1 f 0 0 i) → ∀ w, w < 156 → fM_stampsAt N (nI p) (nI w) μ' = some (E.st w)) ∧ (μ.1 212 0 0 p = E.age) ∧ (μ.1 211 0 0 p = E.trade)
theorem Cx.t {N n p d : Nat} {E : Env} {fr to : Nat → Int32} {μ : St} (h : Cx N n p d E fr to μ) : TxM E.TC n μ := h.1
theorem Cx.l {N n p d : Nat} {E : Env} {fr to : Nat → Int32} {μ : St} (h : Cx N n p d E fr to μ) : n ≤ 17 := h.2.1
theorem Cx.sh {N n p d : Nat} {E : Env} {fr to : Nat → Int32} {μ : St} (h : Cx N n p d E fr to μ) : E.sh d = shOf E.TC fr to n d := h.2.2.1
theorem Cx.h {N n p d : Nat} {E : Env} {fr to : Nat → Int32} {μ : St} (h : Cx N n p d E fr to μ) : ShM E.TC (E.sh d) μ := h.2.2.2.1
theorem Cx.p {N n p d : Nat} {E : Env} {fr to : Nat → Int32} {μ : St} (h : Cx N n p d E fr to μ) : p < 20 := h.2.2.2.2.1
theorem Cx.d1 {N n p d : Nat} {E : Env} {fr to : Nat → Int32} {μ : St} (h : Cx N n p d E fr to μ) : 312 ≤ d := h.2.2.2.2.2.1
theorem Cx.d2 {N n p d : Nat} {E : Env} {fr to : Nat → Int32} {μ : St} (h : Cx N n p d E fr to μ) : d < 936 := h.2.2.2.2.2.2.1
theorem Cx.n {N n p d : Nat} {E : Env} {fr to : Nat → Int32} {μ : St} (h : Cx N n p d E fr to μ) : μ.1 269 0 0 0 = nI d := h.2.2.2.2.2.2.2.1
theorem Cx.st {N n p d : Nat} {E : Env} {fr to : Nat → Int32} {μ : St} (h : Cx N n p d E fr to μ) : ∀ μ' : St, (∀ f i, f < 262 → μ'.1 f 0 0 i = μ.1 f 0 0 i) → ∀ w, w < 156 → fM_stampsAt N (nI p) (nI w) μ' = some (E.st w) := h.2.2.2.2.2.2.2.2.1
theorem Cx.ag {N n p d : Nat} {E : Env} {fr to : Nat → Int32} {μ : St} (h : Cx N n p d E fr to μ) : μ.1 212 0 0 p = E.age := h.2.2.2.2.2.2.2.2.2.1
theorem Cx.tr {N n p d : Nat} {E : Env} {fr to : Nat → Int32} {μ : St} (h : Cx N n p d E fr to μ) : μ.1 211 0 0 p = E.trade := h.2.2.2.2.2.2.2.2.2.2
theorem Cx.mv {N n p d : Nat} {E : Env} {fr to : Nat → Int32} {μ μ' : St} (h : Cx N n p d E fr to μ) (hm : ∀ f i, f < 266 ∨ f = 269 → μ'.1 f 0 0 i = μ.1 f 0 0 i) : Cx N n p d E fr to μ' :=
  ⟨h.t.mv (fun f i q1 q2 => hm f i (by omega)), h.l, h.sh, h.h.mv2 (fun f i q1 q2 => hm f i (by omega)), h.p, h.d1, h.d2, (hm _ _ (by decide)).trans h.n, fun μ2 h2 => h.st μ2 (fun f i q => (h2 f i q).trans (hm f i (by omega))), (hm _ _ (by decide)).trans h.ag, (hm _ _ (by decide)).trans h.tr⟩
theorem Cx.pn {N n p d q nc nc' nb nb' : Nat} {E : Env} {fr to : Nat → Int32} {μ μ' : St} (h : Cx N n p d E fr to μ) (hX : PnX q nc nc' nb nb' μ μ') : Cx N n p d E fr to μ' := h.mv (fun f i z => hX.o f 0 0 i (by omega))
theorem Cx.vm {N n p d nc nb : Nat} {E : Env} {fr to : Nat → Int32} {μ : St} {s : Lfe} (hN : 60 ≤ N) (h : Cx N n p d E fr to μ) (hA : RfA p d μ s nc nb) (hw : μ.1 268 0 0 0 = nI p) : VM N μ (vO (vS E d s) μ) := by
  obtain ⟨c, cm, a1, a2, -, -, -⟩ := hA
  exact val_e hN h.p h.d1 h.d2 a1 a2 (fun μ' hμ => h.st μ' (fun f i _ => by rw [hμ])) hw h.n (fun k hk => h.h.2.2.2.1 k hk) h.ag h.tr
theorem bar_A {N n p d nc nb e : Nat} {E : Env} {fr to : Nat → Int32} {μ : St} {s : Lfe} {vs : Nat → Int64} (hN : 1000 ≤ N) (h : Cx N n p d E fr to μ) (hA : RfA p d μ s nc nb) (hv : VM N μ vs) (he : e < 160) (hb : nb < 160) : ∃ μ' nb', fM_bar N (nI p) (nI e) μ = some μ' ∧ BrX μ μ' ∧ PnX p nc nc nb nb' μ μ' ∧ nb' ≤ nb + 1 ∧ RfA p d μ' (if μ.1 278 0 0 e = 0 then sBar E d vs s else s) nc nb' := by
  obtain ⟨c, cm, a1, a2, a3, a4, a5⟩ := hA
  obtain ⟨μ', nb', i1, i2, i3, i4, i5⟩ := bar_e (N := N) (nc := nc) (e := e) hN h.t h.l h.sh h.h hv h.p h.d1 h.d2 h.n he a3 hb
  have so : ∀ f i, f ≠ 90 → (if μ.1 278 0 0 e = 0 then sBar E d vs s else s) f i = s f i := fun f i q => by
    split
    · unfold sBar
      exact uL_o q
    · rfl
  have hd2 := h.d2
  refine ⟨μ', nb', i1, i2, i3, i4, c, cm, ?_, a2.mv (fun f i q => i2.1 f 0 0 i (by omega)) (fun f i q => so f i (by rcases q with q | q | q | q <;> rw [q] <;> decide)), i5, a4.mv (by omega) (fun f i q _ => i2.1 f 0 0 _ (by omega)) (fun i _ => i2.2 _ _ _ _ (by decide)) (fun i => so _ _ (by decide)) (fun i => so _ _ (by decide)), a5.mv (fun i => i2.2 _ _ _ _ (by decide)) (fun i => so _ _ (by decide))⟩
  exact ⟨(i2.1 _ _ _ _ (by decide)).trans (a1.wk.trans (so _ _ (by decide)).symm), (i2.1 _ _ _ _ (by decide)).trans (a1.aw.trans (so _ _ (by decide)).symm), (i2.1 _ _ _ _ (by decide)).trans (a1.sh.trans (so _ _ (by decide)).symm), (i2.1 _ _ _ _ (by decide)).trans (a1.us.trans (so _ _ (by decide)).symm), (i2.1 _ _ _ _ (by decide)).trans (a1.lf.trans (so _ _ (by decide)).symm), (i2.1 _ _ _ _ (by decide)).trans (a1.me.trans (so _ _ (by decide)).symm), (i2.1 _ _ _ _ (by decide)).trans (a1.re.trans (so _ _ (by decide)).symm)⟩
