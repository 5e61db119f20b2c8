/-! what holds between any two calls -/
def nT (μ : St) : Nat := (μ.1 219 0 0 0).toNatClampNeg
def nP (μ : St) : Nat := (μ.1 208 0 0 0).toNatClampNeg
def tdN (μ : St) : Nat := (μ.1 205 0 0 0).toNatClampNeg
def rwN (μ : St) : Nat := (μ.1 216 0 0 0).toNatClampNeg
def rtN (μ : St) : Nat := (μ.1 217 0 0 0).toNatClampNeg
def ofN (μ : St) : Nat := (μ.1 317 0 0 0).toNatClampNeg
def vcN (μ : St) : Nat := (μ.1 316 0 0 0).toNatClampNeg
def ocN (μ : St) : Nat := (μ.1 207 0 0 0).toNatClampNeg
def csN (μ : St) : Nat := (μ.1 338 0 0 0).toNatClampNeg
abbrev TxI (TC : Nat → List Cl) (σ μ : St) : Prop := (TxX TC (frM μ) (toM μ) (nT μ) σ) ∧ (TxM TC (nT μ) μ) ∧ (∀ t, t < nT μ → σ.1 15 t 0 0 = μ.1 237 0 0 t) ∧ (∀ t, t < nT μ → μ.1 237 0 0 t ≤ μ.1 205 0 0 0) ∧ (∀ t t', t ≤ t' → t' < nT μ → μ.1 237 0 0 t ≤ μ.1 237 0 0 t') ∧ (∀ k, k < 8 → μ.1 203 0 0 k = dflts k) ∧ (μ.1 266 0 0 0 = 0)
theorem TxI.x {TC : Nat → List Cl} {σ μ : St} (h : TxI TC σ μ) : TxX TC (frM μ) (toM μ) (nT μ) σ := h.1
theorem TxI.m {TC : Nat → List Cl} {σ μ : St} (h : TxI TC σ μ) : TxM TC (nT μ) μ := h.2.1
theorem TxI.o {TC : Nat → List Cl} {σ μ : St} (h : TxI TC σ μ) : ∀ t, t < nT μ → σ.1 15 t 0 0 = μ.1 237 0 0 t := h.2.2.1
theorem TxI.l {TC : Nat → List Cl} {σ μ : St} (h : TxI TC σ μ) : ∀ t, t < nT μ → μ.1 237 0 0 t ≤ μ.1 205 0 0 0 := h.2.2.2.1
theorem TxI.a {TC : Nat → List Cl} {σ μ : St} (h : TxI TC σ μ) : ∀ t t', t ≤ t' → t' < nT μ → μ.1 237 0 0 t ≤ μ.1 237 0 0 t' := h.2.2.2.2.1
theorem TxI.d {TC : Nat → List Cl} {σ μ : St} (h : TxI TC σ μ) : ∀ k, k < 8 → μ.1 203 0 0 k = dflts k := h.2.2.2.2.2.1
theorem TxI.y {TC : Nat → List Cl} {σ μ : St} (h : TxI TC σ μ) : μ.1 266 0 0 0 = 0 := h.2.2.2.2.2.2
abbrev EvJ (μ : St) : Prop := (EvI μ) ∧ (∀ e, e < cnM μ → peM μ e < nP μ) ∧ (∀ c, c < csN μ → (μ.1 342 0 0 c).toNatClampNeg < cnM μ) ∧ (∀ o, o < ofN μ → (μ.1 326 0 0 o).toNatClampNeg < vcN μ) ∧ (∀ p, p < nP μ → (μ.1 213 0 0 p).toNatClampNeg < ocN μ) ∧ (∀ v, v < vcN μ → (μ.1 318 0 0 v).toNatClampNeg < ocN μ) ∧ (∀ o, o < 60 → μ.1 324 0 0 o = if μ.1 327 0 0 o = -1 then 1 else 0) ∧ (∀ r, r < rwN μ → μ.1 223 0 0 r ≤ μ.1 205 0 0 0) ∧ (∀ o, ofN μ ≤ o → μ.1 328 0 0 o = 0) ∧ (μ.1 206 0 0 0 = -1 ∨ (312 ≤ (μ.1 206 0 0 0).toInt ∧ (μ.1 206 0 0 0).toInt ≤ (μ.1 205 0 0 0).toInt)) ∧ (∀ r, r < rtN μ → μ.1 228 0 0 r ≤ μ.1 205 0 0 0) ∧ (∀ o, o < ofN μ → (μ.1 325 0 0 o).toNatClampNeg < nP μ)
theorem EvJ.e {μ : St} (h : EvJ μ) : EvI μ := h.1
theorem EvJ.p {μ : St} (h : EvJ μ) : ∀ e, e < cnM μ → peM μ e < nP μ := h.2.1
theorem EvJ.c {μ : St} (h : EvJ μ) : ∀ c, c < csN μ → (μ.1 342 0 0 c).toNatClampNeg < cnM μ := h.2.2.1
theorem EvJ.ov {μ : St} (h : EvJ μ) : ∀ o, o < ofN μ → (μ.1 326 0 0 o).toNatClampNeg < vcN μ := h.2.2.2.1
theorem EvJ.po {μ : St} (h : EvJ μ) : ∀ p, p < nP μ → (μ.1 213 0 0 p).toNatClampNeg < ocN μ := h.2.2.2.2.1
theorem EvJ.vo {μ : St} (h : EvJ μ) : ∀ v, v < vcN μ → (μ.1 318 0 0 v).toNatClampNeg < ocN μ := h.2.2.2.2.2.1
theorem EvJ.so {μ : St} (h : EvJ μ) : ∀ o, o < 60 → μ.1 324 0 0 o = if μ.1 327 0 0 o = -1 then 1 else 0 := h.2.2.2.2.2.2.1
theorem EvJ.br {μ : St} (h : EvJ μ) : ∀ r, r < rwN μ → μ.1 223 0 0 r ≤ μ.1 205 0 0 0 := h.2.2.2.2.2.2.2.1
theorem EvJ.oc {μ : St} (h : EvJ μ) : ∀ o, ofN μ ≤ o → μ.1 328 0 0 o = 0 := h.2.2.2.2.2.2.2.2.1
theorem EvJ.lk {μ : St} (h : EvJ μ) : μ.1 206 0 0 0 = -1 ∨ (312 ≤ (μ.1 206 0 0 0).toInt ∧ (μ.1 206 0 0 0).toInt ≤ (μ.1 205 0 0 0).toInt) := h.2.2.2.2.2.2.2.2.2.1
theorem EvJ.bt {μ : St} (h : EvJ μ) : ∀ r, r < rtN μ → μ.1 228 0 0 r ≤ μ.1 205 0 0 0 := h.2.2.2.2.2.2.2.2.2.2.1
theorem EvJ.op {μ : St} (h : EvJ μ) : ∀ o, o < ofN μ → (μ.1 325 0 0 o).toNatClampNeg < nP μ := h.2.2.2.2.2.2.2.2.2.2.2
/-- how many changes were noted; who was never asked for -/
def bkN (μ : St) : Nat := cnt (fun e => !decide (μ.1 234 0 0 e = -1)) (cnM μ)
abbrev ChI (σ μ : St) : Prop := (∀ p, p < 20 → ∃ c : Nat, σ.1 53 0 0 p = nI c ∧ c ≤ rwN μ + rtN μ + cnM μ + bkN μ) ∧ (∀ v p, v < 2 → nP μ ≤ p → p < 20 → σ.1 82 v p 0 = -1)
theorem ChI.c {σ μ : St} (h : ChI σ μ) : ∀ p, p < 20 → ∃ c : Nat, σ.1 53 0 0 p = nI c ∧ c ≤ rwN μ + rtN μ + cnM μ + bkN μ := h.1
theorem ChI.s {σ μ : St} (h : ChI σ μ) : ∀ v p, v < 2 → nP μ ≤ p → p < 20 → σ.1 82 v p 0 = -1 := h.2
abbrev FdI (σ μ : St) : Prop := (∃ w : Nat, σ.1 60 0 0 0 = nI w ∧ μ.1 315 0 0 0 = nI w ∧ w * 6 + 312 ≤ tdN μ ∧ tdN μ < w * 6 + 318 ∧ (w = 0 → (μ.2 312 0 0 0).toInt = 10000)) ∧ (∀ p, p < 20 → σ.1 54 0 0 p = (μ.2 309 0 0 p).toInt32 ∧ σ.1 55 0 0 p = (μ.2 310 0 0 p).toInt32 ∧ 0 ≤ (μ.2 309 0 0 p).toInt ∧ (μ.2 309 0 0 p).toInt ≤ 6240000) ∧ (σ.1 57 0 0 0 = (μ.2 313 0 0 0).toInt32 ∧ σ.1 58 0 0 0 = (μ.2 314 0 0 0).toInt32) ∧ ((σ.1 56 0 0 0).toInt = (μ.2 312 0 0 0).toInt ∧ ∃ G : Int, 0 ≤ G ∧ G ≤ 12000000 * (μ.1 315 0 0 0).toInt ∧ (μ.2 312 0 0 0).toInt = 10000 + G - sumC (fun p => (μ.2 309 0 0 p).toInt) 20) ∧ (∀ k, k < 4 → (σ.1 59 0 0 k).toInt = (μ.2 311 0 0 k).toInt ∧ -200000000 ≤ (μ.2 311 0 0 k).toInt ∧ (μ.2 311 0 0 k).toInt ≤ 200000000)
theorem FdI.w {σ μ : St} (h : FdI σ μ) : ∃ w : Nat, σ.1 60 0 0 0 = nI w ∧ μ.1 315 0 0 0 = nI w ∧ w * 6 + 312 ≤ tdN μ ∧ tdN μ < w * 6 + 318 ∧ (w = 0 → (μ.2 312 0 0 0).toInt = 10000) := h.1
theorem FdI.r {σ μ : St} (h : FdI σ μ) : ∀ p, p < 20 → σ.1 54 0 0 p = (μ.2 309 0 0 p).toInt32 ∧ σ.1 55 0 0 p = (μ.2 310 0 0 p).toInt32 ∧ 0 ≤ (μ.2 309 0 0 p).toInt ∧ (μ.2 309 0 0 p).toInt ≤ 6240000 := h.2.1
theorem FdI.g {σ μ : St} (h : FdI σ μ) : σ.1 57 0 0 0 = (μ.2 313 0 0 0).toInt32 ∧ σ.1 58 0 0 0 = (μ.2 314 0 0 0).toInt32 := h.2.2.1
theorem FdI.f {σ μ : St} (h : FdI σ μ) : (σ.1 56 0 0 0).toInt = (μ.2 312 0 0 0).toInt ∧ ∃ G : Int, 0 ≤ G ∧ G ≤ 12000000 * (μ.1 315 0 0 0).toInt ∧ (μ.2 312 0 0 0).toInt = 10000 + G - sumC (fun p => (μ.2 309 0 0 p).toInt) 20 := h.2.2.2.1
theorem FdI.l {σ μ : St} (h : FdI σ μ) : ∀ k, k < 4 → (σ.1 59 0 0 k).toInt = (μ.2 311 0 0 k).toInt ∧ -200000000 ≤ (μ.2 311 0 0 k).toInt ∧ (μ.2 311 0 0 k).toInt ≤ 200000000 := h.2.2.2.2
abbrev OtI (σ μ : St) : Prop := (∀ p, p < 20 → σ.1 123 0 0 p = if μ.1 333 0 0 0 = 0 then -1 else μ.1 330 0 0 p) ∧ (∀ i, i < 3 * csN μ → σ.1 33 0 0 i = μ.1 344 0 0 i) ∧ (∀ t, t < 9 → σ.1 158 0 0 (3 * t) = (μ.2 348 0 0 t).toInt32 ∧ σ.1 158 0 0 (3 * t + 1) = μ.1 349 0 0 t ∧ σ.1 158 0 0 (3 * t + 2) = μ.1 350 0 0 t) ∧ (σ.1 112 0 0 0 = μ.1 257 0 0 0)
theorem OtI.s {σ μ : St} (h : OtI σ μ) : ∀ p, p < 20 → σ.1 123 0 0 p = if μ.1 333 0 0 0 = 0 then -1 else μ.1 330 0 0 p := h.1
theorem OtI.b {σ μ : St} (h : OtI σ μ) : ∀ i, i < 3 * csN μ → σ.1 33 0 0 i = μ.1 344 0 0 i := h.2.1
theorem OtI.t {σ μ : St} (h : OtI σ μ) : ∀ t, t < 9 → σ.1 158 0 0 (3 * t) = (μ.2 348 0 0 t).toInt32 ∧ σ.1 158 0 0 (3 * t + 1) = μ.1 349 0 0 t ∧ σ.1 158 0 0 (3 * t + 2) = μ.1 350 0 0 t := h.2.2.1
theorem OtI.p {σ μ : St} (h : OtI σ μ) : σ.1 112 0 0 0 = μ.1 257 0 0 0 := h.2.2.2
abbrev InvB (TC : Nat → List Cl) (tp : Nat → Nat) (σ μ : St) : Prop := (Eq1 σ μ) ∧ (Rng μ) ∧ (TP tp σ μ) ∧ (TxI TC σ μ) ∧ (EvJ μ) ∧ (VwI 0 TC σ μ) ∧ (VwI 1 TC σ μ) ∧ (ChI σ μ) ∧ (RunI (nP μ) TC μ) ∧ (FdI σ μ) ∧ (OtI σ μ)
theorem InvB.eq {TC : Nat → List Cl} {tp : Nat → Nat} {σ μ : St} (h : InvB TC tp σ μ) : Eq1 σ μ := h.1
theorem InvB.rg {TC : Nat → List Cl} {tp : Nat → Nat} {σ μ : St} (h : InvB TC tp σ μ) : Rng μ := h.2.1
theorem InvB.tp {TC : Nat → List Cl} {tp : Nat → Nat} {σ μ : St} (h : InvB TC tp σ μ) : TP tp σ μ := h.2.2.1
theorem InvB.tx {TC : Nat → List Cl} {tp : Nat → Nat} {σ μ : St} (h : InvB TC tp σ μ) : TxI TC σ μ := h.2.2.2.1
theorem InvB.ev {TC : Nat → List Cl} {tp : Nat → Nat} {σ μ : St} (h : InvB TC tp σ μ) : EvJ μ := h.2.2.2.2.1
theorem InvB.v0 {TC : Nat → List Cl} {tp : Nat → Nat} {σ μ : St} (h : InvB TC tp σ μ) : VwI 0 TC σ μ := h.2.2.2.2.2.1
theorem InvB.v1 {TC : Nat → List Cl} {tp : Nat → Nat} {σ μ : St} (h : InvB TC tp σ μ) : VwI 1 TC σ μ := h.2.2.2.2.2.2.1
theorem InvB.ch {TC : Nat → List Cl} {tp : Nat → Nat} {σ μ : St} (h : InvB TC tp σ μ) : ChI σ μ := h.2.2.2.2.2.2.2.1
theorem InvB.rn {TC : Nat → List Cl} {tp : Nat → Nat} {σ μ : St} (h : InvB TC tp σ μ) : RunI (nP μ) TC μ := h.2.2.2.2.2.2.2.2.1
theorem InvB.fd {TC : Nat → List Cl} {tp : Nat → Nat} {σ μ : St} (h : InvB TC tp σ μ) : FdI σ μ := h.2.2.2.2.2.2.2.2.2.1
theorem InvB.ot {TC : Nat → List Cl} {tp : Nat → Nat} {σ μ : St} (h : InvB TC tp σ μ) : OtI σ μ := h.2.2.2.2.2.2.2.2.2.2
def Inv (σ μ : St) : Prop := ∃ TC tp, InvB TC tp σ μ
theorem Rng.k {μ : St} (h : Rng μ) {g : Nat} {hi : Int} (hm : (g, 0, hi) ∈ rngF) (i : Nat) : μ.1 g 0 0 i = nI (μ.1 g 0 0 i).toNatClampNeg ∧ (((μ.1 g 0 0 i).toNatClampNeg : Nat) : Int) ≤ hi := by
  obtain ⟨n, n1, n2, n3, n4, n5⟩ := h.n i hm (Int.le_refl _)
  rw [n1, n3]
  exact ⟨rfl, n5⟩
abbrev Cns (μ : St) : Prop := (μ.1 219 0 0 0 = nI (nT μ) ∧ nT μ ≤ 16) ∧ (μ.1 208 0 0 0 = nI (nP μ) ∧ nP μ ≤ 20) ∧ (μ.1 205 0 0 0 = nI (tdN μ) ∧ 312 ≤ tdN μ ∧ tdN μ ≤ 935) ∧ (μ.1 218 0 0 0 = nI (cnM μ) ∧ cnM μ ≤ 160) ∧ (μ.1 216 0 0 0 = nI (rwN μ) ∧ rwN μ ≤ 60) ∧ (μ.1 217 0 0 0 = nI (rtN μ) ∧ rtN μ ≤ 100) ∧ (μ.1 317 0 0 0 = nI (ofN μ) ∧ ofN μ ≤ 60) ∧ (μ.1 316 0 0 0 = nI (vcN μ) ∧ vcN μ ≤ 24) ∧ (μ.1 338 0 0 0 = nI (csN μ) ∧ csN μ ≤ 30) ∧ (μ.1 207 0 0 0 = nI (ocN μ) ∧ ocN μ ≤ 8)
theorem Cns.T {μ : St} (h : Cns μ) : μ.1 219 0 0 0 = nI (nT μ) ∧ nT μ ≤ 16 := h.1
theorem Cns.P {μ : St} (h : Cns μ) : μ.1 208 0 0 0 = nI (nP μ) ∧ nP μ ≤ 20 := h.2.1
theorem Cns.d {μ : St} (h : Cns μ) : μ.1 205 0 0 0 = nI (tdN μ) ∧ 312 ≤ tdN μ ∧ tdN μ ≤ 935 := h.2.2.1
theorem Cns.e {μ : St} (h : Cns μ) : μ.1 218 0 0 0 = nI (cnM μ) ∧ cnM μ ≤ 160 := h.2.2.2.1
theorem Cns.r {μ : St} (h : Cns μ) : μ.1 216 0 0 0 = nI (rwN μ) ∧ rwN μ ≤ 60 := h.2.2.2.2.1
theorem Cns.q {μ : St} (h : Cns μ) : μ.1 217 0 0 0 = nI (rtN μ) ∧ rtN μ ≤ 100 := h.2.2.2.2.2.1
theorem Cns.o {μ : St} (h : Cns μ) : μ.1 317 0 0 0 = nI (ofN μ) ∧ ofN μ ≤ 60 := h.2.2.2.2.2.2.1
theorem Cns.v {μ : St} (h : Cns μ) : μ.1 316 0 0 0 = nI (vcN μ) ∧ vcN μ ≤ 24 := h.2.2.2.2.2.2.2.1
theorem Cns.c {μ : St} (h : Cns μ) : μ.1 338 0 0 0 = nI (csN μ) ∧ csN μ ≤ 30 := h.2.2.2.2.2.2.2.2.1
theorem Cns.f {μ : St} (h : Cns μ) : μ.1 207 0 0 0 = nI (ocN μ) ∧ ocN μ ≤ 8 := h.2.2.2.2.2.2.2.2.2
theorem Rng.cns {μ : St} (h : Rng μ) : Cns μ := by
  have k1 := h.k (g := 219) (hi := 16) (by decide) 0
  have k2 := h.k (g := 208) (hi := 20) (by decide) 0
  have k4 := h.k (g := 218) (hi := 160) (by decide) 0
  have k5 := h.k (g := 216) (hi := 60) (by decide) 0
  have k6 := h.k (g := 217) (hi := 100) (by decide) 0
  have k7 := h.k (g := 317) (hi := 60) (by decide) 0
  have k8 := h.k (g := 316) (hi := 24) (by decide) 0
  have k9 := h.k (g := 338) (hi := 30) (by decide) 0
  have ka := h.k (g := 207) (hi := 8) (by decide) 0
  obtain ⟨t, t1, t2, t3, t4⟩ := tod_e h
  have e3 : tdN μ = t := t1
  refine ⟨⟨k1.1, ?_⟩, ⟨k2.1, ?_⟩, ⟨by rw [e3]; exact t2, by omega, by omega⟩, ⟨k4.1, ?_⟩, ⟨k5.1, ?_⟩, ⟨k6.1, ?_⟩, ⟨k7.1, ?_⟩, ⟨k8.1, ?_⟩, ⟨k9.1, ?_⟩, ⟨ka.1, ?_⟩⟩
  · have := k1.2
    unfold nT
    omega
  · have := k2.2
    unfold nP
    omega
  · have := k4.2
    unfold cnM
    omega
  · have := k5.2
    unfold rwN
    omega
  · have := k6.2
    unfold rtN
    omega
  · have := k7.2
    unfold ofN
    omega
  · have := k8.2
    unfold vcN
    omega
  · have := k9.2
    unfold csN
    omega
  · have := ka.2
    unfold ocN
    omega
/-- how many texts were told by a day -/
theorem upto_ex {p : Nat → Prop} : ∀ T : Nat, (∀ t t', t ≤ t' → t' < T → p t' → p t) → ∃ n, n ≤ T ∧ (∀ t, t < n → p t) ∧ ∀ t, n ≤ t → t < T → ¬ p t
  | 0, _ => ⟨0, Nat.le_refl 0, fun t h => absurd h (by omega), fun t _ h => absurd h (by omega)⟩
  | T + 1, h => by
    by_cases c : p T
    · exact ⟨T + 1, Nat.le_refl _, fun t ht => h t T (by omega) (by omega) c, fun t a b => absurd b (by omega)⟩
    · obtain ⟨n, n1, n2, n3⟩ := upto_ex T (fun t t' a b => h t t' a (by omega))
      exact ⟨n, by omega, n2, fun t a b => if q : t = T then q ▸ c else n3 t a (by omega)⟩
theorem TxI.tk {TC : Nat → List Cl} {σ μ : St} (h : TxI TC σ μ) (hR : Rng μ) (k : Nat) : ∃ n, n ≤ nT μ ∧ (∀ t, t < n → μ.1 237 0 0 t ≤ nI k) ∧ (∀ t, n ≤ t → t < nT μ → nI k < μ.1 237 0 0 t) ∧ takes μ (nI k) n ∧ (k = tdN μ → n = nT μ) := by
  obtain ⟨n, n1, n2, n3⟩ := upto_ex (p := fun t => μ.1 237 0 0 t ≤ nI k) (nT μ) (fun t t' a b q => Int32.le_trans (h.a t t' a b) q)
  have c := hR.cns
  refine ⟨n, n1, n2, fun t a b => Int32.not_le.mp (n3 t a b), ⟨nT μ, c.T.1, Or.inl ⟨h.y, n1, c.T.2, n2, fun t a b => Int32.not_le.mp (n3 t a b)⟩⟩, fun e => ?_⟩
  refine Classical.byContradiction fun q => n3 n (Nat.le_refl _) (by omega) ?_
  have := h.l n (by omega)
  rw [c.d.1, ← e] at this
  exact this
theorem TxX.tn {TC : Nat → List Cl} {fr to : Nat → Int32} {T n : Nat} {σ : St} (h : TxX TC fr to T σ) (hn : n ≤ T) : TxX (TCn TC n) fr to n σ := by
  intro t ht
  have e : TCn TC n t = TC t := if_pos ht
  have := h t (by omega)
  rw [e]
  exact this
theorem TxM.tn {TC : Nat → List Cl} {T n : Nat} {μ : St} (h : TxM TC T μ) (hn : n ≤ T) : TxM (TCn TC n) n μ := by
  intro t ht
  have e : TCn TC n t = TC t := if_pos ht
  have := h t (by omega)
  rw [e]
  exact this
theorem InvB.rh {N k n : Nat} {TC : Nat → List Cl} {tp : Nat → Nat} {σ μ : St} (h : InvB TC tp σ μ) (hN : 4000 ≤ N) (hk1 : 312 ≤ k) (hk2 : k < 936) (hn : n ≤ nT μ) (htk : takes μ (nI k) n) : RnH N (nP μ) n k TC μ := by
  have c := h.rg.cns
  refine ⟨h.rg, h.ev.e, h.tx.m.tn hn, h.tx.d, htk, by have := c.T.2; omega, c.P.1, c.P.2, h.ev.p, fun o ho => ?_, hN, hk1, hk2⟩
  rw [h.ev.so o ho]
  by_cases q : μ.1 327 0 0 o = -1
  · rw [if_pos q]
    exact ⟨fun z => absurd z (by decide), fun z => absurd q z⟩
  · rw [if_neg q]
    exact ⟨fun _ => q, fun _ => rfl⟩
