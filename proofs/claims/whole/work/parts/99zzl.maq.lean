/-! the reference looks for one more person: reading, who holds what, the first ways -/
theorem nI_nz {a : Nat} (ha : a < 2 ^ 31) (h : a ≠ 0) : ¬ nI a = 0 := fun z => h (nIj (a := a) (b := 0) ha (by decide) z)
def bq (x : Int32) (i : Nat) : Bool := x.toBitVec.getLsbD i
theorem bq_or (x y : Int32) (i : Nat) : bq (x ||| y) i = (bq x i || bq y i) := by unfold bq; rw [Int32.toBitVec_or, BitVec.getLsbD_or]
theorem bq_and (x y : Int32) (i : Nat) : bq (x &&& y) i = (bq x i && bq y i) := by unfold bq; rw [Int32.toBitVec_and, BitVec.getLsbD_and]
theorem bq_sh : ∀ v, v < 24 → ((nI v &&& 31).toBitVec.smod 32).toNat = v := by decide +kernel
theorem bq_one : ∀ v, v < 24 → ∀ w, w < 24 → bq (1 <<< (nI v &&& 31)) w = decide (w = v) := by decide +kernel
theorem bq_zero : ∀ v, v < 24 → bq 0 v = false := by decide +kernel
theorem bq_1 (y : Int32) : y &&& 1 = 0 ↔ bq y 0 = false := by
  have h := bq_and y 1 0
  rw [show bq 1 0 = true by decide +kernel, Bool.and_true] at h
  constructor
  · intro e
    rw [e, show bq 0 0 = false by decide +kernel] at h
    exact h.symm
  · intro e
    rcases and1 y with k | k
    · exact k
    · rw [k, e, show bq 1 0 = true by decide +kernel] at h
      exact absurd h (by decide)
theorem bq_shr {u : Int32} {v : Nat} (hv : v < 24) : bq (u >>> (nI v &&& 31)) 0 = bq u v := by
  unfold bq
  rw [Int32.toBitVec_shiftRight]
  show (u.toBitVec.sshiftRight ((nI v &&& 31).toBitVec.smod 32).toNat).getLsbD 0 = _
  rw [bq_sh v hv, BitVec.getLsbD_sshiftRight]
  simp
  omega
def MU (u : Int32) (U : Nat → Bool) : Prop := ∀ v, v < 24 → bq u v = U v
theorem MU.t {u : Int32} {U : Nat → Bool} {v : Nat} (h : MU u U) (hv : v < 24) : (u >>> (nI v &&& 31)) &&& 1 = 0 ↔ U v = false := by
  rw [bq_1, bq_shr hv, h v hv]
theorem MU.z : MU 0 (fun _ => false) := fun v hv => bq_zero v hv
theorem MU.i {u : Int32} {U : Nat → Bool} {v : Nat} (h : MU u U) (hv : v < 24) : MU (u ||| (1 <<< (nI v &&& 31))) (insU U v) := fun w hw => by
  rw [bq_or, bq_one v hv w hw, h w hw]
  unfold insU
  rw [Bool.or_comm]
abbrev GnS (G : Nat → Nat → Nat) (P V : Nat) (μ : St) : Prop := (μ.1 208 0 0 0 = nI P) ∧ (μ.1 316 0 0 0 = nI V) ∧ (P ≤ 20) ∧ (V ≤ 24) ∧ (∀ p v, p < P → v < V → μ.1 329 0 0 (24 * p + v) = nI (G p v)) ∧ (∀ p v, G p v ≤ 999)
theorem GnS.P {G : Nat → Nat → Nat} {P V : Nat} {μ : St} (h : GnS G P V μ) : μ.1 208 0 0 0 = nI P := h.1
theorem GnS.V {G : Nat → Nat → Nat} {P V : Nat} {μ : St} (h : GnS G P V μ) : μ.1 316 0 0 0 = nI V := h.2.1
theorem GnS.P2 {G : Nat → Nat → Nat} {P V : Nat} {μ : St} (h : GnS G P V μ) : P ≤ 20 := h.2.2.1
theorem GnS.V2 {G : Nat → Nat → Nat} {P V : Nat} {μ : St} (h : GnS G P V μ) : V ≤ 24 := h.2.2.2.1
theorem GnS.g {G : Nat → Nat → Nat} {P V : Nat} {μ : St} (h : GnS G P V μ) : ∀ p v, p < P → v < V → μ.1 329 0 0 (24 * p + v) = nI (G p v) := h.2.2.2.2.1
theorem GnS.b {G : Nat → Nat → Nat} {P V : Nat} {μ : St} (h : GnS G P V μ) : ∀ p v, G p v ≤ 999 := h.2.2.2.2.2
def gm (G : Nat → Nat → Nat) (U : Nat → Bool) (q v : Nat) : Nat := if U v then 0 else G q v
theorem gm_le {G : Nat → Nat → Nat} {U : Nat → Bool} {q v : Nat} (h : ∀ p v, G p v ≤ 999) : gm G U q v ≤ 999 := by
  unfold gm
  split
  · omega
  · exact h q v
theorem gm_ne {G : Nat → Nat → Nat} {U : Nat → Bool} {q v : Nat} (h : gm G U q v ≠ 0) : U v = false ∧ gm G U q v = G q v := by
  unfold gm at h ⊢
  cases c : U v with
  | true => rw [c] at h; exact absurd rfl h
  | false => exact ⟨rfl, rfl⟩
theorem gm_f {G : Nat → Nat → Nat} {U : Nat → Bool} {q v : Nat} (h : U v = false) : gm G U q v = G q v := by
  unfold gm
  rw [h]
  rfl
theorem GnS.mv {G : Nat → Nat → Nat} {P V : Nat} {μ ρ : St} (h : GnS G P V μ) (e : ∀ f a b i, f ≠ 330 → f ≠ 333 → f ≠ 334 → f ≠ 335 → f ≠ 336 → ρ.1 f a b i = μ.1 f a b i) : GnS G P V ρ := ⟨(e _ _ _ _ (by decide) (by decide) (by decide) (by decide) (by decide)).trans h.P, (e _ _ _ _ (by decide) (by decide) (by decide) (by decide) (by decide)).trans h.V, h.P2, h.V2, fun p v a b => (e _ _ _ _ (by decide) (by decide) (by decide) (by decide) (by decide)).trans (h.g p v a b), h.b⟩
theorem gainAt_e {N q v P V : Nat} {G : Nat → Nat → Nat} {U : Nat → Bool} {u : Int32} {μ : St} (hG : GnS G P V μ) (hU : MU u U) (hq : q < P) (hv : v < V) : fM_gainAt N (nI q) (nI v) u μ = some (nI (gm G U q v)) := by
  have p2 := hG.P2
  have v2 := hG.V2
  have ea : (24 : Int32) * nI q + nI v = nI (24 * q + v) := by
    rw [show (24 : Int32) * nI q = nI (24 * q) from (Int32.ofNat_mul 24 q).symm, nI_add]
  unfold fM_gainAt
  rw [hG.V, if_neg (nI_ge hv (by omega))]
  cases c : U v with
  | false =>
    rw [if_pos ((hU.t (by omega)).mpr c), ea, chk_t (inb_n (by omega) (by decide)), nI_clamp (by omega), hG.g q v hq hv, gm_f c]
  | true =>
    rw [if_neg (fun e => by rw [(hU.t (by omega)).mp e] at c; exact absurd c (by decide))]
    unfold gm
    rw [c]
    rfl
def hV (μ : St) (v : Nat) : Int32 := μ.1 334 0 0 v
def dV (μ : St) (v : Nat) : Int := (μ.1 335 0 0 v).toInt
def cV (μ : St) (v : Nat) : Int32 := μ.1 336 0 0 v
theorem holds2 {N V q t : Nat} {μ : St} (hVV : μ.1 316 0 0 0 = nI V) (hV2 : V ≤ 24) (h : ∀ v, v < V → (hV μ v = nI q ↔ v = t)) : ∀ (e v m : Nat), v + e = V → e < m → (v ≤ t ∨ V ≤ t) → fM_holds_2 N m (nI q) (nI v) μ = some (if t < V then nI t else -1) := by
  intro e
  induction e with
  | zero =>
    intro v m h1 h2 h3
    obtain ⟨m, rfl⟩ : ∃ q, m = q + 1 := ⟨m - 1, by omega⟩
    have : v = V := by omega
    subst this
    show (if μ.1 316 0 0 0 ≤ nI v then some (-1) else _) = _
    rw [hVV, if_pos (Int32.le_refl _), if_neg (by omega)]
  | succ e ih =>
    intro v m h1 h2 h3
    obtain ⟨m, rfl⟩ : ∃ q, m = q + 1 := ⟨m - 1, by omega⟩
    show (if μ.1 316 0 0 0 ≤ nI v then _ else chk (inb (nI v) 24) <| if (μ.1 334 0 0 (nI v).toNatClampNeg) = nI q then some (nI v) else (fM_holds_2 N m) (nI q) (nI v + 1) μ) = _
    rw [hVV, if_neg (nI_ge (by omega) (by omega)), chk_t (inb_n (by omega) (by decide)), nI_clamp (by omega), nI_1]
    have hv := h v (by omega)
    unfold hV at hv
    by_cases c : v = t
    · rw [if_pos (hv.mpr c), if_pos (by omega), c]
    · rw [if_neg (fun z => c (hv.mp z))]
      exact ih (v + 1) m (by omega) (by omega) (by omega)
theorem holds_e {N F P V q e : Nat} {s : Nat → Nat} {μ : St} (hN : 100 ≤ N) (hVV : μ.1 316 0 0 0 = nI V) (hV2 : V ≤ 24) (hP : P ≤ 20) (M : Mt s F P V (hV μ) e) (he : e < V → hV μ e ≠ nI q) (q1 : F ≤ q) (q2 : q < P) : fM_holds N (nI q) μ = some (if s q < V then nI (s q) else -1) := by
  refine holds2 (N := N) hVV hV2 (fun v hv => ⟨fun z => ?_, fun z => ?_⟩) V 0 N (by omega) (by omega) (by omega)
  · by_cases k : v = e
    · rw [k] at hv z
      exact absurd z (he hv)
    · rcases M.b v hv k with w | ⟨r, r1, r2, r3, r4⟩
      · rw [w] at z
        exact absurd z (m1_ne' (by omega))
      · rw [r3] at z
        rw [← nIj (by omega) (by omega) z]
        exact r4.symm
  · rw [z] at hv ⊢
    exact M.a q q1 q2 hv
/-- only ways and by whom are written -/
def FB (μ ρ : St) : Prop := (∀ f a b i, f ≠ 335 → f ≠ 336 → ρ.1 f a b i = μ.1 f a b i) ∧ ρ.2 = μ.2
theorem FB.rfl' {μ : St} : FB μ μ := ⟨fun _ _ _ _ _ _ => rfl, rfl⟩
theorem FB.dc {μ ρ : St} {v : Nat} {x y : Int32} (h : FB μ ρ) : FB μ (sI (sI ρ 335 0 0 v x) 336 0 0 v y) := ⟨fun f a b i q1 q2 => by rw [sI_o q2, sI_o q1]; exact h.1 f a b i q1 q2, h.2⟩
theorem FB.gs {G : Nat → Nat → Nat} {P V : Nat} {μ ρ : St} (h : FB μ ρ) (g : GnS G P V μ) : GnS G P V ρ := g.mv fun f a b i _ _ _ q1 q2 => h.1 f a b i q1 q2
theorem FB.h {μ ρ : St} (h : FB μ ρ) : hV ρ = hV μ := funext fun v => h.1 334 0 0 v (by decide) (by decide)
theorem dV_s {ρ : St} {v : Nat} {x y : Int32} : dV (sI (sI ρ 335 0 0 v x) 336 0 0 v y) v = x.toInt := by unfold dV; rw [sI_o (by decide), sI_s]
theorem dV_o {ρ : St} {v w : Nat} {x y : Int32} (h : w ≠ v) : dV (sI (sI ρ 335 0 0 v x) 336 0 0 v y) w = dV ρ w := by unfold dV; rw [sI_o (by decide), sI_i h]
theorem cV_s {ρ : St} {v : Nat} {x y : Int32} : cV (sI (sI ρ 335 0 0 v x) 336 0 0 v y) v = y := by unfold cV; rw [sI_s]
theorem cV_o {ρ : St} {v w : Nat} {x y : Int32} (h : w ≠ v) : cV (sI (sI ρ 335 0 0 v x) 336 0 0 v y) w = cV ρ w := by unfold cV; rw [sI_i h, sI_o (by decide)]
/-- the first ways: from those who hold none -/
abbrev P1 (γ : Nat → Nat → Nat) (s : Nat → Nat) (F P V : Nat) (d : Nat → Int) (c : Nat → Int32) (q0 b0 : Nat) : Prop := (∀ v, v < V → d v = -1000000 ∨ ∃ q, F ≤ q ∧ q < P ∧ V ≤ s q ∧ c v = nI q ∧ γ q v ≠ 0 ∧ d v = (γ q v : Int)) ∧ (∀ q v, F ≤ q → q < P → v < V → V ≤ s q → γ q v ≠ 0 → (q < q0 ∨ (q = q0 ∧ v < b0)) → (γ q v : Int) ≤ d v)
theorem P1.r {γ : Nat → Nat → Nat} {s : Nat → Nat} {F P V : Nat} {d : Nat → Int} {c : Nat → Int32} {q0 b0 : Nat} (h : P1 γ s F P V d c q0 b0) : ∀ v, v < V → d v = -1000000 ∨ ∃ q, F ≤ q ∧ q < P ∧ V ≤ s q ∧ c v = nI q ∧ γ q v ≠ 0 ∧ d v = (γ q v : Int) := h.1
theorem P1.o {γ : Nat → Nat → Nat} {s : Nat → Nat} {F P V : Nat} {d : Nat → Int} {c : Nat → Int32} {q0 b0 : Nat} (h : P1 γ s F P V d c q0 b0) : ∀ q v, F ≤ q → q < P → v < V → V ≤ s q → γ q v ≠ 0 → (q < q0 ∨ (q = q0 ∧ v < b0)) → (γ q v : Int) ≤ d v := h.2
theorem first57 {N P V F q : Nat} {G : Nat → Nat → Nat} {U : Nat → Bool} {u : Int32} {s : Nat → Nat} {go : Int32 → Int32 → St → Option (Int32 × St)} {μ : St} (hG : GnS G P V μ) (hU : MU u U) (q1 : F ≤ q) (q2 : q < P) (hs : V ≤ s q) : ∀ (e v m : Nat) (ρ : St), v + e = V → e < m → FB μ ρ → P1 (gm G U) s F P V (dV ρ) (cV ρ) q v → ∃ ρ', fM_betterBy_57 N go m u (nI q) (nI v) ρ = go u (nI (q + 1)) ρ' ∧ FB μ ρ' ∧ P1 (gm G U) s F P V (dV ρ') (cV ρ') (q + 1) 0 := by
  have v2 := hG.V2
  have p2 := hG.P2
  intro e
  induction e with
  | zero =>
    intro v m ρ h1 h2 hF hP
    obtain ⟨m, rfl⟩ : ∃ q, m = q + 1 := ⟨m - 1, by omega⟩
    have : v = V := by omega
    subst this
    refine ⟨ρ, ?_, hF, hP.r, fun r w a b c d e z => hP.o r w a b c d e (by omega)⟩
    show (if ρ.1 316 0 0 0 ≤ nI v then go u (nI q + 1) ρ else _) = _
    rw [(hF.gs hG).V, if_pos (Int32.le_refl _), nI_1]
  | succ e ih =>
    intro v m ρ h1 h2 hF hP
    obtain ⟨m, rfl⟩ : ∃ q, m = q + 1 := ⟨m - 1, by omega⟩
    have gl : gm G U q v ≤ 999 := gm_le hG.b
    have e0 : fM_betterBy_57 N go (m + 1) u (nI q) (nI v) ρ = if nI (gm G U q v) ≤ ρ.1 335 0 0 v then fM_betterBy_57 N go m u (nI q) (nI (v + 1)) ρ else if nI (gm G U q v) = 0 then fM_betterBy_57 N go m u (nI q) (nI (v + 1)) ρ else fM_betterBy_57 N go m u (nI q) (nI (v + 1)) (sI (sI ρ 335 0 0 v (nI (gm G U q v))) 336 0 0 v (nI q)) := by
      show (if ρ.1 316 0 0 0 ≤ nI v then _ else bn1 (fM_gainAt N (nI q) (nI v) u ρ) fun r1 => chk (inb (nI v) 24) <| if r1 ≤ (ρ.1 335 0 0 (nI v).toNatClampNeg) then (fM_betterBy_57 N go m) u (nI q) (nI v + 1) ρ else if r1 = 0 then (fM_betterBy_57 N go m) u (nI q) (nI v + 1) ρ else nm (sI ρ 335 0 0 (nI v).toNatClampNeg r1) fun (σ2 : St) => nm (sI σ2 336 0 0 (nI v).toNatClampNeg (nI q)) fun (σ3 : St) => (fM_betterBy_57 N go m) u (nI q) (nI v + 1) σ3) = _
      rw [(hF.gs hG).V, if_neg (nI_ge (by omega) (by omega)), gainAt_e (hF.gs hG) hU q2 (by omega), bn1_e, chk_t (inb_n (by omega) (by decide)), nmx, nmx, nI_clamp (by omega), nI_1]
    rw [e0]
    by_cases c : nI (gm G U q v) ≤ ρ.1 335 0 0 v
    · rw [if_pos c]
      refine ih (v + 1) m ρ (by omega) (by omega) hF ⟨hP.r, fun r w a b c2 d e z => ?_⟩
      by_cases k : r = q ∧ w = v
      · rw [k.1, k.2]
        have := Int32.le_iff_toInt_le.mp c
        rw [nI_toInt (by omega)] at this
        exact this
      · exact hP.o r w a b c2 d e (by omega)
    · rw [if_neg c]
      have cd : dV ρ v < (gm G U q v : Int) := by
        have := Int32.lt_iff_toInt_lt.mp (Int32.not_le.mp c)
        rw [nI_toInt (by omega)] at this
        exact this
      by_cases c0 : gm G U q v = 0
      · rw [if_pos (by rw [c0]; rfl)]
        refine ih (v + 1) m ρ (by omega) (by omega) hF ⟨hP.r, fun r w a b c2 d e z => ?_⟩
        by_cases k : r = q ∧ w = v
        · rw [k.1, k.2] at e
          exact absurd c0 e
        · exact hP.o r w a b c2 d e (by omega)
      · rw [if_neg (nI_nz (by omega) c0)]
        refine ih (v + 1) m _ (by omega) (by omega) hF.dc ⟨fun w hw => ?_, fun r w a b c2 d e z => ?_⟩
        · by_cases k : w = v
          · rw [k]
            exact Or.inr ⟨q, q1, q2, hs, cV_s, c0, by rw [dV_s, nI_toInt (by omega)]⟩
          · rw [dV_o k, cV_o k]
            exact hP.r w hw
        · by_cases k : w = v
          · by_cases k2 : r = q
            · rw [k, k2, dV_s, nI_toInt (by omega)]
              exact Int.le_refl _
            · rw [k] at e ⊢
              have := hP.o r v a b (by omega) d e (by omega)
              rw [dV_s, nI_toInt (by omega)]
              omega
          · rw [dV_o k]
            exact hP.o r w a b c2 d e (by omega)
