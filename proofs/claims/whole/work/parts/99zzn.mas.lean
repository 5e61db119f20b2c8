/-! the reference: one more person, the greatest sum -/
def freeV (μ : St) (v : Nat) : Prop := hV μ v = -1
def frW (f : Nat) : Prop := f ≠ 334 ∧ f ≠ 335 ∧ f ≠ 336
theorem best316 {N P V : Nat} {G : Nat → Nat → Nat} {σ : St} (hG : GnS G P V σ) : ∀ (e v m : Nat) (b : Int32), v + e = V → e < m → ((b = -1 ∧ ∀ w, w < v → freeV σ w → dV σ w ≤ 0) ∨ ∃ k, b = nI k ∧ k < V ∧ freeV σ k ∧ 0 < dV σ k ∧ ∀ w, w < v → freeV σ w → dV σ w ≤ dV σ k) → (fM_betterBy_316 N m b (nI v) σ = some (0, σ) ∧ ∀ w, w < V → freeV σ w → dV σ w ≤ 0) ∨ ∃ k, k < V ∧ freeV σ k ∧ 0 < dV σ k ∧ (∀ w, w < V → freeV σ w → dV σ w ≤ dV σ k) ∧ fM_betterBy_316 N m b (nI v) σ = fM_betterBy_409 N N (σ.1 335 0 0 k) (nI k) (σ.1 336 0 0 k) σ := by
  have v2 := hG.V2
  intro e
  induction e with
  | zero =>
    intro v m b h1 h2 hI
    obtain ⟨m, rfl⟩ : ∃ q, m = q + 1 := ⟨m - 1, by omega⟩
    have : v = V := by omega
    subst this
    have e0 : fM_betterBy_316 N (m + 1) b (nI v) σ = if b = (-1) then some (0, σ) else chk (inb b 24) <| nm ((σ.1 335 0 0 b.toNatClampNeg)) fun (y1 : Int32) => nm ((σ.1 336 0 0 b.toNatClampNeg)) fun (y2 : Int32) => fM_betterBy_409 N N y1 b y2 σ := by
      show (if σ.1 316 0 0 0 ≤ nI v then _ else _) = _
      rw [hG.V, if_pos (Int32.le_refl _)]
    rw [e0]
    rcases hI with ⟨i1, i2⟩ | ⟨k, k1, k2, k3, k4, k5⟩
    · exact Or.inl ⟨if_pos i1, i2⟩
    · refine Or.inr ⟨k, k2, k3, k4, k5, ?_⟩
      rw [k1, if_neg (m1_ne (by omega)), chk_t (inb_n (by omega) (by decide)), nmx, nmx, nI_clamp (by omega)]
  | succ e ih =>
    intro v m b h1 h2 hI
    obtain ⟨m, rfl⟩ : ∃ q, m = q + 1 := ⟨m - 1, by omega⟩
    have e0 : fM_betterBy_316 N (m + 1) b (nI v) σ = if hV σ v = (-1) then if σ.1 335 0 0 v ≤ 0 then fM_betterBy_316 N m b (nI (v + 1)) σ else if b = (-1) then fM_betterBy_316 N m (nI v) (nI (v + 1)) σ else chk (inb b 24) <| if σ.1 335 0 0 v ≤ σ.1 335 0 0 b.toNatClampNeg then fM_betterBy_316 N m b (nI (v + 1)) σ else fM_betterBy_316 N m (nI v) (nI (v + 1)) σ else fM_betterBy_316 N m b (nI (v + 1)) σ := by
      show (if σ.1 316 0 0 0 ≤ nI v then _ else chk (inb (nI v) 24) <| if (σ.1 334 0 0 (nI v).toNatClampNeg) = (-1) then if (σ.1 335 0 0 (nI v).toNatClampNeg) ≤ 0 then (fM_betterBy_316 N m) b (nI v + 1) σ else if b = (-1) then fM_betterBy_316 N m (nI v) (nI v + 1) σ else chk (inb b 24) <| if (σ.1 335 0 0 (nI v).toNatClampNeg) ≤ (σ.1 335 0 0 b.toNatClampNeg) then (fM_betterBy_316 N m) b (nI v + 1) σ else fM_betterBy_316 N m (nI v) (nI v + 1) σ else (fM_betterBy_316 N m) b (nI v + 1) σ) = _
      rw [hG.V, if_neg (nI_ge (by omega) (by omega)), chk_t (inb_n (by omega) (by decide)), nI_clamp (by omega), nI_1]
      rfl
    rw [e0]
    by_cases c1 : hV σ v = -1
    · rw [if_pos c1]
      by_cases c2 : σ.1 335 0 0 v ≤ 0
      · rw [if_pos c2]
        have c3 : dV σ v ≤ 0 := Int32.le_iff_toInt_le.mp c2
        refine ih (v + 1) m b (by omega) (by omega) ?_
        rcases hI with ⟨i1, i2⟩ | ⟨k, k1, k2, k3, k4, k5⟩
        · exact Or.inl ⟨i1, fun w hw f => if z : w = v then z ▸ c3 else i2 w (by omega) f⟩
        · refine Or.inr ⟨k, k1, k2, k3, k4, fun w hw f => ?_⟩
          by_cases z : w = v
          · rw [z]; omega
          · exact k5 w (by omega) f
      · rw [if_neg c2]
        have c3 : 0 < dV σ v := Int32.lt_iff_toInt_lt.mp (Int32.not_le.mp c2)
        rcases hI with ⟨i1, i2⟩ | ⟨k, k1, k2, k3, k4, k5⟩
        · rw [if_pos i1]
          refine ih (v + 1) m _ (by omega) (by omega) (Or.inr ⟨v, rfl, by omega, c1, c3, fun w hw f => ?_⟩)
          by_cases z : w = v
          · rw [z]; exact Int.le_refl _
          · have := i2 w (by omega) f
            omega
        · rw [k1, if_neg (m1_ne (by omega)), chk_t (inb_n (by omega) (by decide)), nI_clamp (by omega)]
          by_cases c4 : σ.1 335 0 0 v ≤ σ.1 335 0 0 k
          · rw [if_pos c4]
            have c5 : dV σ v ≤ dV σ k := Int32.le_iff_toInt_le.mp c4
            refine ih (v + 1) m _ (by omega) (by omega) (Or.inr ⟨k, rfl, k2, k3, k4, fun w hw f => ?_⟩)
            by_cases z : w = v
            · rw [z]; exact c5
            · exact k5 w (by omega) f
          · rw [if_neg c4]
            have c5 : dV σ k < dV σ v := Int32.lt_iff_toInt_lt.mp (Int32.not_le.mp c4)
            refine ih (v + 1) m _ (by omega) (by omega) (Or.inr ⟨v, rfl, by omega, c1, c3, fun w hw f => ?_⟩)
            by_cases z : w = v
            · rw [z]; exact Int.le_refl _
            · have := k5 w (by omega) f
              omega
    · rw [if_neg c1]
      refine ih (v + 1) m b (by omega) (by omega) ?_
      rcases hI with ⟨i1, i2⟩ | ⟨k, k1, k2, k3, k4, k5⟩
      · refine Or.inl ⟨i1, fun w hw f => ?_⟩
        by_cases z : w = v
        · rw [z] at f; exact absurd f c1
        · exact i2 w (by omega) f
      · refine Or.inr ⟨k, k1, k2, k3, k4, fun w hw f => ?_⟩
        by_cases z : w = v
        · rw [z] at f; exact absurd f c1
        · exact k5 w (by omega) f
theorem cnt_lt {p q : Nat → Bool} {a n : Nat} (h : ∀ w, w < n → p w = true → q w = true) (ha : a < n) (h1 : q a = true) (h2 : p a = false) : cnt p n < cnt q n := by
  have e := cnt_add (p := p) (q := insU p a) h2 (insU_s p a) (fun x z => insU_o z) n ha
  have l := inj_cnt (m := n) (f := fun i => i) n (insU p a) q (fun i hi z => ⟨hi, by
    by_cases k : i = a
    · rw [k]; exact h1
    · rw [insU_o k] at z
      exact h i hi z⟩) (fun i j _ _ _ _ z => z)
  omega
def rkC (V : Nat) (rk : Nat → Nat) (v : Nat) : Nat := cnt (fun w => decide (rk w < rk v)) V
theorem rkC_lt {V a v : Nat} {rk : Nat → Nat} (ha : a < V) (h : rk a < rk v) : rkC V rk a < rkC V rk v := cnt_lt (fun w _ z => by
  simp at z ⊢
  omega) ha (by simp [h]) (by simp)
def setH (σ : St) (v q : Nat) : St := sI σ 334 0 0 v (nI q)
theorem hV_s {σ : St} {v q : Nat} : hV (setH σ v q) v = nI q := sI_s _ _ _ _ _ _
theorem hV_o {σ : St} {v q w : Nat} (h : w ≠ v) : hV (setH σ v q) w = hV σ w := sI_i h
theorem walk409 {N P V F : Nat} {G : Nat → Nat → Nat} {U : Nat → Bool} {s : Nat → Nat} {x y : Nat → Int} {l l' : Int} {rk : Nat → Nat} {won : Int32} {ρ : St} (hN : 100 ≤ N) (hG : GnS G P V ρ) (D : DU (gm G U) s F P V x y l) (D' : DU (gm G U) s F P V (xN (gm G U) s V (yN y (dV ρ) l') l') (yN y (dV ρ) l') l') (hR : ∀ a b, a < V → b < V → Rx (gm G U) s F P (dV ρ) a b) (h0 : 0 ≤ l') (hp : ∀ v, v < V → -1000000 < dV ρ v → ∃ q, F ≤ q ∧ q < P ∧ cV ρ v = nI q ∧ gm G U q v ≠ 0 ∧ ((V ≤ s q ∧ dV ρ v = (gm G U q v : Int)) ∨ (s q < V ∧ s q ≠ v ∧ -1000000 < dV ρ (s q) ∧ dV ρ v ≤ dV ρ (s q) - (gm G U q (s q) : Int) + (gm G U q v : Int) ∧ rk (s q) < rk v))) : ∀ (e v m : Nat) (σ : St) (s1 : Nat → Nat), rk v < e → e ≤ m → (∀ f a b i, f ≠ 334 → σ.1 f a b i = ρ.1 f a b i) → σ.2 = ρ.2 → WK (gm G U) s F P V (xN (gm G U) s V (yN y (dV ρ) l') l') (yN y (dV ρ) l') l' rk s1 (hV σ) v → y v + l' ≤ dV ρ v → ∃ σ' s' j, fM_betterBy_409 N m won (nI v) (cV ρ v) σ = some (won, σ') ∧ (∀ f a b i, f ≠ 334 → σ'.1 f a b i = ρ.1 f a b i) ∧ σ'.2 = ρ.2 ∧ DU (gm G U) s' F P V (xN (gm G U) s V (yN y (dV ρ) l') l') (yN y (dV ρ) l') l' ∧ Mt s' F P V (hV σ') V ∧ F ≤ j ∧ j < P ∧ V ≤ s j ∧ s' j < V ∧ ∀ r, F ≤ r → r < P → r ≠ j → (s' r < V ↔ s r < V) := by
  have v2 := hG.V2
  have p2 := hG.P2
  intro e
  induction e with
  | zero =>
    intro v m σ s1 h1
    exact absurd h1 (by omega)
  | succ e ih =>
    intro v m σ s1 h1 h2 hf h3 W hy
    obtain ⟨m, rfl⟩ : ∃ q, m = q + 1 := ⟨m - 1, by omega⟩
    have y0 := D.y0 v W.v
    have vv := W.v
    obtain ⟨q, q1, q2, q3, q4, q5⟩ := hp v W.v (by omega)
    have hne : hV σ v ≠ nI q := fun z => by
      rcases W.w with w | ⟨r, r1, r2, r3, r4⟩
      · rw [w] at z; exact absurd z (m1_ne' (by omega))
      · rw [r3] at z
        have := nIj (by omega) (by omega) z
        rw [this] at r4
        rcases q5 with k | k
        · omega
        · exact k.2.1 r4
    have e0 : s1 q = s q → fM_betterBy_409 N (m + 1) won (nI v) (cV ρ v) σ = if s q < V then fM_betterBy_409 N m won (nI (s q)) (cV ρ (s q)) (setH σ v q) else some (won, setH σ v q) := fun z => by
      rw [q3]
      show (if nI q = (-1) then _ else bn1 (fM_holds N (nI q) σ) fun r1 => chk (inb (nI v) 24) <| nm (sI σ 334 0 0 (nI v).toNatClampNeg (nI q)) fun (σ2 : St) => if r1 = (-1) then some (won, σ2) else chk (inb r1 24) <| nm ((σ2.1 336 0 0 r1.toNatClampNeg)) fun (y3 : Int32) => (fM_betterBy_409 N m) won r1 y3 σ2) = _
      rw [if_neg (m1_ne (by omega)), holds_e (s := s1) (F := F) (P := P) (e := v) hN ((hf _ _ _ _ (by decide)).trans hG.V) v2 p2 W.m (fun _ => hne) q1 q2, bn1_e, chk_t (inb_n (by omega) (by decide)), nmx, nI_clamp (by omega), z]
      by_cases k : s q < V
      · rw [if_pos k, if_pos k, if_neg (m1_ne (by omega)), chk_t (inb_n (by omega) (by decide)), nmx, nI_clamp (by omega), sI_o (by decide), hf _ _ _ _ (by decide)]
        rfl
      · rw [if_neg k, if_neg k, if_pos rfl]
        rfl
    rcases q5 with k | k
    · have t := (way_t (c := cV ρ) D hR h0 W.v q1 q2 q4 hy (Or.inl k)).1
      obtain ⟨d1, d2, d3⟩ := W.last (h' := hV (setH σ v q)) p2 D' q1 q2 k.1 q4 t hV_s (fun u k => hV_o k)
      refine ⟨setH σ v q, sU s1 q v, q, ?_, fun f a b i z => ?_, h3, d1, d2, q1, q2, k.1, by rw [sU_s]; exact W.v, fun r r1 r2 r3 => by rw [sU_o r3]; exact W.c r r1 r2⟩
      · rw [e0 d3, if_neg (by omega)]
      · unfold setH
        rw [sI_o z]
        exact hf f a b i z
    · obtain ⟨k1, k2, k3, k4, k5⟩ := k
      obtain ⟨t1, t2⟩ := way_t (c := cV ρ) D hR h0 W.v q1 q2 q4 hy (Or.inr ⟨k1, k2, k3, k4⟩)
      obtain ⟨w1, w2⟩ := W.step (h' := hV (setH σ v q)) p2 q1 q2 k1 k5 k2 q4 t1 hV_s (fun u k => hV_o k)
      rw [e0 w2, if_pos k1]
      refine ih (s q) m (setH σ v q) (sU s1 q v) (by omega) (by omega) (fun f a b i z => ?_) h3 w1 (t2 k1)
      unfold setH
      rw [sI_o z]
      exact hf f a b i z
