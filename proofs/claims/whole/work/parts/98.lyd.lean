/-! a clause's value in the reference -/
theorem div24 {y : Nat} (hy : y < 408) : nI y / 24 = nI (y / 24) := by
  have : ∀ y, y < 408 → nI y / 24 = nI (y / 24) := by decide +kernel
  exact this y hy
theorem told0_e {N t i : Nat} {vs : Nat → Int64} {c : Cl} {μ : St} (hN : 1000 ≤ N) (ht : t < 17) (hi : i < 24) (hk : ClOk c) (hM : ClM t 900 i c μ) (hw : 2 ≤ c.wh) (hv : VM N μ vs) : ∃ μ', fM_told0 N (nI (24 * t + i)) μ = some (cv vs c, μ') ∧ Sk 267 μ μ' := by
  obtain ⟨-, -, -, -, k5⟩ := hk
  obtain ⟨k6, k7, k8⟩ := k5 hw
  obtain ⟨-, -, -, -, m5⟩ := hM
  obtain ⟨e1, e2, e3, e4, e5, e6⟩ := m5 hw
  have ea : (1000 : Int32) * (nI (24 * t + i) / 24) = nI (1000 * t) := by
    rw [div24 (by omega), show (24 * t + i) / 24 = t by omega]
    exact (Int32.ofNat_mul 1000 t).symm
  have le := k6.2.2.2.1.1
  have h51 : ∀ μ1 : St, Sk 267 μ μ1 → ∃ μ', fM_told0_51 N (nI (24 * t + i)) (nI (1000 * t)) μ1 = some (c.e.ev vs, μ') ∧ Sk 267 μ μ' := by
    intro μ1 hs
    obtain ⟨μ', s1, s2⟩ := worked_e (N := N) (vs := vs) (e := c.e) (i := 1000 * t + c.pM) (μ := μ1) hN k6 (fun k hk μ2 h2 => hv k hk μ2 (h2.trans hs.1)) (by rw [hs.1]; exact e4) (by omega) (by omega) k7
    refine ⟨μ', ?_, ⟨s1.1.trans hs.1, fun f a b j q => (s1.2 f a b j q).trans (hs.2 f a b j q)⟩⟩
    unfold fM_told0_51
    rw [chk_t (inb_n (by omega) (by decide)), nI_clamp (by omega), hs.1, show μ.1 242 0 0 (24 * t + i) = nI c.pM from e1, show μ.1 243 0 0 (24 * t + i) = nI (c.pM + c.e.cM.length) from e2, nI_add, nI_add, ← Nat.add_assoc, s2, bnd_e]
  unfold fM_told0
  rw [ea, nmx, chk_t (inb_n (by omega) (by decide)), nI_clamp (by omega), show μ.1 244 0 0 (24 * t + i) = _ from e3, show μ.1 243 0 0 (24 * t + i) = nI (c.pM + c.e.cM.length) from e2]
  unfold cv
  cases hu : c.u with
  | none =>
    rw [hu] at e5 e6
    rw [show (uM none).length = 0 from rfl, Nat.add_zero, if_pos (Int32.le_refl _)]
    exact h51 μ ⟨rfl, fun _ _ _ _ _ => rfl⟩
  | some d =>
    rw [hu] at e5 e6
    obtain ⟨d1, d2⟩ := k8 d hu
    have ld := d1.2.2.2.1.1
    have ld2 := d1.2.2.2.2
    rw [show uM (some d) = d.cM from rfl] at e5 e6 ⊢
    rw [if_neg (nI_ge (by omega) (by omega)), nI_add, nI_add]
    obtain ⟨μ1, s1, s2⟩ := worked_e (N := N) (vs := vs) (e := d) (i := 1000 * t + (c.pM + c.e.cM.length)) (μ := μ) hN d1 hv e5 (by omega) (by omega) d2
    rw [show 1000 * t + (c.pM + c.e.cM.length + d.cM.length) = 1000 * t + (c.pM + c.e.cM.length) + d.cM.length by omega, s2, bnd_e]
    dsimp only
    by_cases z : d.ev vs = 0
    · rw [if_pos z, if_pos (czp z)]
      exact h51 μ1 s1
    · rw [if_neg z, if_neg (czn z)]
      exact ⟨μ1, rfl, s1⟩
