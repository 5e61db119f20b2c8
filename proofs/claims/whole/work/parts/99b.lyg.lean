/-! a bar in the reference -/
theorem lim_n (x : Int64) : ∃ n : Nat, n ≤ 9999 ∧ lim x = nI n ∧ ((0 < (if x < 9999 then x else 9999)) ↔ 1 ≤ n) ∧ (0 < (if x < 9999 then x else 9999) → (if x < 9999 then x else 9999).toInt32 = nI n ∧ (if x < 9999 then x else 9999) = (nI n).toInt64) := by
  obtain ⟨l, hl⟩ : ∃ l, l = (if x < 9999 then x else 9999) := ⟨_, rfl⟩
  have hl2 : l.toInt ≤ 9999 := by
    rw [hl]
    by_cases c : x < 9999
    · rw [if_pos c]
      rw [Int64.lt_iff_toInt_lt] at c
      have : (9999 : Int64).toInt = 9999 := by decide
      omega
    · rw [if_neg c]
      decide
  unfold lim
  rw [← hl]
  by_cases c : 0 < l
  · rw [if_pos c]
    have c' := c
    rw [Int64.lt_iff_toInt_lt, Int64.toInt_zero] at c'
    have e1 : l.toInt32 = nI l.toInt.toNat := by
      apply Int32.toInt_inj.mp
      rw [Int64.toInt_toInt32, nI_toInt (by omega), Int.bmod_eq_of_le (by omega) (by omega)]
      omega
    refine ⟨l.toInt.toNat, by omega, e1, ⟨fun _ => by omega, fun _ => c⟩, fun _ => ⟨e1, ?_⟩⟩
    apply Int64.toInt_inj.mp
    rw [Int32.toInt_toInt64, nI_toInt (by omega)]
    omega
  · rw [if_neg c]
    exact ⟨0, by omega, rfl, ⟨fun q => absurd q c, fun q => by omega⟩, fun q => absurd q c⟩
/-- what a bar may write -/
def BrX (μ μ' : St) : Prop := (∀ f a b i, ¬ (f = 287 ∨ (301 ≤ f ∧ f ≤ 303)) → μ'.1 f a b i = μ.1 f a b i) ∧ ∀ f a b i, f ≠ 267 → μ'.2 f a b i = μ.2 f a b i
theorem mxI_i (a b : Int32) : (mxI a b).toInt = if a.toInt < b.toInt then b.toInt else a.toInt := by
  unfold mxI
  by_cases c : a < b
  · rw [if_pos c, if_pos (Int32.lt_iff_toInt_lt.mp c)]
  · rw [if_neg c, if_neg (fun q => c (Int32.lt_iff_toInt_lt.mpr q))]
theorem bar_e {N n p d nb nc e : Nat} {E : Env} {fr to : Nat → Int32} {vs : Nat → Int64} {s : Lfe} {μ : St} (hN : 1000 ≤ N) (hT : TxM E.TC n μ) (hn : n ≤ 17) (hsh : E.sh d = shOf E.TC fr to n d) (hS : ShM E.TC (E.sh d) μ) (hv : VM N μ vs) (hp : p < 20) (hd1 : 312 ≤ d) (hd : d < 936) (hnow : μ.1 269 0 0 0 = nI d) (he : e < 160) (hB : RfB p d μ s nb) (hb : nb < 160) :
    ∃ μ' nb', fM_bar N (nI p) (nI e) μ = some μ' ∧ BrX μ μ' ∧ PnX p nc nc nb nb' μ μ' ∧ nb' ≤ nb + 1 ∧ RfB p d μ' (if μ.1 278 0 0 e = 0 then sBar E d vs s else s) nb' := by
  have hd3 : (nI d).toInt = d := nI_toInt (by omega)
  unfold fM_bar
  rw [chk_t (inb_n he (by decide)), nI_clamp (by omega)]
  by_cases ce : μ.1 278 0 0 e = 0
  · rw [if_pos (show μ.1 278 0 0 e = 0 from ce), if_pos ce]
    obtain ⟨μ1, t1, t2⟩ := barDays_M (N := N) (vs := vs) hN hT hn hsh hS hv
    rw [t1, bnd_e, minJ, bn1_e]
    obtain ⟨m, l1, l2, l3, l4⟩ := lim_n (bar64 E d vs)
    have ebar : barD E d vs = nI m := (barD_64 E d vs).trans l2
    have eto : (nI d + nI m - 1).toInt = (d : Int) + m - 1 := by
      rw [nI_add]
      rw [sub_i (by rw [nI_toInt (by omega), show (1 : Int32).toInt = 1 from by decide]; omega) (by rw [nI_toInt (by omega), show (1 : Int32).toInt = 1 from by decide]; omega), nI_toInt (by omega), show (1 : Int32).toInt = 1 from by decide]
      omega
    have esb : (sBar E d vs s 90 0).toInt = if (s 90 0).toInt < (d : Int) + m - 1 then (d : Int) + m - 1 else (s 90 0).toInt := by
      unfold sBar
      rw [uL_s, mxI_i, ebar, eto]
    have hrg := hB.rg
    by_cases c : 0 < (if bar64 E d vs < 9999 then bar64 E d vs else 9999)
    · obtain ⟨l5, l6⟩ := l4 c
      have m1 : 1 ≤ m := l3.mp c
      rw [if_pos (show 0 < lg_cmp (if bar64 E d vs < 9999 then bar64 E d vs else 9999) 0 by rw [cmp_p]; exact c), l5]
      have b0 : μ1.1 287 0 0 0 = nI nb := by rw [t2.1]; exact hB.nb
      have n0 : μ1.1 269 0 0 0 = nI d := by rw [t2.1]; exact hnow
      have a1 : (sI μ1 301 0 0 nb (nI p)).1 269 0 0 0 = nI d := (sI_o (by decide)).trans n0
      have a2 : (sI μ1 301 0 0 nb (nI p)).1 287 0 0 0 = nI nb := (sI_o (by decide)).trans b0
      have a3 : (sI (sI μ1 301 0 0 nb (nI p)) 302 0 0 nb (nI d)).1 269 0 0 0 = nI d := (sI_o (by decide)).trans a1
      have a4 : (sI (sI μ1 301 0 0 nb (nI p)) 302 0 0 nb (nI d)).1 287 0 0 0 = nI nb := (sI_o (by decide)).trans a2
      have a5 : (sI (sI (sI μ1 301 0 0 nb (nI p)) 302 0 0 nb (nI d)) 303 0 0 nb (nI d + nI m - 1)).1 287 0 0 0 = nI nb := (sI_o (by decide)).trans a4
      rw [b0, chk_t (inb_n hb (by decide)), nmx, nI_clamp (by omega), a1, a2, chk_t (inb_n hb (by decide)), nmx, nI_clamp (by omega), a3, a4, chk_t (inb_n hb (by decide)), nmx, nI_clamp (by omega), a5, nmx, nI_1]
      obtain ⟨μ2, h2⟩ : ∃ μ2, μ2 = sI (sI (sI (sI μ1 301 0 0 nb (nI p)) 302 0 0 nb (nI d)) 303 0 0 nb (nI d + nI m - 1)) 287 0 0 0 (nI (nb + 1)) := ⟨_, rfl⟩
      have fo : ∀ f a b i, ¬ (f = 287 ∨ (301 ≤ f ∧ f ≤ 303)) → μ2.1 f a b i = μ.1 f a b i := fun f a b i q => by rw [h2, sI_o (by omega), sI_o (by omega), sI_o (by omega), sI_o (by omega), t2.1]
      have fj : ∀ f a b i, f ≠ 267 → μ2.2 f a b i = μ.2 f a b i := fun f a b i q => by rw [h2]; exact t2.2 f a b i q
      have fb : ∀ j, j < nb → ∀ f, 301 ≤ f ∧ f ≤ 303 → μ2.1 f 0 0 j = μ.1 f 0 0 j := fun j hj f q => by
        rw [h2, sI_o (by omega), sI_1, if_neg (fun z => by have := z.2.2.2; omega), sI_1, if_neg (fun z => by have := z.2.2.2; omega), sI_1, if_neg (fun z => by have := z.2.2.2; omega), t2.1]
      have w1 : μ2.1 301 0 0 nb = nI p := by rw [h2, sI_o (by decide), sI_o (by decide), sI_o (by decide), sI_s]
      have w2 : μ2.1 302 0 0 nb = nI d := by rw [h2, sI_o (by decide), sI_o (by decide), sI_s]
      have w3 : μ2.1 303 0 0 nb = nI d + nI m - 1 := by rw [h2, sI_o (by decide), sI_s]
      have w4 : μ2.1 287 0 0 0 = nI (nb + 1) := by rw [h2, sI_s]
      refine ⟨μ2, nb + 1, by rw [h2], ⟨fo, fj⟩, ⟨fun f a b i q => fo f a b i (by omega), fun f i q _ => fo f 0 0 i (by omega), Nat.le_refl _, fun j _ _ f q => fo f 0 0 j (by omega), fun j _ => fo _ 0 0 j (by decide), fun j a b => by omega, Nat.le_succ _, fb, fun j a b => by
        obtain rfl : j = nb := by omega
        exact w1, fun f i q _ => fo f 0 0 i (by omega), fun f a b i q _ _ => fj f a b i q, fun j _ _ => fj _ 0 0 j (by decide), fun i _ => fj _ 0 0 i (by decide)⟩, Nat.le_refl _, ⟨w4, fun b hb2 => ?_, fun d' q1 q2 => ?_, ?_, by omega⟩⟩
      · by_cases z : b = nb
        · rw [z, w2, hd3]
          exact Int.le_refl _
        · rw [fb b (by omega) _ (by decide)]
          exact hB.fr b (by omega)
      · rw [esb]
        have h3 := hB.eq d' q1 q2
        constructor
        · rintro ⟨b, x1, x2, x3⟩
          by_cases z : b = nb
          · rw [z, w3, eto] at x3
            split <;> omega
          · have := h3.mp ⟨b, by omega, by rw [← fb b (by omega) _ (by decide)]; exact x2, by rw [← fb b (by omega) _ (by decide)]; exact x3⟩
            split <;> omega
        · intro x
          by_cases z : (d' : Int) ≤ (d : Int) + m - 1
          · exact ⟨nb, by omega, w1, by rw [w3, eto]; exact z⟩
          · have hx : (d' : Int) ≤ (s 90 0).toInt := by
              split at x <;> omega
            obtain ⟨b, x1, x2, x3⟩ := h3.mpr hx
            exact ⟨b, by omega, by rw [fb b x1 _ (by decide)]; exact x2, by rw [fb b x1 _ (by decide)]; exact x3⟩
      · rw [esb]
        split <;> omega
    · rw [if_neg (show ¬ 0 < lg_cmp (if bar64 E d vs < 9999 then bar64 E d vs else 9999) 0 by rw [cmp_p]; exact c)]
      have m0 : m = 0 := by
        rcases Nat.eq_zero_or_pos m with z | z
        · exact z
        · exact absurd (l3.mpr z) c
      refine ⟨μ1, nb, rfl, ⟨fun _ _ _ _ _ => by rw [t2.1], t2.2⟩, PnX.sk t2, Nat.le_succ _, ⟨by rw [t2.1]; exact hB.nb, by rw [t2.1]; exact hB.fr, fun d' q1 q2 => ?_, ?_, hB.bd⟩⟩
      · rw [t2.1, hB.eq d' q1 q2, esb, m0]
        split <;> omega
      · rw [esb, m0]
        split <;> omega
  · rw [if_neg (show ¬ μ.1 278 0 0 e = 0 from ce), if_neg ce]
    exact ⟨μ, nb, rfl, ⟨fun _ _ _ _ _ => rfl, fun _ _ _ _ _ => rfl⟩, PnX.rf, Nat.le_succ _, hB⟩
