/-! expressions: what both codes come to -/
/-- the sign of an operator in the class' code -/
def sg : Nat → Int32
  | 1 => -43 | 2 => -45 | 3 => -42 | 4 => -47 | 5 => -60 | 6 => -61 | 7 => -3 | _ => -2
def op2 (o : Nat) (x y : Int64) : Int64 :=
  match o with
  | 1 => x + y
  | 2 => x - y
  | 3 => x * y
  | 4 => if y = 0 then 0 else x / y
  | 5 => if x < y then 1 else 0
  | 6 => if x = y then 1 else 0
  | 7 => if x = 0 then 0 else if y = 0 then 0 else 1
  | _ => if x = 0 then (if y = 0 then 0 else 1) else 1
/-- an expression: the class' code, the reference's, what it comes to, how high the stack gets -/
abbrev Ex : Type := List Int32 × List Int32 × ((Nat → Int64) → Int64) × Nat
def Ex.cX (e : Ex) : List Int32 := e.1
def Ex.cM (e : Ex) : List Int32 := e.2.1
def Ex.ev (e : Ex) (vs : Nat → Int64) : Int64 := e.2.2.1 vs
def Ex.hgt (e : Ex) : Nat := e.2.2.2
def Ex.num (v : Nat) : Ex := ([nI v], [0, nI v], fun _ => (nI v).toInt64, 1)
def Ex.val (k : Nat) : Ex := ([nI (100000 + k)], [nI (20 + k)], fun vs => vs k, 1)
def Ex.neg (a : Ex) : Ex := (a.cX ++ [-4], a.cM ++ [9], fun vs => if a.ev vs = 0 then 1 else 0, a.hgt)
def Ex.bin (o : Nat) (a b : Ex) : Ex := (a.cX ++ (b.cX ++ [sg o]), a.cM ++ (b.cM ++ [nI o]), fun vs => op2 o (a.ev vs) (b.ev vs), max a.hgt (1 + b.hgt))
def At (g : Nat → Int32) : Nat → List Int32 → Prop
  | _, [] => True
  | i, x :: l => g i = x ∧ At g (i + 1) l
theorem At_app {g : Nat → Int32} : ∀ (l : List Int32) (i : Nat) (k : List Int32), At g i (l ++ k) ↔ At g i l ∧ At g (i + l.length) k
  | [], i, k => by simp [At]
  | x :: l, i, k => by
    rw [List.cons_append]
    show (g i = x ∧ At g (i + 1) (l ++ k)) ↔ (g i = x ∧ At g (i + 1) l) ∧ _
    rw [At_app l (i + 1) k, List.length_cons, and_assoc, show i + 1 + l.length = i + (l.length + 1) by omega]
theorem At_eq {g g' : Nat → Int32} : ∀ (l : List Int32) (i : Nat), (∀ j, i ≤ j → j < i + l.length → g' j = g j) → At g i l → At g' i l
  | [], i, h, _ => trivial
  | x :: l, i, h, ⟨h1, h2⟩ => by
    rw [List.length_cons] at h
    exact ⟨(h i (by omega) (by omega)).trans h1, At_eq l (i + 1) (fun j a b => h j (by omega) (by omega)) h2⟩
theorem cmp_z (x y : Int64) : (lg_cmp x y = 0) = (x = y) := propext ((cmpz x y).trans (fa_eq64 x y).symm)
theorem czp {x : Int64} (h : x = 0) : lg_cmp x 0 = 0 := (cmp_z x 0).symm ▸ h
theorem czn {x : Int64} (h : ¬ x = 0) : ¬ lg_cmp x 0 = 0 := fun e => h (Eq.mp (cmp_z x 0) e)
theorem cmp_g (x y : Int64) : (0 ≤ lg_cmp x y) = ¬ x < y := by
  unfold lg_cmp
  by_cases c1 : x > y
  · rw [if_pos c1]
    refine propext ⟨fun _ h => ?_, fun _ => by decide⟩
    rw [fa_lt64] at h
    have c1 : y < x := c1
    rw [fa_lt64] at c1
    omega
  · rw [if_neg c1]
    by_cases c2 : x = y
    · rw [if_pos c2]
      refine propext ⟨fun _ h => ?_, fun _ => by decide⟩
      rw [fa_lt64, c2] at h
      omega
    · rw [if_neg c2]
      refine propext ⟨fun h => absurd h (by decide), fun h => ?_⟩
      exfalso
      have c1 : ¬ y < x := c1
      rw [fa_lt64] at h c1
      rw [fa_eq64] at c2
      omega
theorem join_e {N o : Nat} (ho : 1 ≤ o ∧ o ≤ 8) (x y : Int64) (σ : St) : fAct_join N (sg o) x y σ = some (op2 o x y) := by
  rcases (by omega : o = 1 ∨ o = 2 ∨ o = 3 ∨ o = 4 ∨ o = 5 ∨ o = 6 ∨ o = 7 ∨ o = 8) with rfl | rfl | rfl | rfl | rfl | rfl | rfl | rfl <;>
  unfold fAct_join fAct_join_156 sg op2 <;> simp (decide := true) only [cmp_z, cmp_g, chk, reduceIte, ite_not] <;> (repeat' split) <;> first | rfl | contradiction
theorem two_e {N o : Nat} (ho : 1 ≤ o ∧ o ≤ 8) (x y : Int64) (σ : St) : fM_two N (nI o) x y σ = some (op2 o x y) := by
  rcases (by omega : o = 1 ∨ o = 2 ∨ o = 3 ∨ o = 4 ∨ o = 5 ∨ o = 6 ∨ o = 7 ∨ o = 8) with rfl | rfl | rfl | rfl | rfl | rfl | rfl | rfl <;>
  unfold fM_two fM_two_124 op2 <;> simp (decide := true) only [cmp_z, cmp_g, chk, reduceIte, ite_not] <;> (repeat' split) <;> first | rfl | contradiction
theorem nI_subl {a k : Nat} : nI (a + k) - nI a = nI k := by
  rw [Nat.add_comm, ← nI_add, Int32.add_sub_cancel]
theorem nI_pred' (n : Nat) : nI (n + 1) + -1 = nI n := by
  rw [nI_succ, Int32.add_assoc]
  show nI n + 0 = nI n
  rw [Int32.add_zero]
/-- only the longs of one field differ -/
def Sk (f : Nat) (σ σ' : St) : Prop := σ'.1 = σ.1 ∧ ∀ f' a b i, f' ≠ f → σ'.2 f' a b i = σ.2 f' a b i
theorem Sk.rfl' {f : Nat} {σ : St} : Sk f σ σ := ⟨rfl, fun _ _ _ _ _ => rfl⟩
theorem Sk.tr {f : Nat} {σ σ' σ'' : St} (h : Sk f σ σ') (h2 : Sk f σ' σ'') : Sk f σ σ'' := ⟨h2.1.trans h.1, fun f' a b i e => (h2.2 f' a b i e).trans (h.2 f' a b i e)⟩
theorem Sk.s {f a b i : Nat} {σ : St} {x : Int64} : Sk f σ (sJ σ f a b i x) := ⟨rfl, fun _ _ _ _ e => sJ_o e⟩
def VX (kv : Nat) (σ : St) (vs : Nat → Int64) : Prop := ∀ k, k < 20 → σ.2 72 kv 0 k = vs k
/-- the values that the reference reads, whatever lies on its stack -/
def VM (N : Nat) (μ : St) (vs : Nat → Int64) : Prop := ∀ k, k < 20 → ∀ μ' : St, μ'.1 = μ.1 → fM_valueOf N (nI k) μ' = some (vs k)
def Ex.okX (e : Ex) : Prop := ∀ (N ka kv : Nat) (vs : Nat → Int64) (h i m L : Nat) (σ : St), VX kv σ vs → At (fun j => σ.1 1 ka 0 j) i e.cX → i + e.cX.length ≤ L → L ≤ 600 → σ.1 2 ka 0 0 = nI L → h + e.hgt ≤ 40 →
    ∃ σ', Sk 73 σ σ' ∧ (∀ j, j < h → σ'.2 73 kv 0 j = σ.2 73 kv 0 j) ∧ σ'.2 73 kv 0 h = e.ev vs ∧
      fAct_work_10 N ka kv kv (e.cX.length + m) (nI h) (nI i) σ = fAct_work_10 N ka kv kv m (nI (h + 1)) (nI (i + e.cX.length)) σ'
def Ex.okM (e : Ex) : Prop := ∀ (N : Nat) (vs : Nat → Int64) (h i m E : Nat) (μ : St), VM N μ vs → At (fun j => μ.1 245 0 0 j) i e.cM → i + e.cM.length ≤ E → E ≤ 17000 → h + e.hgt ≤ 200 →
    ∃ μ', Sk 267 μ μ' ∧ (∀ j, j < h → μ'.2 267 0 0 j = μ.2 267 0 0 j) ∧ μ'.2 267 0 0 h = e.ev vs ∧
      fM_worked_5 N (e.cX.length + m) (nI E) (nI h) (nI i) μ = fM_worked_5 N m (nI E) (nI (h + 1)) (nI (i + e.cM.length)) μ'
def Ex.ok (e : Ex) : Prop := e.okX ∧ e.okM ∧ 1 ≤ e.hgt ∧ (e.cX.length ≤ e.cM.length ∧ e.cM.length ≤ 2 * e.cX.length) ∧ 1 ≤ e.cX.length
theorem Ex.hgt_pos {e : Ex} (h : e.ok) : 1 ≤ e.hgt := h.2.2.1
theorem wkX {N ka kv : Nat} {vs : Nat → Int64} (e : Ex) (h i m L : Nat) (σ : St) (hok : e.ok) (hv : VX kv σ vs) : At (fun j => σ.1 1 ka 0 j) i e.cX → i + e.cX.length ≤ L → L ≤ 600 → σ.1 2 ka 0 0 = nI L → h + e.hgt ≤ 40 →
    ∃ σ', Sk 73 σ σ' ∧ (∀ j, j < h → σ'.2 73 kv 0 j = σ.2 73 kv 0 j) ∧ σ'.2 73 kv 0 h = e.ev vs ∧
      fAct_work_10 N ka kv kv (e.cX.length + m) (nI h) (nI i) σ = fAct_work_10 N ka kv kv m (nI (h + 1)) (nI (i + e.cX.length)) σ' := hok.1 N ka kv vs h i m L σ hv
theorem wkM {N : Nat} {vs : Nat → Int64} (e : Ex) (h i m E : Nat) (μ : St) (hok : e.ok) (hv : VM N μ vs) : At (fun j => μ.1 245 0 0 j) i e.cM → i + e.cM.length ≤ E → E ≤ 17000 → h + e.hgt ≤ 200 →
    ∃ μ', Sk 267 μ μ' ∧ (∀ j, j < h → μ'.2 267 0 0 j = μ.2 267 0 0 j) ∧ μ'.2 267 0 0 h = e.ev vs ∧
      fM_worked_5 N (e.cX.length + m) (nI E) (nI h) (nI i) μ = fM_worked_5 N m (nI E) (nI (h + 1)) (nI (i + e.cM.length)) μ' := hok.2.1 N vs h i m E μ hv
theorem Ex.num_okX {v : Nat} (hok : v < 100000) : (Ex.num v).okX := by
    intro N ka kv vs h i m L σ hv hc hi hL hl hh
    have hok : v < 100000 := hok
    have hc : σ.1 1 ka 0 i = nI v := hc.1
    have hi : i + 1 ≤ L := hi
    have hh : h + 1 ≤ 40 := hh
    refine ⟨sJ σ 73 kv 0 h (nI v).toInt64, Sk.s, fun j hj => sJ_i (by omega), sJ_s .., ?_⟩
    show fAct_work_10 N ka kv kv (1 + m) (nI h) (nI i) σ = _
    rw [Nat.add_comm 1 m]
    show (if σ.1 2 ka 0 0 ≤ nI i then _ else _) = _
    rw [hl, if_neg (nI_ge (by omega) (by omega)), chk_t (inb_n (by omega) (by decide)), nI_clamp (by omega), hc, if_neg (m1_ne (by omega)), nmx, if_neg (nI_pos (by omega)), if_neg (show ¬ (40 : Int32) ≤ nI h from nI_ge (a := h) (b := 40) (by omega) (by omega)), if_neg (show ¬ (100000 : Int32) ≤ nI v from nI_ge (a := v) (b := 100000) (by omega) (by omega))]
    unfold fAct_work_74
    rw [chk_t (inb_n (by omega) (by decide)), nmx, nI_clamp (by omega), nI_1, nI_1]
    rfl
theorem Ex.val_okX {k : Nat} (hok : k < 20) : (Ex.val k).okX := by
    intro N ka kv vs h i m L σ hv hc hi hL hl hh
    have hok : k < 20 := hok
    have hc : σ.1 1 ka 0 i = nI (100000 + k) := hc.1
    have hi : i + 1 ≤ L := hi
    have hh : h + 1 ≤ 40 := hh
    refine ⟨sJ σ 73 kv 0 h (vs k), Sk.s, fun j hj => sJ_i (by omega), sJ_s .., ?_⟩
    show fAct_work_10 N ka kv kv (1 + m) (nI h) (nI i) σ = _
    rw [Nat.add_comm 1 m]
    show (if σ.1 2 ka 0 0 ≤ nI i then _ else _) = _
    rw [hl, if_neg (nI_ge (by omega) (by omega)), chk_t (inb_n (by omega) (by decide)), nI_clamp (by omega), hc, if_neg (m1_ne (by omega)), nmx, if_neg (nI_pos (by omega)), if_neg (show ¬ (40 : Int32) ≤ nI h from nI_ge (a := h) (b := 40) (by omega) (by omega)), if_pos (show (100000 : Int32) ≤ nI (100000 + k) from nI_le (a := 100000) (b := 100000 + k) (by omega) (by omega))]
    rw [show nI (100000 + k) - 100000 = nI k from nI_subl, chk_t (inb_n (by omega) (by decide)), nI_clamp (by omega), hv k hok]
    unfold fAct_work_74
    rw [chk_t (inb_n (by omega) (by decide)), nmx, nI_clamp (by omega), nI_1, nI_1]
    rfl
theorem Ex.neg_okX {a : Ex} (hok : a.ok) : (Ex.neg a).okX := by
    intro N ka kv vs h i m L σ hv hc hi hL hl hh
    have hok : a.ok := hok
    have hc2 := (At_app a.cX i [-4]).mp hc
    have hi : i + (a.cX ++ [-4]).length ≤ L := hi
    rw [List.length_append, List.length_cons, List.length_nil] at hi
    have hh : h + a.hgt ≤ 40 := hh
    obtain ⟨σ1, s1, s2, s3, s4⟩ := wkX (N := N) a h i (1 + m) L σ hok hv hc2.1 (by omega) hL hl hh
    have hp := hok.2.2.1
    refine ⟨sJ σ1 73 kv 0 h (if a.ev vs = 0 then 1 else 0), s1.tr Sk.s, fun j hj => (sJ_i (by omega)).trans (s2 j hj), sJ_s .., ?_⟩
    show fAct_work_10 N ka kv kv ((a.cX ++ [-4]).length + m) (nI h) (nI i) σ = fAct_work_10 N ka kv kv m (nI (h + 1)) (nI (i + (a.cX ++ [-4]).length)) _
    rw [List.length_append, List.length_cons, List.length_nil, Nat.add_assoc, Nat.zero_add, s4, Nat.add_comm 1 m]
    show (if σ1.1 2 ka 0 0 ≤ nI (i + a.cX.length) then _ else _) = _
    rw [s1.1, hl, if_neg (nI_ge (by omega) (by omega)), chk_t (inb_n (by omega) (by decide)), nI_clamp (by omega), show σ.1 1 ka 0 (i + a.cX.length) = -4 from hc2.2.1, if_neg (by decide), nmx, if_pos (by decide), if_pos rfl]
    rw [if_neg (nI_nle (by omega) (by omega)), nI_sub1, chk_t (inb_n (by omega) (by decide)), nI_clamp (by omega), s3]
    unfold fAct_work_114
    by_cases c : a.ev vs = 0
    · rw [if_pos (czp c), if_pos c, chk_t (inb_n (by omega) (by decide)), nmx, nI_clamp (by omega), nI_1]
      rfl
    · rw [if_neg (czn c), if_neg c, chk_t (inb_n (by omega) (by decide)), nmx, nI_clamp (by omega), nI_1]
      rfl
theorem Ex.bin_okX {o : Nat} {a b : Ex} (ho : 1 ≤ o ∧ o ≤ 8) (hoa : a.ok) (hob : b.ok) : (Ex.bin o a b).okX := by
    intro N ka kv vs h i m L σ hv hc hi hL hl hh
    have hc2 := (At_app a.cX i (b.cX ++ [sg o])).mp hc
    have hc3 := (At_app b.cX (i + a.cX.length) [sg o]).mp hc2.2
    have hi : i + (a.cX ++ (b.cX ++ [sg o])).length ≤ L := hi
    rw [List.length_append, List.length_append, List.length_cons, List.length_nil] at hi
    have hh : h + max a.hgt (1 + b.hgt) ≤ 40 := hh
    have hp := hoa.2.2.1
    have hp2 := hob.2.2.1
    obtain ⟨σ1, s1, s2, s3, s4⟩ := wkX (N := N) a h i (b.cX.length + (1 + m)) L σ hoa hv hc2.1 (by omega) hL hl (by omega)
    obtain ⟨σ2, t1, t2, t3, t4⟩ := wkX (N := N) b (h + 1) (i + a.cX.length) (1 + m) L σ1 hob (fun k hk => (s1.2 _ _ _ _ (by decide)).trans (hv k hk)) (by rw [s1.1]; exact hc3.1) (by omega) hL (by rw [s1.1]; exact hl) (by omega)
    refine ⟨sJ σ2 73 kv 0 h (op2 o (a.ev vs) (b.ev vs)), (s1.tr t1).tr Sk.s, fun j hj => (sJ_i (by omega)).trans ((t2 j (by omega)).trans (s2 j hj)), sJ_s .., ?_⟩
    show fAct_work_10 N ka kv kv ((a.cX ++ (b.cX ++ [sg o])).length + m) (nI h) (nI i) σ = fAct_work_10 N ka kv kv m (nI (h + 1)) (nI (i + (a.cX ++ (b.cX ++ [sg o])).length)) _
    rw [List.length_append, List.length_append, List.length_cons, List.length_nil, show a.cX.length + (b.cX.length + (0 + 1)) + m = a.cX.length + (b.cX.length + (1 + m)) by omega, s4, t4, Nat.add_comm 1 m]
    have so : sg o < 0 ∧ sg o ≠ -1 ∧ sg o ≠ -4 := by
      rcases (by omega : o = 1 ∨ o = 2 ∨ o = 3 ∨ o = 4 ∨ o = 5 ∨ o = 6 ∨ o = 7 ∨ o = 8) with rfl | rfl | rfl | rfl | rfl | rfl | rfl | rfl <;> decide
    show (if σ2.1 2 ka 0 0 ≤ nI (i + a.cX.length + b.cX.length) then _ else _) = _
    rw [t1.1, s1.1, hl, if_neg (nI_ge (by omega) (by omega)), chk_t (inb_n (by omega) (by decide)), nI_clamp (by omega), show σ.1 1 ka 0 (i + a.cX.length + b.cX.length) = sg o from hc3.2.1, if_neg so.2.1, nmx, if_pos so.1, if_neg so.2.2]
    rw [if_neg (show ¬ nI (h + 1 + 1) ≤ 1 from nI_ge (a := 1) (b := h + 1 + 1) (by omega) (by omega)), show nI (h + 1 + 1) + -1 = nI (h + 1) from nI_pred' _, nI_sub1, chk_t (inb_n (by omega) (by decide)), chk_t (inb_n (by omega) (by decide)), nI_clamp (by omega), nI_clamp (by omega), t3, t2 h (by omega), s3, join_e ho, bn1_e, nmx, nI_1, show i + (a.cX.length + (b.cX.length + (0 + 1))) = i + a.cX.length + b.cX.length + 1 by omega]
/-- the whole of an expression that stands there, its end behind it -/
theorem workX {N ka kv : Nat} {vs : Nat → Int64} {e : Ex} {u : Option Ex} {i L : Nat} {σ : St} {l : List Int32} (hN : 700 ≤ N) (hv : VX kv σ vs) (hok : e.ok) (hu : ∀ d, u = some d → d.ok) (hl : l = e.cX ++ ((match u with | none => [] | some d => d.cX ++ [-5]) ++ [-1])) (hc : At (fun j => σ.1 1 ka 0 j) i l)
    (hi : i + l.length ≤ L) (hL : L ≤ 600) (hlen : σ.1 2 ka 0 0 = nI L) (h1 : e.hgt ≤ 31) (h2 : ∀ d, u = some d → d.hgt ≤ 31) :
    ∃ σ', Sk 73 σ σ' ∧ fAct_work N ka kv kv (nI i) σ = some ((match u with | none => e.ev vs | some d => if d.ev vs = 0 then e.ev vs else 0), σ') := by
  have hend : ∀ (h k n : Nat) (τ : St), τ.1 = σ.1 → k < L → σ.1 1 ka 0 k = -1 → h < 40 → fAct_work_10 N ka kv kv (n + 1) (nI (h + 1)) (nI k) τ = some (τ.2 73 kv 0 h, τ) := by
    intro h k n τ e1 hk hm hh
    show (if τ.1 2 ka 0 0 ≤ nI k then _ else _) = _
    rw [e1, hlen, if_neg (nI_ge (by omega) (by omega)), chk_t (inb_n (by omega) (by decide)), nI_clamp (by omega), if_pos hm]
    unfold fAct_work_154
    rw [if_neg (nI_nle (by omega) (by omega)), nI_sub1, chk_t (inb_n (by omega) (by decide)), nI_clamp (by omega)]
  unfold fAct_work
  rw [mx_e, bn1_e]
  have h0 : (if (0 : Int32) < nI i then nI i else 0) = nI i := by
    by_cases c : (0 : Int32) < nI i
    · rw [if_pos c]
    · rw [if_neg c]
      have hl0 : 1 ≤ l.length := by
        rw [hl, List.length_append, List.length_append, List.length_cons]
        omega
      have : ¬ (0 < i) := fun q => c (show nI 0 < nI i from nI_lt q (by omega))
      rw [show i = 0 by omega]
      rfl
  rw [h0]
  subst hl
  cases u with
  | none =>
    rw [List.nil_append] at hc hi
    rw [List.length_append, List.length_cons, List.length_nil] at hi
    have hc2 := (At_app e.cX i [-1]).mp hc
    obtain ⟨σ1, s1, -, s3, s4⟩ := wkX (N := N) e 0 i (N - e.cX.length) L σ hok hv hc2.1 (by omega) hL hlen (by omega)
    rw [show e.cX.length + (N - e.cX.length) = N by omega] at s4
    refine ⟨σ1, s1, s4.trans ?_⟩
    obtain ⟨n, hn⟩ : ∃ n, N - e.cX.length = n + 1 := ⟨N - e.cX.length - 1, by omega⟩
    rw [hn, hend 0 (i + e.cX.length) n σ1 s1.1 (by omega) hc2.2.1 (by omega), s3]
  | some d =>
    have hc2 := (At_app e.cX i (d.cX ++ [-5] ++ [-1])).mp hc
    have hc3 := (At_app (d.cX ++ [-5]) (i + e.cX.length) [-1]).mp hc2.2
    have hc4 := (At_app d.cX (i + e.cX.length) [-5]).mp hc3.1
    simp only [List.length_append, List.length_cons, List.length_nil] at hi hc3
    have g2 := h2 d rfl
    have := hu d rfl
    obtain ⟨σ1, s1, -, s3, s4⟩ := wkX (N := N) e 0 i (N - e.cX.length) L σ hok hv hc2.1 (by omega) hL hlen (by omega)
    rw [show e.cX.length + (N - e.cX.length) = N by omega] at s4
    obtain ⟨σ2, t1, t2, t3, t4⟩ := wkX (N := N) d 1 (i + e.cX.length) (N - e.cX.length - d.cX.length) L σ1 this (fun k hk => (s1.2 _ _ _ _ (by decide)).trans (hv k hk)) (by rw [s1.1]; exact hc4.1) (by omega) hL (by rw [s1.1]; exact hlen) (by omega)
    rw [show d.cX.length + (N - e.cX.length - d.cX.length) = N - e.cX.length by omega] at t4
    obtain ⟨n, hn⟩ : ∃ n, N - e.cX.length - d.cX.length = n + 1 + 1 := ⟨N - e.cX.length - d.cX.length - 2, by omega⟩
    refine ⟨sJ σ2 73 kv 0 0 (if d.ev vs = 0 then e.ev vs else 0), (s1.tr t1).tr Sk.s, s4.trans (t4.trans ?_)⟩
    rw [hn]
    show (if σ2.1 2 ka 0 0 ≤ nI (i + e.cX.length + d.cX.length) then _ else _) = _
    rw [t1.1, s1.1, hlen, if_neg (nI_ge (by omega) (by omega)), chk_t (inb_n (by omega) (by decide)), nI_clamp (by omega), show σ.1 1 ka 0 (i + e.cX.length + d.cX.length) = -5 from hc4.2.1, if_neg (by decide), nmx, if_pos (by decide), if_neg (by decide)]
    rw [if_neg (show ¬ nI (0 + 1 + 1) ≤ 1 from nI_ge (a := 1) (b := 2) (by omega) (by omega)), show nI (0 + 1 + 1) + -1 = nI (0 + 1) from nI_pred' _, nI_sub1, chk_t (inb_n (by omega) (by decide)), chk_t (inb_n (by omega) (by decide)), nI_clamp (by omega), nI_clamp (by omega), t3, t2 0 (by omega), s3]
    have hj : fAct_join N (-5) (e.ev vs) (d.ev vs) σ2 = some (if d.ev vs = 0 then e.ev vs else 0) := by
      unfold fAct_join
      rw [if_neg (by decide), if_neg (by decide), if_neg (by decide), if_neg (by decide), if_neg (by decide), if_neg (by decide), if_neg (by decide), if_neg (by decide)]
      by_cases c : d.ev vs = 0
      · rw [if_pos (czp c), if_pos c]
      · rw [if_neg (czn c), if_neg c]
    rw [hj, bn1_e, nmx, nI_1, show i + e.cX.length + d.cX.length + 1 = i + e.cX.length + (d.cX.length + 1) by omega]
    have hm : σ.1 1 ka 0 (i + e.cX.length + (d.cX.length + 1)) = -1 := by
      have := hc3.2.1
      simpa using this
    rw [hend 0 (i + e.cX.length + (d.cX.length + 1)) n _ (by show σ2.1 = _; rw [t1.1, s1.1]) (by omega) hm (by omega), sJ_s]
theorem Ex.num_okM {v : Nat} (hok : v < 100000) : (Ex.num v).okM := by
    intro N vs h i m E μ hv hc hi hE hh
    have hok : v < 100000 := hok
    have hc1 : μ.1 245 0 0 i = 0 := hc.1
    have hc2 : μ.1 245 0 0 (i + 1) = nI v := hc.2.1
    have hi : i + 2 ≤ E := hi
    have hh : h + 1 ≤ 200 := hh
    refine ⟨sJ μ 267 0 0 h (nI v).toInt64, Sk.s, fun j hj => sJ_i (by omega), sJ_s .., ?_⟩
    show fM_worked_5 N (1 + m) (nI E) (nI h) (nI i) μ = fM_worked_5 N m (nI E) (nI (h + 1)) (nI (i + 2)) _
    rw [Nat.add_comm 1 m]
    show (if nI E ≤ nI i then _ else _) = _
    rw [if_neg (nI_ge (by omega) (by omega)), chk_t (inb_n (by omega) (by decide)), nI_clamp (by omega), hc1, nmx, if_pos rfl, nI_1, chk_t (inb_n (by omega) (by decide)), chk_t (inb_n (by omega) (by decide)), nI_clamp (by omega), nI_clamp (by omega), hc2, nmx, nmx, nI_1, nI_1]
theorem Ex.val_okM {k : Nat} (hok : k < 20) : (Ex.val k).okM := by
    intro N vs h i m E μ hv hc hi hE hh
    have hok : k < 20 := hok
    have hc1 : μ.1 245 0 0 i = nI (20 + k) := hc.1
    have hi : i + 1 ≤ E := hi
    have hh : h + 1 ≤ 200 := hh
    refine ⟨sJ μ 267 0 0 h (vs k), Sk.s, fun j hj => sJ_i (by omega), sJ_s .., ?_⟩
    show fM_worked_5 N (1 + m) (nI E) (nI h) (nI i) μ = fM_worked_5 N m (nI E) (nI (h + 1)) (nI (i + 1)) _
    rw [Nat.add_comm 1 m]
    show (if nI E ≤ nI i then _ else _) = _
    rw [if_neg (nI_ge (by omega) (by omega)), chk_t (inb_n (by omega) (by decide)), nI_clamp (by omega), hc1, nmx, if_neg (nI_ne0 (by omega) (by omega)), if_neg (show ¬ nI (20 + k) < 20 from nI_nlt (a := 20 + k) (b := 20) (by omega) (by omega)), show nI (20 + k) - 20 = nI k from nI_subl, hv k hok μ rfl, bn1_e, chk_t (inb_n (by omega) (by decide)), nI_clamp (by omega), nmx, nI_1, nI_1]
theorem Ex.neg_okM {a : Ex} (hok : a.ok) : (Ex.neg a).okM := by
    intro N vs h i m E μ hv hc hi hE hh
    have hok : a.ok := hok
    have hc2 := (At_app a.cM i [9]).mp hc
    have hi : i + (a.cM ++ [9]).length ≤ E := hi
    rw [List.length_append, List.length_cons, List.length_nil] at hi
    have hh : h + a.hgt ≤ 200 := hh
    obtain ⟨μ1, s1, s2, s3, s4⟩ := wkM (N := N) a h i (1 + m) E μ hok hv hc2.1 (by omega) hE hh
    have hp := hok.2.2.1
    refine ⟨sJ μ1 267 0 0 h (if a.ev vs = 0 then 1 else 0), s1.tr Sk.s, fun j hj => (sJ_i (by omega)).trans (s2 j hj), sJ_s .., ?_⟩
    show fM_worked_5 N ((a.cX ++ [-4]).length + m) (nI E) (nI h) (nI i) μ = fM_worked_5 N m (nI E) (nI (h + 1)) (nI (i + (a.cM ++ [9]).length)) _
    rw [List.length_append, List.length_append, List.length_cons, List.length_nil, List.length_cons, List.length_nil, Nat.add_assoc, Nat.zero_add, s4, Nat.add_comm 1 m]
    show (if nI E ≤ nI (i + a.cM.length) then _ else _) = _
    rw [if_neg (nI_ge (by omega) (by omega)), chk_t (inb_n (by omega) (by decide)), nI_clamp (by omega), s1.1, show μ.1 245 0 0 (i + a.cM.length) = 9 from hc2.2.1, nmx, if_neg (by decide), if_pos (by decide), if_pos rfl]
    rw [nI_sub1, chk_t (inb_n (by omega) (by decide)), nI_clamp (by omega), s3]
    unfold fM_worked_108
    by_cases c : a.ev vs = 0
    · rw [if_pos (czp c), if_pos c, chk_t (inb_n (by omega) (by decide)), nmx, nI_clamp (by omega), nI_1]
      rfl
    · rw [if_neg (czn c), if_neg c, chk_t (inb_n (by omega) (by decide)), nmx, nI_clamp (by omega), nI_1]
      rfl
theorem Ex.bin_okM {o : Nat} {a b : Ex} (ho : 1 ≤ o ∧ o ≤ 8) (hoa : a.ok) (hob : b.ok) : (Ex.bin o a b).okM := by
    intro N vs h i m E μ hv hc hi hE hh
    have hc2 := (At_app a.cM i (b.cM ++ [nI o])).mp hc
    have hc3 := (At_app b.cM (i + a.cM.length) [nI o]).mp hc2.2
    have hi : i + (a.cM ++ (b.cM ++ [nI o])).length ≤ E := hi
    rw [List.length_append, List.length_append, List.length_cons, List.length_nil] at hi
    have hh : h + max a.hgt (1 + b.hgt) ≤ 200 := hh
    have hp := hoa.2.2.1
    have hp2 := hob.2.2.1
    obtain ⟨μ1, s1, s2, s3, s4⟩ := wkM (N := N) a h i (b.cX.length + (1 + m)) E μ hoa hv hc2.1 (by omega) hE (by omega)
    obtain ⟨μ2, t1, t2, t3, t4⟩ := wkM (N := N) b (h + 1) (i + a.cM.length) (1 + m) E μ1 hob (fun k hk μ' e => hv k hk μ' (e.trans s1.1)) (by rw [s1.1]; exact hc3.1) (by omega) hE (by omega)
    refine ⟨sJ μ2 267 0 0 h (op2 o (a.ev vs) (b.ev vs)), (s1.tr t1).tr Sk.s, fun j hj => (sJ_i (by omega)).trans ((t2 j (by omega)).trans (s2 j hj)), sJ_s .., ?_⟩
    show fM_worked_5 N ((a.cX ++ (b.cX ++ [sg o])).length + m) (nI E) (nI h) (nI i) μ = fM_worked_5 N m (nI E) (nI (h + 1)) (nI (i + (a.cM ++ (b.cM ++ [nI o])).length)) _
    rw [List.length_append, List.length_append, List.length_append, List.length_append, List.length_cons, List.length_nil, List.length_cons, List.length_nil, show a.cX.length + (b.cX.length + (0 + 1)) + m = a.cX.length + (b.cX.length + (1 + m)) by omega, s4, t4, Nat.add_comm 1 m]
    have so : nI o < 20 ∧ nI o ≠ 0 ∧ nI o ≠ 9 := by
      rcases (by omega : o = 1 ∨ o = 2 ∨ o = 3 ∨ o = 4 ∨ o = 5 ∨ o = 6 ∨ o = 7 ∨ o = 8) with rfl | rfl | rfl | rfl | rfl | rfl | rfl | rfl <;> decide
    show (if nI E ≤ nI (i + a.cM.length + b.cM.length) then _ else _) = _
    rw [if_neg (nI_ge (by omega) (by omega)), chk_t (inb_n (by omega) (by decide)), nI_clamp (by omega), t1.1, s1.1, show μ.1 245 0 0 (i + a.cM.length + b.cM.length) = nI o from hc3.2.1, nmx, if_neg so.2.1, if_pos so.1, if_neg so.2.2]
    rw [show nI (h + 1 + 1) + -1 = nI (h + 1) from nI_pred' _, nI_sub1, chk_t (inb_n (by omega) (by decide)), chk_t (inb_n (by omega) (by decide)), nI_clamp (by omega), nI_clamp (by omega), t3, t2 h (by omega), s3, two_e ho, bn1_e, nmx, nI_1, show i + (a.cM.length + (b.cM.length + (0 + 1))) = i + a.cM.length + b.cM.length + 1 by omega]
theorem Ex.num_ok {v : Nat} (hok : v < 100000) : (Ex.num v).ok := ⟨Ex.num_okX hok, Ex.num_okM hok, (by decide : 1 ≤ 1), ⟨(by decide : 1 ≤ 2), (by decide : 2 ≤ 2)⟩, (by decide : 1 ≤ 1)⟩
theorem Ex.val_ok {k : Nat} (hok : k < 20) : (Ex.val k).ok := ⟨Ex.val_okX hok, Ex.val_okM hok, (by decide : 1 ≤ 1), ⟨(by decide : 1 ≤ 1), (by decide : 1 ≤ 2)⟩, (by decide : 1 ≤ 1)⟩
theorem Ex.neg_cX (a : Ex) : (Ex.neg a).cX = a.cX ++ [-4] := rfl
theorem Ex.neg_cM (a : Ex) : (Ex.neg a).cM = a.cM ++ [9] := rfl
theorem Ex.bin_cX (o : Nat) (a b : Ex) : (Ex.bin o a b).cX = a.cX ++ (b.cX ++ [sg o]) := rfl
theorem Ex.bin_cM (o : Nat) (a b : Ex) : (Ex.bin o a b).cM = a.cM ++ (b.cM ++ [nI o]) := rfl
theorem Ex.neg_ok {a : Ex} (h : a.ok) : (Ex.neg a).ok := by
  obtain ⟨h1, h2, h3, h4, h5⟩ := h
  refine ⟨Ex.neg_okX ⟨h1, h2, h3, h4, h5⟩, Ex.neg_okM ⟨h1, h2, h3, h4, h5⟩, h3, ?_, ?_⟩
  · simp only [Ex.neg_cX, Ex.neg_cM, List.length_append, List.length_cons, List.length_nil]
    omega
  · simp only [Ex.neg_cX, List.length_append, List.length_cons, List.length_nil]
    omega
theorem Ex.bin_ok {o : Nat} {a b : Ex} (ho : 1 ≤ o ∧ o ≤ 8) (ha : a.ok) (hb : b.ok) : (Ex.bin o a b).ok := by
  have h3 := ha.2.2.1
  have h4 := ha.2.2.2
  have h5 := hb.2.2.2
  refine ⟨Ex.bin_okX ho ha hb, Ex.bin_okM ho ha hb, ?_, ?_, ?_⟩
  · show 1 ≤ max a.hgt (1 + b.hgt)
    omega
  · simp only [Ex.bin_cX, Ex.bin_cM, List.length_append, List.length_cons, List.length_nil]
    omega
  · simp only [Ex.bin_cX, List.length_append, List.length_cons, List.length_nil]
    omega
theorem worked_e {N : Nat} {vs : Nat → Int64} {e : Ex} {i : Nat} {μ : St} (hN : 1000 ≤ N) (hok : e.ok) (hv : VM N μ vs) (hc : At (fun j => μ.1 245 0 0 j) i e.cM) (hi : i + e.cM.length ≤ 17000) (hl : e.cX.length ≤ 900) (hh : e.hgt ≤ 31) :
    ∃ μ', Sk 267 μ μ' ∧ fM_worked N (nI i) (nI (i + e.cM.length)) μ = some (e.ev vs, μ') := by
  obtain ⟨μ1, s1, -, s3, s4⟩ := wkM (N := N) e 0 i (N - e.cX.length) (i + e.cM.length) μ hok hv hc (Nat.le_refl _) hi (by omega)
  rw [show e.cX.length + (N - e.cX.length) = N by omega] at s4
  refine ⟨μ1, s1, s4.trans ?_⟩
  obtain ⟨n, hn⟩ : ∃ n, N - e.cX.length = n + 1 := ⟨N - e.cX.length - 1, by omega⟩
  rw [hn]
  show (if nI (i + e.cM.length) ≤ nI (i + e.cM.length) then some (μ1.2 267 0 0 0, μ1) else _) = _
  rw [if_pos (Int32.le_refl _), s3]
