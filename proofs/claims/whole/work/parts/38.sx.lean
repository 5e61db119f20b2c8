/-! what the law finds at its start -/
def gvL : List Cond := flatC (Jvm.Cond.and given_1 narrow_1)
def strOI : List (String × Nat) := [("LabourExchangeModel", 11), ("LabourExchangeModel", 13), ("LabourExchangeModel", 15), ("LabourExchangeModel", 17), ("LabourExchangeModel", 19), ("LabourExchangeModel", 21), ("LabourExchangeModel", 23), ("LabourExchangeModel", 25), ("LabourExchangeModel", 31), ("LabourExchangeModel", 33), ("LabourExchangeModel", 35), ("LabourExchangeModel", 37), ("LabourExchangeModel", 39), ("LabourExchangeModel", 41), ("LabourExchangeModel", 43), ("LabourExchangeModel", 45), ("LabourExchangeModel", 47), ("LabourExchangeModel", 49), ("LabourExchangeModel", 51), ("LabourExchangeModel", 53), ("LabourExchange$Reader", 163), ("LabourExchange$Reader", 169), ("LabourExchange$Reader", 171), ("LabourExchangeModel", 547), ("LabourExchangeModel", 549), ("LabourExchangeModel", 551), ("LabourExchangeModel", 553), ("LabourExchangeModel", 555), ("LabourExchangeModel", 557), ("LabourExchangeModel", 559), ("LabourExchangeModel", 532), ("LabourExchangeModel", 540), ("LabourExchangeModel", 545), ("LabourExchangeModel", 567)]
def strTm (k : Nat) : Term := .string (strOI.getD k ("", 0)).1 (strOI.getD k ("", 0)).2
def strV (k : Nat) : Term := .field (strTm k) "java/lang/String" "value" "[B"
theorem gv_ex : ∀ i, i < 34 → Cond.exactly (strTm i) "java/lang/String" ∈ gvL := by decide +kernel
theorem gv_co : ∀ i, i < 34 → Cond.eq (.field (strTm i) "java/lang/String" "coder" "B") (.int 0) ∈ gvL := by decide +kernel
theorem gv_ar : ∀ i, i < 34 → Cond.arrayOf (strV i) .byte ∈ gvL := by decide +kernel
theorem gv_le : ∀ i, i < 34 → Cond.eq (.length (strV i)) (.int (Int32.ofNat (strLen.getD i 0))) ∈ gvL := by decide +kernel
def subl : List Cond → List Cond → Bool
  | [], _ => true
  | _ :: _, [] => false
  | a :: l, b :: r => if a = b then subl l r else subl (a :: l) r
theorem subl_mem : ∀ {l r : List Cond}, subl l r = true → ∀ w ∈ l, w ∈ r
  | [], _, _, w, h => by cases h
  | _ :: _, [], h, _, _ => by simp [subl] at h
  | a :: l, b :: r, h, w, hw => by
    unfold subl at h
    by_cases e : a = b
    · rw [if_pos e] at h
      rcases List.mem_cons.mp hw with rfl | hw
      · rw [e]; exact List.mem_cons_self
      · exact List.mem_cons_of_mem _ (subl_mem h w hw)
    · rw [if_neg e] at h
      exact List.mem_cons_of_mem _ (subl_mem h w hw)
def strOrd : List Nat := [20, 21, 22, 0, 1, 2, 3, 4, 5, 6, 7, 8, 9, 10, 11, 12, 13, 14, 15, 16, 17, 18, 19, 23, 24, 25, 26, 27, 28, 29, 30, 31, 32, 33]
def strElC (i j : Nat) : Cond := Cond.eq (.elem (strV i) (.int (Int32.ofNat j))) (.int ((strByt.getD i []).getD j 0))
def strEls : List Cond := strOrd.flatMap (fun i => (List.range (strLen.getD i 0)).map (strElC i))
theorem gv_els : subl strEls gvL = true := by decide +kernel
theorem gv_ord : ∀ i, i < 34 → i ∈ strOrd := by decide +kernel
theorem gv_el (i : Nat) (hi : i < 34) (j : Nat) (hj : j < strLen.getD i 0) : Cond.eq (.elem (strV i) (.int (Int32.ofNat j))) (.int ((strByt.getD i []).getD j 0)) ∈ gvL := subl_mem gv_els _ (List.mem_flatMap.mpr ⟨i, gv_ord i hi, List.mem_map.mpr ⟨j, List.mem_range.mpr hj, rfl⟩⟩)
theorem gv_len : ∀ i, i < 34 → strLen.getD i 0 < 2 ^ 31 := by decide +kernel
theorem gv_ne : ∀ i, i < 34 → ∀ j, j < 34 → i ≠ j → strLen.getD i 0 ≠ strLen.getD j 0 ∨ ∃ q, q < strLen.getD i 0 ∧ (strByt.getD i []).getD q 0 ≠ (strByt.getD j []).getD q 0 := by decide +kernel
theorem gv_ref : ∀ q ∈ strRefs, Cond.stringRef q.1 q.2.1 q.2.2.1 ∈ lw_tbl ∧ q.2.2.2 < 34 ∧ strTm q.2.2.2 = Term.string q.1 q.2.1 := by decide +kernel
def dfTm : Term := .static "LabourExchange$Law" "DEFAULTS" "[I"
theorem gv_dar : Cond.arrayOf dfTm .int ∈ gvL := by decide +kernel
theorem gv_dle : Cond.eq (.length dfTm) (.int (Int32.ofNat 8)) ∈ gvL := by decide +kernel
theorem gv_del : ∀ j, j < 8 → Cond.eq (.elem dfTm (.int (Int32.ofNat j))) (.int (dflts j)) ∈ gvL := by decide +kernel
theorem gv_cs : Cond.eq (.static "java/lang/String" "COMPACT_STRINGS" "Z") (.int 1) ∈ gvL := by decide +kernel
theorem gv_si : Cond.isRef (.static "jdk/internal/util/Preconditions" "SIOOBE_FORMATTER" "Ljava/util/function/BiFunction;") ∈ gvL := by decide +kernel
theorem gv_us : Cond.isRef (.static Bundle.tN "UNASSIGNED_STACK" Bundle.steD) ∈ gvL := by decide +kernel
theorem gv_ss : Cond.isRef (.static Bundle.tN "SUPPRESSED_SENTINEL" Bundle.listD) ∈ gvL := by decide +kernel
def stW : List Cond := [.laysStatic "LabourExchange$Law" "DEFAULTS" "[I", .initialized "LabourExchange$Law", .laysStatic "java/lang/String" "COMPACT_STRINGS" "Z", .initialized "java/lang/String", .laysStatic "jdk/internal/util/Preconditions" "SIOOBE_FORMATTER" "Ljava/util/function/BiFunction;", .initialized "jdk/internal/util/Preconditions", .laysStatic Bundle.tN "UNASSIGNED_STACK" Bundle.steD, .laysStatic Bundle.tN "SUPPRESSED_SENTINEL" Bundle.listD, .initialized Bundle.tN,
  .castable "java/util/NoSuchElementException" "java/util/NoSuchElementException", .castable "java/lang/IllegalArgumentException" "java/lang/IllegalArgumentException", .declares ⟨"java/lang/RuntimeException", "<init>", "()V"⟩, .declares ⟨"java/lang/Exception", "<init>", "()V"⟩, .declares ⟨"java/lang/Throwable", "<init>", "()V"⟩,
  .arrayOver (.object "LabourExchange$Act"), .arrayOver (.object "LabourExchange$Life"), .arrayOver (.object "java/lang/String"), .arrayOver (.array .int),
  .methodLinkNest "LabourExchange" 9 ⟨"LabourExchange$Reader", "<init>", "()V"⟩ "LabourExchange", .methodLinkNest "LabourExchange" 18 ⟨"LabourExchange$Land", "<init>", "()V"⟩ "LabourExchange", .methodLinkNest "LabourExchange" 25 ⟨"LabourExchange$Books", "<init>", "()V"⟩ "LabourExchange", .methodLinkNest "LabourExchange" 32 ⟨"LabourExchange$Events", "<init>", "()V"⟩ "LabourExchange", .methodLinkNest "LabourExchange" 79 ⟨"LabourExchange$Act", "<init>", "()V"⟩ "LabourExchange",
  .arrayClass .int, .arrayClass .byte, .arrayClass .boolean, .arrayClass .long]
theorem stW_in : ∀ w ∈ stW, w ∈ lw_tbl := by decide +kernel
theorem stW_at {args : Array Value} {s : State} (hts : ∀ w ∈ lw_tbl, w.before args s = true) (i : Nat) {w : Cond} (h : stW[i]? = some w) : w.before args s = true := hts w (stW_in w (List.mem_of_getElem? h))
theorem sx_txt {args : Array Value} {s : State} (hg : ∀ c ∈ gvL, c.before args s = true) {A : Nat → Prop} (hA : ∀ a : Nat, a < s.heap.size → ¬ A a) :
    ∃ adK adV : Nat → Nat, vk_S 34 strLen strByt adK adV A s s.heap ∧ ∀ i : Nat, i < 34 → (strTm i).eval args s none [] s = some (.ref (adK i)) := by
  have h0 : ∀ i : Nat, ∃ q : Nat × Nat, i < 34 → (strTm i).eval args s none [] s = some (.ref q.1) ∧ va_O "java/lang/String" q.1 A s s.heap ∧ va_OF "java/lang/String" "coder" "B" (.int 0) q.1 A s s.heap ∧ va_OF "java/lang/String" "value" "[B" (.ref q.2) q.1 A s s.heap ∧ va_T .byte q.2 (strLen.getD i 0) (fun j => .int ((strByt.getD i []).getD j 0)) A s s.heap := by
    intro i
    by_cases hi : i < 34
    · obtain ⟨a, c, cA, kA, q1, q2, q3, q4, q5, q6, -⟩ := Cond.exactly_spec (args := args) (first := s) (o := none) (s := s) (idx := []) (t := strTm i) (cls := "java/lang/String") (hg _ (gv_ex i hi))
      obtain ⟨t, ht, hT⟩ := va_Tof (f := fun j => .int ((strByt.getD i []).getD j 0)) (A := A) (gv_len i hi) (hg _ (gv_ar i hi)) (va_eqt (hg _ (gv_le i hi))) (fun j hj => va_eqt (hg _ (gv_el i hi j hj))) hA
      exact ⟨(a, t), fun _ => ⟨q1, ⟨cA, q3, q5, by rw [q6]; exact q2, hA a (Array.getElem?_eq_some_iff.mp q3).1⟩, vk_OFof q1 (va_eqt (hg _ (gv_co i hi))) hA, vk_OFof q1 ht hA, hT⟩⟩
    · exact ⟨(0, 0), fun h => absurd h hi⟩
  obtain ⟨q, hq⟩ := Classical.axiomOfChoice h0
  refine ⟨fun i => (q i).1, fun i => (q i).2, ⟨fun i hi => ⟨(hq i hi).2.1, (hq i hi).2.2.1, (hq i hi).2.2.2.1, (hq i hi).2.2.2.2⟩, fun i j hi hj h => ?_⟩, fun i hi => (hq i hi).1⟩
  refine Classical.byContradiction fun hne => ?_
  have h : (q i).1 = (q j).1 := h
  obtain ⟨cf, k, ix, f, cell, g1, -, g2, -, g3, -⟩ := (hq i hi).2.2.2.1
  obtain ⟨cf', k', ix', f', cell', g1', -, g2', -, g3', -⟩ := (hq j hj).2.2.2.1
  have e := g1.symm.trans g1'
  simp only [Option.some.injEq, Prod.mk.injEq] at e
  obtain ⟨-, -, -, rfl⟩ := e
  rw [h] at g2
  cases Option.some.inj (g2.symm.trans g2')
  have e2 : (q i).2 = (q j).2 := by
    have := g3.symm.trans g3'
    simpa using this
  obtain ⟨c1, t1, -, -, s1, s2, s3, -⟩ := (hq i hi).2.2.2.2
  obtain ⟨c2, t2, -, -, r1, r2, r3, -⟩ := (hq j hj).2.2.2.2
  rw [e2] at t1
  cases Option.some.inj (t1.symm.trans t2)
  have l1 := gv_len i hi
  have l2 := gv_len j hj
  have e3 : strLen.getD i 0 = strLen.getD j 0 := by
    have h9 : (nI (strLen.getD i 0)).toInt = (nI (strLen.getD j 0)).toInt := congrArg Int32.toInt (s2.symm.trans r2)
    rw [nI_toInt l1, nI_toInt l2] at h9
    omega
  rcases gv_ne i hi j hj hne with h5 | ⟨w, hw, h5⟩
  · exact h5 e3
  · have a1 := s3 w hw
    have a2 := r3 w (by rw [← e3]; exact hw)
    have := a1.symm.trans a2
    simp only [Option.some.injEq, Value.int.injEq] at this
    exact h5 this

theorem sx_cls {args : Array Value} {s : State} (hts : ∀ w ∈ lw_tbl, w.before args s = true) : ∃ (dC : Nat → ClassId) (dI : Nat → Nat → Nat), ∀ (k : Nat) (q : vw_C), wdcl[k]? = some q → u_Kn s q.1 q.2.1 q.2.2 (dC k) (dI k) := by
  have ht : ∀ w ∈ TB, w.before args s = true := fun w h => hts w (List.mem_filter.mp h).1
  obtain ⟨c0, i0, h0⟩ := u_known (C := "LabourExchange$Act") (T := tX0) (N := 15) (n := 15) ht inX0 (hts _ (List.mem_append_right _ (List.mem_of_getElem? (i := 410) (by decide +kernel))))
  obtain ⟨c1, i1, h1⟩ := u_known (C := "LabourExchange$Books") (T := tX1) (N := 11) (n := 11) ht inX1 (hts _ (List.mem_append_right _ (List.mem_of_getElem? (i := 156) (by decide +kernel))))
  obtain ⟨c2, i2, h2⟩ := u_known (C := "LabourExchange$Courts") (T := tX2) (N := 10) (n := 10) ht inX2 (hts _ (List.mem_append_right _ (List.mem_of_getElem? (i := 366) (by decide +kernel))))
  obtain ⟨c3, i3, h3⟩ := u_known (C := "LabourExchange$Events") (T := tX3) (N := 7) (n := 7) ht inX3 (hts _ (List.mem_append_right _ (List.mem_of_getElem? (i := 198) (by decide +kernel))))
  obtain ⟨c4, i4, h4⟩ := u_known (C := "LabourExchange$Land") (T := tX4) (N := 17) (n := 17) ht inX4 (hts _ (List.mem_append_right _ (List.mem_of_getElem? (i := 82) (by decide +kernel))))
  obtain ⟨c5, i5, h5⟩ := u_known (C := "LabourExchange$Law") (T := tX5) (N := 13) (n := 13) ht inX5 (hts _ (List.mem_append_right _ (List.mem_of_getElem? (i := 489) (by decide +kernel))))
  obtain ⟨c6, i6, h6⟩ := u_known (C := "LabourExchange$Life") (T := tX6) (N := 21) (n := 21) ht inX6 (hts _ (List.mem_append_right _ (List.mem_of_getElem? (i := 540) (by decide +kernel))))
  obtain ⟨c7, i7, h7⟩ := u_known (C := "LabourExchange$Market") (T := tX7) (N := 15) (n := 15) ht inX7 (hts _ (List.mem_append_right _ (List.mem_of_getElem? (i := 240) (by decide +kernel))))
  obtain ⟨c8, i8, h8⟩ := u_known (C := "LabourExchange$Reader") (T := tX8) (N := 12) (n := 12) ht inX8 (hts _ (List.mem_append_right _ (List.mem_of_getElem? (i := 35) (by decide +kernel))))
  obtain ⟨c9, i9, h9⟩ := u_known (C := "LabourExchange$Sending") (T := tX9) (N := 16) (n := 16) ht inX9 (hts _ (List.mem_append_right _ (List.mem_of_getElem? (i := 304) (by decide +kernel))))
  obtain ⟨c10, i10, h10⟩ := u_known (C := "LabourExchange$View") (T := tX10) (N := 10) (n := 10) ht inX10 (hts _ (List.mem_append_right _ (List.mem_of_getElem? (i := 481) (by decide +kernel))))
  obtain ⟨c11, i11, h11⟩ := u_known (C := "LabourExchange") (T := tX11) (N := 15) (n := 15) ht inX11 (hts _ (List.mem_append_right _ (List.mem_of_getElem? (i := 27) (by decide +kernel))))
  obtain ⟨c12, i12, h12⟩ := u_known (C := "LabourExchangeModel") (T := tX12) (N := 150) (n := 150) ht inX12 (hts _ (List.mem_append_right _ (List.mem_of_getElem? (i := 1606) (by decide +kernel))))
  refine ⟨fun k => [c0, c1, c2, c3, c4, c5, c6, c7, c8, c9, c10, c11, c12].getD k c0, fun k => [i0, i1, i2, i3, i4, i5, i6, i7, i8, i9, i10, i11, i12].getD k i0, ?_⟩
  intro k q hq
  match k, hq with
  | 0, hq => cases hq; exact h0
  | 1, hq => cases hq; exact h1
  | 2, hq => cases hq; exact h2
  | 3, hq => cases hq; exact h3
  | 4, hq => cases hq; exact h4
  | 5, hq => cases hq; exact h5
  | 6, hq => cases hq; exact h6
  | 7, hq => cases hq; exact h7
  | 8, hq => cases hq; exact h8
  | 9, hq => cases hq; exact h9
  | 10, hq => cases hq; exact h10
  | 11, hq => cases hq; exact h11
  | 12, hq => cases hq; exact h12
  | k + 13, hq => simp [wdcl] at hq
theorem sx_arr {args : Array Value} {s : State} {t : FieldType} (h : (Cond.arrayClass t).before args s = true) (ho : ∀ C, t ≠ .object C) : ∃ c : ClassId, ArrOfT s c t ∧ va_RA s c t := by
  obtain ⟨c, k, comp, h1, h2, h3⟩ := Cond.arrayClass_spec h
  refine ⟨c, fun N z => ⟨(fun q hq => by cases hq), k, h2, comp, h3⟩, ?_⟩
  cases t <;> first | exact h1 | exact absurd rfl (ho _)
theorem sx_arrO {args : Array Value} {s : State} {C : String} (h : (Cond.arrayOver (.object C)).before args s = true) : ∃ c : ClassId, ArrOfT s c (.object C) ∧ va_RA s c (.object C) := by
  obtain ⟨comp, c, k, h1, -, h3, h4, h5⟩ := Cond.arrayOver_spec h
  exact ⟨c, fun N z => ⟨(fun q hq => by cases hq), k, h3, comp, h4⟩, k, comp, h3, h4, h1, h5⟩
theorem sx_arrA {args : Array Value} {s : State} (h : (Cond.arrayOver (.array .int)).before args s = true) : ∃ c : ClassId, ArrOfT s c (.array .int) ∧ va_RA s c (.array .int) := by
  obtain ⟨comp, c, k, h1, -, h3, h4, h5⟩ := arrayOverA_spec h
  exact ⟨c, fun N z => ⟨(fun q hq => by cases hq), k, h3, comp, h4⟩, h5⟩
theorem sx_all {args : Array Value} {s : State} (hts : ∀ w ∈ lw_tbl, w.before args s = true) (hgv : (Jvm.Cond.and given_1 narrow_1).before args s = true) : ∃ Z : ZT, Z.1 = s.heap.size ∧ va_K Z.2.1 wdcl (wtys Z) s ∧ WXz Z s s.heap ∧ NX s := by
  have hg : ∀ c ∈ gvL, c.before args s = true := flat_of_before _ hgv
  have hA : ∀ a : Nat, a < s.heap.size → ¬ (fun q : Nat => s.heap.size ≤ q) a := fun a h => Nat.not_le.mpr h
  obtain ⟨adK, adV, hS, hev⟩ := sx_txt hg hA
  obtain ⟨dC, dI, hC⟩ := sx_cls hts
  obtain ⟨a0, g0, r0⟩ := sx_arr (stW_at hts 23 rfl) (fun C h => by cases h)
  obtain ⟨a1, g1, r1⟩ := sx_arr (stW_at hts 24 rfl) (fun C h => by cases h)
  obtain ⟨a2, g2, r2⟩ := sx_arr (stW_at hts 25 rfl) (fun C h => by cases h)
  obtain ⟨a3, g3, r3⟩ := sx_arr (stW_at hts 26 rfl) (fun C h => by cases h)
  obtain ⟨a4, g4, r4⟩ := sx_arrO (stW_at hts 14 rfl)
  obtain ⟨a5, g5, r5⟩ := sx_arrO (stW_at hts 15 rfl)
  obtain ⟨a6, g6, r6⟩ := sx_arrA (stW_at hts 17 rfl)
  obtain ⟨a7, g7, r7⟩ := sx_arrO (stW_at hts 16 rfl)
  obtain ⟨d, hd, hD⟩ := va_Tof (tm := dfTm) (N := 8) (f := fun i => .int (dflts i)) (by decide) (hg _ gv_dar) (va_eqt (hg _ gv_dle)) (fun j hj => va_eqt (hg _ (gv_del j hj))) hA
  refine ⟨(s.heap.size, (dC, dI), (fun t => [a0, a1, a2, a3, a4, a5, a6, a7].getD t a0), (fun k => if k < 34 then adK k else if k = 50 then d else adV (k - 100))), rfl, ⟨hC, fun k q hk => ?_⟩, ⟨⟨fun i hi => ?_, fun i j hi hj h => ?_⟩, fun q hq => ?_, ?_, ?_, ?_, ?_, ?_, ?_, ?_, ?_, ?_, ?_, ?_⟩, ?_⟩
  · match k, hk with
    | 0, hk => cases hk; exact ⟨g0, r0⟩
    | 1, hk => cases hk; exact ⟨g1, r1⟩
    | 2, hk => cases hk; exact ⟨g2, r2⟩
    | 3, hk => cases hk; exact ⟨g3, r3⟩
    | 4, hk => cases hk; exact ⟨g4, r4⟩
    | 5, hk => cases hk; exact ⟨g5, r5⟩
    | 6, hk => cases hk; exact ⟨g6, r6⟩
    | 7, hk => cases hk; exact ⟨g7, r7⟩
    | k + 8, hk => simp [wtys] at hk
  · have h := hS.1 i hi
    dsimp only
    rw [if_pos hi, if_neg (by omega), if_neg (by omega), show 100 + i - 100 = i by omega]
    exact h
  · dsimp only at h
    rw [if_pos hi, if_pos hj] at h
    exact hS.2 i j hi hj h
  · obtain ⟨h1, h2, h3⟩ := gv_ref q hq
    dsimp only
    rw [if_pos h2]
    refine vk_R.of (hts _ h1) ?_
    rw [← h3]
    exact hev _ h2
  · exact va_Zof (stW_at hts 0 rfl) (stW_at hts 1 rfl) hd hA
  · exact hD
  · exact va_Zof (stW_at hts 2 rfl) (stW_at hts 3 rfl) (va_eqt (hg _ gv_cs)) hA
  · exact va_Zqof (stW_at hts 4 rfl) (stW_at hts 5 rfl) (hg _ gv_si) hA
  · exact vx_Zqof (stW_at hts 6 rfl) (stW_at hts 8 rfl) (hg _ gv_us) hA
  · exact vx_Zqof (stW_at hts 7 rfl) (stW_at hts 8 rfl) (hg _ gv_ss) hA
  · exact va_Nw.of rfl (stW_at hts 9 rfl)
  · exact va_Nw.of rfl (stW_at hts 10 rfl)
  · exact va_Nw.of rfl (stW_at hts 11 rfl)
  · exact va_Nw.of rfl (stW_at hts 12 rfl)
  · exact va_Nw.of rfl (stW_at hts 13 rfl)
  · exact ⟨va_AO.of (stW_at hts 14 rfl), va_AO.of (stW_at hts 15 rfl), va_AO.of (stW_at hts 16 rfl), arrayOver_any (stW_at hts 17 rfl), va_Nw.of rfl (stW_at hts 18 rfl), va_Nw.of rfl (stW_at hts 19 rfl), va_Nw.of rfl (stW_at hts 20 rfl), va_Nw.of rfl (stW_at hts 21 rfl), va_Nw.of rfl (stW_at hts 22 rfl)⟩

