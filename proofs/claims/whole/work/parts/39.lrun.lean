/-! THE CLAIM OUT OF ONE WALK OF THE LAW'S BODY. Your part is whole_start (and what it stands on); all else here is the same for every law, but numbers. -/
def R_law : String := "LabourExchangeLaw"
def lw_P (b : Addr) (xs : List Int32) (args : Array Value) (s : State) : Prop := args = #[.ref b] ∧ s.IntsAt b xs ∧ xs.length ≤ 3072 ∧ (Jvm.Cond.and given_1 narrow_1).before args s = true
def lw_Q (_ : Array Value) (s : State) (o : Outcome) (t : State) : Prop := o = .returned (some (.int 1)) ∧ Framed s o t [] 601024 7293034
def lw_Z (below : List Frame) (a : Array Value) (s : State) : State → Prop := fun t => ∃ o, t.status = .running ∧ Ended t below o ∧ lw_Q a s o t
/-- the law's own end, with 1 on the stack, nothing written that was there before, its room as the claim has it -/
theorem lw_ret {p : Program} {l : Launch} {e : Env} {s : State} {m : MethodId} {below : List Frame} {meth : Method} {c : Code} {b : Nat} (hx : p.tables.exec = Jvm.exec) (hb : c.code = code) (hr : meth.sig.returnType = ret) (hlocks : meth.locks = false) {pc : Nat} {H : Heap} {ls : Array Slot} (hdg : decode code pc = .ok (.ireturn, 1)) : W p l e room_1 s m #[Value.ref b] below meth c H [] 601024 7293034 (lw_Z below #[Value.ref b] s) (F0 m pc ls [.int 1]) := by
  intro T hT X
  obtain ⟨fs, hret, hrun, hended, hW, hframe⟩ := X.leave (v := some (.int 1)) (hlocks := hlocks) (fun h => by rw [hr] at h; cases h)
  have hmeth' : T.vm.method? m = some meth := X.method'
  refine ⟨T.setFrames fs, ?_, .returned (some (.int 1)), hrun, hended, rfl, ⟨_, rfl⟩, hW, hframe⟩
  jvm_step X.here [X.here.top, hx, hb, hdg, hmeth', hr, ret, narrow_b1]
  (try refine ⟨rfl, ?_⟩); (try refine ⟨rfl, ?_⟩)
  first | (intro acts; rw [hret _ acts rfl rfl rfl]) | rw [hret _ _ rfl rfl rfl]
  exact Steps.refl _
/-- what holds at the law's entry: the machine, the code, the tables' words (any of lw_tbl by 'hts w (by decide +kernel)'), the script of L ints xs at the cell b, what the Statement gives of the start (any of its parts by flat_of_before) -/
def lw_At (p : Program) (s : State) (m : MethodId) (meth : Method) (c : Code) (b L : Nat) (xs : Nat → Int32) : Prop :=
  p.tables.exec = Jvm.exec ∧ c.code = code ∧ meth.sig.returnType = ret ∧ c.maxLocals = 8 ∧ s.vm.findClass R_law = some m.cls ∧ (∀ w ∈ lw_tbl, w.before #[Value.ref b] s = true) ∧ va_X b L xs s s.heap ∧ b < s.heap.size ∧ meth.locks = false ∧ (Jvm.Cond.and given_1 narrow_1).before #[Value.ref b] s = true
theorem nI_l6 {L k : Nat} (hL : L ≤ 3072) (hk : k ≤ 4000) : (nI L - 6 < nI k) ↔ L < k + 6 := by
  by_cases h : 6 ≤ L
  · have e : nI L - 6 = nI (L - 6) := by
      have e1 : nI (L - 6) + nI 6 = nI L := by rw [nI_add]; congr 1; omega
      rw [← e1]
      exact Int32.add_sub_cancel _ _
    rw [e, nI_ltI (by omega) (by omega)]
    omega
  · have h1 : nI L - 6 < 0 := by
      have : L = 0 ∨ L = 1 ∨ L = 2 ∨ L = 3 ∨ L = 4 ∨ L = 5 := by omega
      rcases this with rfl | rfl | rfl | rfl | rfl | rfl <;> decide
    refine ⟨fun _ => by omega, fun _ => ?_⟩
    rw [Int32.lt_iff_toInt_lt] at h1 ⊢
    rw [nI_toInt (by omega)]
    rw [Int32.toInt_zero] at h1
    omega
section LRUN
variable {p : Program} {l : Launch} {e : Env} {s : State} {m : MethodId} {below : List Frame} {meth : Method} {c : Code} {Z : ZT} {N b L : Nat} {xs : Nat → Int32} {Inv : St → St → Prop}
set_option maxRecDepth 10000 in
theorem law_loop (hLO : LawOk N Inv) (hst : l.stackTraces = false) (hc : Cxz p s m meth c #[Value.ref b] code "LabourExchangeLaw" 8 Z) (hr : meth.sig.returnType = ret) (hX : va_X b L xs s s.heap) (hbl : b < s.heap.size) (hZ : Z.1 = s.heap.size) (hL : L ≤ 3072) : ∀ (d k : Nat), L ≤ 6 * k + d → k ≤ 512 → ∀ {σ μ : St} {H : Heap} {locs : List Loc} {ls : Array Slot}, Inv σ μ → Wd Z (cmb σ μ) s H locs → lv_has ls 8 [(4, .int (nI (6 * k))), (0, .ref b), (1, .ref (Z.1 + 0)), (2, .ref (Z.1 + 566)), (3, .ref (Z.1 + 674))] → W p l e room_1 s m #[Value.ref b] below meth c H locs (675 + 3 * k) (164343 + 18 * k) (lw_Z below #[Value.ref b] s) (F0 m 23 ls []) := by
  have hx := hc.hx
  have hb := hc.hb
  have hbZ : b < Z.1 := by omega
  intro d
  induction d using Nat.strongRecOn with
  | _ d ih =>
    intro k hd hk9 σ μ H locs ls hI hw hl
    refine lv_iload hx hb (dq tk_LW_0 13 rfl) (lv_at hl 0 rfl) ?_
    refine lv_aload_n hx hb (dq tk_LW_0 14 rfl) rfl (lv_at hl 1 rfl) ?_
    refine va_slen hx hb hX hbl (A := fun q => Z.1 ≤ q) (by omega) hw.2 (dq tk_LW_0 15 rfl) ?_
    refine lv_bipush (v := 6) hx hb (dq tk_LW_0 16 rfl) (by decide) ?_
    refine lv_isub hx hb (dq tk_LW_0 17 rfl) ?_
    refine lv_icmp_gt (tgt := 2410) hx hb (dq tk_LW_0 18 rfl) (by decide) (fun c1 => ?_) (fun c1 => ?_)
    · refine lv_iconst (v := 1) hx hb (dq tk_LW_25 7 rfl) (by decide) ?_
      refine va_forget (fun q hq => by have := hw.2.2.2 q hq; rw [← hZ]; exact this) ?_
      refine W.widen (k := 601024) (n := 7293034) (by omega) (by omega) ?_
      exact lw_ret hx hb hr hc.2.2.1 (dq tk_LW_25 8 rfl)
    have hk : 6 * k + 6 ≤ L := by
      have h9 := mt (nI_l6 (k := 6 * k) hL (by omega)).mpr c1
      omega
    have hk5 : k + 1 ≤ 512 := by omega
    have next : ∀ (σ1 μ1 : St) (H1 : Heap) (locs1 : List Loc) (ls1 : Array Slot), Inv σ1 μ1 → Wd Z (cmb σ1 μ1) s H1 locs1 → lv_has ls1 8 [(4, .int (nI (6 * k))), (0, .ref b), (1, .ref (Z.1 + 0)), (2, .ref (Z.1 + 566)), (3, .ref (Z.1 + 674))] → W p l e room_1 s m #[Value.ref b] below meth c H1 locs1 (675 + 3 * k + 3) (164343 + 18 * k + 18) (lw_Z below #[Value.ref b] s) (F0 m 2404 ls1 []) := by
      intro σ1 μ1 H1 locs1 ls1 hI hw hl
      refine lv_iinc (v := nI (6 * (k + 1))) (lv' := [(4, .int (nI (6 * (k + 1)))), (0, .ref b), (1, .ref (Z.1 + 0)), (2, .ref (Z.1 + 566)), (3, .ref (Z.1 + 674))]) hx hb (dq tk_LW_25 5 rfl) hl (k := 0) rfl (by rw [show 6 * (k + 1) = 6 * k + 6 by omega]; exact (show nI (6 * k) + nI 6 = _ from nI_add (6 * k) 6)) (by decide) rfl (fun ls hl => ?_)
      refine lv_goto (tgt := 23) hx hb (dq tk_LW_25 6 rfl) (by decide) ?_
      exact ih (d - 6) (by omega) (k + 1) (by omega) hk5 hI hw hl
    obtain ⟨a0, ha0⟩ : ∃ a, xs (6 * k) = a := ⟨_, rfl⟩
    refine lv_aload_n hx hb (dq tk_LW_0 19 rfl) rfl (lv_at hl 1 rfl) ?_
    refine lv_iload hx hb (dq tk_LW_0 20 rfl) (lv_at hl 0 rfl) ?_
    refine l_sld hc hw hX hbl hbZ (k := 6 * k) rfl (by omega) hL ha0 (dq tk_LW_0 21 rfl) ?_
    refine lv_bipush (v := 63) hx hb (dq tk_LW_0 22 rfl) (by decide) ?_
    refine lv_iand hx hb (dq tk_LW_0 23 rfl) ?_
    generalize a0 &&& 63 = w
    by_cases c_0 : w = 0
    · refine lv_tableIn (tgt := 196) hx hb (dq tk_LW_0 24 rfl) (by rw [c_0]; decide) (by rw [c_0]; decide) (by rw [c_0]; first | done | rfl) (by decide) ?_
      exact w_law_0 hLO hst hc hX hbl hbZ hL hk hI ⟨by omega, by omega⟩ hw hl next
    by_cases c_1 : w = 1
    · refine lv_tableIn (tgt := 233) hx hb (dq tk_LW_0 24 rfl) (by rw [c_1]; decide) (by rw [c_1]; decide) (by rw [c_1]; first | done | rfl) (by decide) ?_
      exact w_law_1 hLO hst hc hX hbl hbZ hL hk hI ⟨by omega, by omega⟩ hw hl next
    by_cases c_2 : w = 2
    · refine lv_tableIn (tgt := 306) hx hb (dq tk_LW_0 24 rfl) (by rw [c_2]; decide) (by rw [c_2]; decide) (by rw [c_2]; first | done | rfl) (by decide) ?_
      exact w_law_2 hLO hst hc hX hbl hbZ hL hk hI ⟨by omega, by omega⟩ hw hl next
    by_cases c_3 : w = 3
    · refine lv_tableIn (tgt := 379) hx hb (dq tk_LW_0 24 rfl) (by rw [c_3]; decide) (by rw [c_3]; decide) (by rw [c_3]; first | done | rfl) (by decide) ?_
      exact w_law_3 hLO hst hc hX hbl hbZ hL hk hI ⟨by omega, by omega⟩ hw hl next
    by_cases c_4 : w = 4
    · refine lv_tableIn (tgt := 466) hx hb (dq tk_LW_0 24 rfl) (by rw [c_4]; decide) (by rw [c_4]; decide) (by rw [c_4]; first | done | rfl) (by decide) ?_
      exact w_law_4 hLO hst hc hX hbl hbZ hL hk hI ⟨by omega, by omega⟩ hw hl next
    by_cases c_5 : w = 5
    · refine lv_tableIn (tgt := 553) hx hb (dq tk_LW_0 24 rfl) (by rw [c_5]; decide) (by rw [c_5]; decide) (by rw [c_5]; first | done | rfl) (by decide) ?_
      exact w_law_5 hLO hst hc hX hbl hbZ hL hk hI ⟨by omega, by omega⟩ hw hl next
    by_cases c_6 : w = 6
    · refine lv_tableIn (tgt := 621) hx hb (dq tk_LW_0 24 rfl) (by rw [c_6]; decide) (by rw [c_6]; decide) (by rw [c_6]; first | done | rfl) (by decide) ?_
      exact w_law_6 hLO hst hc hX hbl hbZ hL hk hI ⟨by omega, by omega⟩ hw hl next
    by_cases c_7 : w = 7
    · refine lv_tableIn (tgt := 701) hx hb (dq tk_LW_0 24 rfl) (by rw [c_7]; decide) (by rw [c_7]; decide) (by rw [c_7]; first | done | rfl) (by decide) ?_
      exact w_law_7 hLO hst hc hX hbl hbZ hL hk hI ⟨by omega, by omega⟩ hw hl next
    by_cases c_8 : w = 8
    · refine lv_tableIn (tgt := 714) hx hb (dq tk_LW_0 24 rfl) (by rw [c_8]; decide) (by rw [c_8]; decide) (by rw [c_8]; first | done | rfl) (by decide) ?_
      exact w_law_8 hLO hst hc hX hbl hbZ hL hk hI ⟨by omega, by omega⟩ hw hl next
    by_cases c_9 : w = 9
    · refine lv_tableIn (tgt := 806) hx hb (dq tk_LW_0 24 rfl) (by rw [c_9]; decide) (by rw [c_9]; decide) (by rw [c_9]; first | done | rfl) (by decide) ?_
      exact w_law_9 hLO hst hc hX hbl hbZ hL hk hI ⟨by omega, by omega⟩ hw hl next
    by_cases c_10 : w = 10
    · refine lv_tableIn (tgt := 869) hx hb (dq tk_LW_0 24 rfl) (by rw [c_10]; decide) (by rw [c_10]; decide) (by rw [c_10]; first | done | rfl) (by decide) ?_
      exact w_law_10 hLO hst hc hX hbl hbZ hL hk hI ⟨by omega, by omega⟩ hw hl next
    by_cases c_11 : w = 11
    · refine lv_tableIn (tgt := 937) hx hb (dq tk_LW_0 24 rfl) (by rw [c_11]; decide) (by rw [c_11]; decide) (by rw [c_11]; first | done | rfl) (by decide) ?_
      exact w_law_11 hLO hst hc hX hbl hbZ hL hk hI ⟨by omega, by omega⟩ hw hl next
    by_cases c_12 : w = 12
    · refine lv_tableIn (tgt := 993) hx hb (dq tk_LW_0 24 rfl) (by rw [c_12]; decide) (by rw [c_12]; decide) (by rw [c_12]; first | done | rfl) (by decide) ?_
      exact w_law_12 hLO hst hc hX hbl hbZ hL hk hI ⟨by omega, by omega⟩ hw hl next
    by_cases c_13 : w = 13
    · refine lv_tableIn (tgt := 1049) hx hb (dq tk_LW_0 24 rfl) (by rw [c_13]; decide) (by rw [c_13]; decide) (by rw [c_13]; first | done | rfl) (by decide) ?_
      exact w_law_13 hLO hst hc hX hbl hbZ hL hk hI ⟨by omega, by omega⟩ hw hl next
    by_cases c_14 : w = 14
    · refine lv_tableIn (tgt := 1129) hx hb (dq tk_LW_0 24 rfl) (by rw [c_14]; decide) (by rw [c_14]; decide) (by rw [c_14]; first | done | rfl) (by decide) ?_
      exact w_law_14 hLO hst hc hX hbl hbZ hL hk hI ⟨by omega, by omega⟩ hw hl next
    by_cases c_15 : w = 15
    · refine lv_tableIn (tgt := 1209) hx hb (dq tk_LW_0 24 rfl) (by rw [c_15]; decide) (by rw [c_15]; decide) (by rw [c_15]; first | done | rfl) (by decide) ?_
      exact w_law_15 hLO hst hc hX hbl hbZ hL hk hI ⟨by omega, by omega⟩ hw hl next
    by_cases c_16 : w = 16
    · refine lv_tableIn (tgt := 1276) hx hb (dq tk_LW_0 24 rfl) (by rw [c_16]; decide) (by rw [c_16]; decide) (by rw [c_16]; first | done | rfl) (by decide) ?_
      exact w_law_16 hLO hst hc hX hbl hbZ hL hk hI ⟨by omega, by omega⟩ hw hl next
    by_cases c_17 : w = 17
    · refine lv_tableIn (tgt := 1344) hx hb (dq tk_LW_0 24 rfl) (by rw [c_17]; decide) (by rw [c_17]; decide) (by rw [c_17]; first | done | rfl) (by decide) ?_
      exact w_law_17 hLO hst hc hX hbl hbZ hL hk hI ⟨by omega, by omega⟩ hw hl next
    by_cases c_18 : w = 18
    · refine lv_tableIn (tgt := 1412) hx hb (dq tk_LW_0 24 rfl) (by rw [c_18]; decide) (by rw [c_18]; decide) (by rw [c_18]; first | done | rfl) (by decide) ?_
      exact w_law_18 hLO hst hc hX hbl hbZ hL hk hI ⟨by omega, by omega⟩ hw hl next
    by_cases c_19 : w = 19
    · refine lv_tableIn (tgt := 1468) hx hb (dq tk_LW_0 24 rfl) (by rw [c_19]; decide) (by rw [c_19]; decide) (by rw [c_19]; first | done | rfl) (by decide) ?_
      exact w_law_19 hLO hst hc hX hbl hbZ hL hk hI ⟨by omega, by omega⟩ hw hl next
    by_cases c_20 : w = 20
    · refine lv_tableIn (tgt := 1529) hx hb (dq tk_LW_0 24 rfl) (by rw [c_20]; decide) (by rw [c_20]; decide) (by rw [c_20]; first | done | rfl) (by decide) ?_
      exact w_law_20 hLO hst hc hX hbl hbZ hL hk hI ⟨by omega, by omega⟩ hw hl next
    by_cases c_21 : w = 21
    · refine lv_tableIn (tgt := 1597) hx hb (dq tk_LW_0 24 rfl) (by rw [c_21]; decide) (by rw [c_21]; decide) (by rw [c_21]; first | done | rfl) (by decide) ?_
      exact w_law_21 hLO hst hc hX hbl hbZ hL hk hI ⟨by omega, by omega⟩ hw hl next
    by_cases c_22 : w = 22
    · refine lv_tableIn (tgt := 1665) hx hb (dq tk_LW_0 24 rfl) (by rw [c_22]; decide) (by rw [c_22]; decide) (by rw [c_22]; first | done | rfl) (by decide) ?_
      exact w_law_22 hLO hst hc hX hbl hbZ hL hk hI ⟨by omega, by omega⟩ hw hl next
    by_cases c_23 : w = 23
    · refine lv_tableIn (tgt := 1733) hx hb (dq tk_LW_0 24 rfl) (by rw [c_23]; decide) (by rw [c_23]; decide) (by rw [c_23]; first | done | rfl) (by decide) ?_
      exact w_law_23 hLO hst hc hX hbl hbZ hL hk hI ⟨by omega, by omega⟩ hw hl next
    by_cases c_24 : w = 24
    · refine lv_tableIn (tgt := 1817) hx hb (dq tk_LW_0 24 rfl) (by rw [c_24]; decide) (by rw [c_24]; decide) (by rw [c_24]; first | done | rfl) (by decide) ?_
      exact w_law_24 hLO hst hc hX hbl hbZ hL hk hI ⟨by omega, by omega⟩ hw hl next
    by_cases c_25 : w = 25
    · refine lv_tableIn (tgt := 1830) hx hb (dq tk_LW_0 24 rfl) (by rw [c_25]; decide) (by rw [c_25]; decide) (by rw [c_25]; first | done | rfl) (by decide) ?_
      exact w_law_25 hLO hst hc hX hbl hbZ hL hk hI ⟨by omega, by omega⟩ hw hl next
    by_cases c_26 : w = 26
    · refine lv_tableIn (tgt := 1886) hx hb (dq tk_LW_0 24 rfl) (by rw [c_26]; decide) (by rw [c_26]; decide) (by rw [c_26]; first | done | rfl) (by decide) ?_
      exact w_law_26 hLO hst hc hX hbl hbZ hL hk hI ⟨by omega, by omega⟩ hw hl next
    by_cases c_27 : w = 27
    · refine lv_tableIn (tgt := 1935) hx hb (dq tk_LW_0 24 rfl) (by rw [c_27]; decide) (by rw [c_27]; decide) (by rw [c_27]; first | done | rfl) (by decide) ?_
      exact w_law_27 hLO hst hc hX hbl hbZ hL hk hI ⟨by omega, by omega⟩ hw hl next
    by_cases c_28 : w = 28
    · refine lv_tableIn (tgt := 1948) hx hb (dq tk_LW_0 24 rfl) (by rw [c_28]; decide) (by rw [c_28]; decide) (by rw [c_28]; first | done | rfl) (by decide) ?_
      exact w_law_28 hLO hst hc hX hbl hbZ hL hk hI ⟨by omega, by omega⟩ hw hl next
    by_cases c_29 : w = 29
    · refine lv_tableIn (tgt := 1985) hx hb (dq tk_LW_0 24 rfl) (by rw [c_29]; decide) (by rw [c_29]; decide) (by rw [c_29]; first | done | rfl) (by decide) ?_
      exact w_law_29 hLO hst hc hX hbl hbZ hL hk hI ⟨by omega, by omega⟩ hw hl next
    by_cases c_30 : w = 30
    · refine lv_tableIn (tgt := 2041) hx hb (dq tk_LW_0 24 rfl) (by rw [c_30]; decide) (by rw [c_30]; decide) (by rw [c_30]; first | done | rfl) (by decide) ?_
      exact w_law_30 hLO hst hc hX hbl hbZ hL hk hI ⟨by omega, by omega⟩ hw hl next
    by_cases c_31 : w = 31
    · refine lv_tableIn (tgt := 2132) hx hb (dq tk_LW_0 24 rfl) (by rw [c_31]; decide) (by rw [c_31]; decide) (by rw [c_31]; first | done | rfl) (by decide) ?_
      exact w_law_31 hLO hst hc hX hbl hbZ hL hk hI ⟨by omega, by omega⟩ hw hl next
    by_cases c_32 : w = 32
    · refine lv_tableIn (tgt := 2200) hx hb (dq tk_LW_0 24 rfl) (by rw [c_32]; decide) (by rw [c_32]; decide) (by rw [c_32]; first | done | rfl) (by decide) ?_
      exact w_law_32 hLO hst hc hX hbl hbZ hL hk hI ⟨by omega, by omega⟩ hw hl next
    by_cases c_33 : w = 33
    · refine lv_tableIn (tgt := 2280) hx hb (dq tk_LW_0 24 rfl) (by rw [c_33]; decide) (by rw [c_33]; decide) (by rw [c_33]; first | done | rfl) (by decide) ?_
      exact w_law_33 hLO hst hc hX hbl hbZ hL hk hI ⟨by omega, by omega⟩ hw hl next
    by_cases c_34 : w = 34
    · refine lv_tableIn (tgt := 2348) hx hb (dq tk_LW_0 24 rfl) (by rw [c_34]; decide) (by rw [c_34]; decide) (by rw [c_34]; first | done | rfl) (by decide) ?_
      exact w_law_34 hLO hst hc hX hbl hbZ hL hk hI ⟨by omega, by omega⟩ hw hl next
    refine lv_tableOut (tgt := 2404) hx hb (dq tk_LW_0 24 rfl) (sw_out (fun k h1 h2 => by
      have h3 : k = 0 ∨ k = 1 ∨ k = 2 ∨ k = 3 ∨ k = 4 ∨ k = 5 ∨ k = 6 ∨ k = 7 ∨ k = 8 ∨ k = 9 ∨ k = 10 ∨ k = 11 ∨ k = 12 ∨ k = 13 ∨ k = 14 ∨ k = 15 ∨ k = 16 ∨ k = 17 ∨ k = 18 ∨ k = 19 ∨ k = 20 ∨ k = 21 ∨ k = 22 ∨ k = 23 ∨ k = 24 ∨ k = 25 ∨ k = 26 ∨ k = 27 ∨ k = 28 ∨ k = 29 ∨ k = 30 ∨ k = 31 ∨ k = 32 ∨ k = 33 ∨ k = 34 := by omega
      rcases h3 with rfl | rfl | rfl | rfl | rfl | rfl | rfl | rfl | rfl | rfl | rfl | rfl | rfl | rfl | rfl | rfl | rfl | rfl | rfl | rfl | rfl | rfl | rfl | rfl | rfl | rfl | rfl | rfl | rfl | rfl | rfl | rfl | rfl | rfl | rfl
      · exact c_0
      · exact c_1
      · exact c_2
      · exact c_3
      · exact c_4
      · exact c_5
      · exact c_6
      · exact c_7
      · exact c_8
      · exact c_9
      · exact c_10
      · exact c_11
      · exact c_12
      · exact c_13
      · exact c_14
      · exact c_15
      · exact c_16
      · exact c_17
      · exact c_18
      · exact c_19
      · exact c_20
      · exact c_21
      · exact c_22
      · exact c_23
      · exact c_24
      · exact c_25
      · exact c_26
      · exact c_27
      · exact c_28
      · exact c_29
      · exact c_30
      · exact c_31
      · exact c_32
      · exact c_33
      · exact c_34
      )) (by decide) ?_
    refine W.widen (k := 675 + 3 * k + 3) (n := 164343 + 18 * k + 18) (by omega) (by omega) ?_
    exact next σ μ H locs ls hI hw hl
set_option maxHeartbeats 4000000 in
set_option maxRecDepth 10000 in
theorem law_run (hLO : LawOk N Inv) (h0 : Inv σ0 μ0) (hst : l.stackTraces = false) (hL : L ≤ 3072) (C0 : lw_At p s m meth c b L xs) : W p l e room_1 s m #[Value.ref b] below meth c s.heap [] 0 0 (lw_Z below #[Value.ref b] s) (entryFrame m ([Value.ref b] : List Value).toArray 8) := by
  obtain ⟨hx, hb, hr, hml, hown, hts, hX, hbl, hlocks, hgv⟩ := id C0
  obtain ⟨Z, hZ, hK, hWX, hN⟩ := sx_all hts hgv
  have hc : Cxz p s m meth c #[Value.ref b] code "LabourExchangeLaw" 8 Z := ⟨⟨hx, hb, hml, hown, fun w h => hts w (List.mem_filter.mp h).1⟩, hK, hlocks, hWX⟩
  have hl := lv_entry ([.ref b]) (n := 8) (Nat.le_of_ble_eq_true rfl)
  rw [lg_entry_eq]
  generalize (lg_sl ([.ref b]) ++ List.replicate (8 - (lg_sl ([.ref b])).length) Slot.unset).toArray = ls at hl ⊢
  have hl : lv_has ls 8 [(0, .ref b)] := hl
  have hw : Kw Z τ0 0 [] 0 s s.heap [] := ⟨fun j => we Z τ0 (wdesc (0 + j)), fun k q h => (by cases h), (by rw [← hZ]; rfl), va_S.rf, List.nodup_nil, fun q h => (by cases h), fun j hj _ => rfl⟩
  refine k_new hc hw (ci := 11) (fs := [.null, .null, .null, .null, .null, .null, .null, .null, .null, .null, .null, .int 0, .int 0, .int 0, .int 0]) rfl inX11 tyX11_ok (by intro j hj; revert j; exact dfX11) (tb_c1 26 (by decide +kernel) (by decide +kernel)) (tb_c1 27 (by decide +kernel) (by decide +kernel)) (tb_c1 1 (by decide +kernel) (by decide +kernel)) (Nat.le_of_ble_eq_true rfl) (Nat.le_of_ble_eq_true rfl) (dq tk_LW_0 0 rfl) (fun H hw => ?_)
  refine lv_dup hx hb (dq tk_LW_0 1 rfl) rfl ?_
  refine k_call hc hN hw rfl c0_X yk_X_init (tb_c1 28 (by decide +kernel) (by decide +kernel)) ⟨Nat.le_of_ble_eq_true rfl, Nat.le_of_ble_eq_true rfl⟩ ⟨Nat.le_of_ble_eq_true rfl, Nat.le_of_ble_eq_true rfl⟩ rfl hl.1 (Nat.le_of_ble_eq_true rfl) (dq tk_LW_0 2 rfl) rfl (fun H locs hw => ?_)
  refine lv_astore_n (lv' := [(1, .ref (Z.1 + 0)), (0, .ref b)]) hx hb (dq tk_LW_0 3 rfl) rfl hl (by decide) rfl (fun ls hl => ?_)
  refine k_new hc hw (ci := 12) (fs := [.null, .null, .null, .int 0, .int 0, .int 0, .int 0, .int 0, .null, .null, .null, .null, .null, .null, .null, .int 0, .int 0, .int 0, .int 0, .null, .null, .null, .null, .null, .null, .null, .null, .null, .null, .null, .null, .null, .null, .null, .null, .null, .null, .null, .null, .null, .null, .null, .null, .null, .null, .null, .int 0, .int 0, .int 0, .int 0, .int 0, .int 0, .int 0, .int 0, .int 0, .int 0, .int 0, .int 0, .int 0, .null, .null, .null, .int 0, .null, .null, .int 0, .null, .int 0, .int 0, .int 0, .int 0, .int 0, .int 0, .int 0, .null, .null, .null, .null, .null, .null, .null, .null, .null, .null, .null, .int 0, .int 0, .null, .null, .null, .null, .null, .null, .null, .null, .null, .null, .null, .null, .null, .null, .null, .null, .null, .null, .null, .null, .null, .null, .null, .null, .long 0, .long 0, .long 0, .int 0, .int 0, .int 0, .null, .null, .null, .null, .null, .null, .null, .null, .null, .null, .null, .null, .null, .null, .null, .int 0, .null, .null, .null, .int 0, .int 0, .null, .null, .null, .null, .null, .null, .null, .null, .int 0, .null, .null, .null]) rfl inX12 tyX12_ok (by intro j hj; revert j; exact dfX12) (tb_c7 165 (by decide +kernel) (by decide +kernel)) (tb_c7 166 (by decide +kernel) (by decide +kernel)) (tb_c1 14 (by decide +kernel) (by decide +kernel)) (Nat.le_of_ble_eq_true rfl) (Nat.le_of_ble_eq_true rfl) (dq tk_LW_0 4 rfl) (fun H hw => ?_)
  refine lv_dup hx hb (dq tk_LW_0 5 rfl) rfl ?_
  refine k_call hc hN hw rfl c0_M yk_M_init (tb_c7 167 (by decide +kernel) (by decide +kernel)) ⟨Nat.le_of_ble_eq_true rfl, Nat.le_of_ble_eq_true rfl⟩ ⟨Nat.le_of_ble_eq_true rfl, Nat.le_of_ble_eq_true rfl⟩ rfl hl.1 (Nat.le_of_ble_eq_true rfl) (dq tk_LW_0 6 rfl) rfl (fun H locs hw => ?_)
  refine lv_astore_n (lv' := [(2, .ref (Z.1 + 566)), (1, .ref (Z.1 + 0)), (0, .ref b)]) hx hb (dq tk_LW_0 7 rfl) rfl hl (by decide) rfl (fun ls hl => ?_)
  refine lv_iconst (v := 1) hx hb (dq tk_LW_0 8 rfl) (by decide) ?_
  refine k_newa hc hw (t := 3) (N' := 1) (ty := .long) (a0 := (1, .inr (.inl (fun _ => 0)))) rfl (tb_c3 59 (by decide +kernel) (by decide +kernel)) rfl rfl (fun _ => rfl) (by decide) (by decide) (by decide) (Nat.le_of_ble_eq_true rfl) (Nat.le_of_ble_eq_true rfl) (dq tk_LW_0 9 rfl) (fun H hw => ?_)
  replace hw := hw.drop (rfl)
  refine lv_astore_n (lv' := [(3, .ref (Z.1 + 674)), (2, .ref (Z.1 + 566)), (1, .ref (Z.1 + 0)), (0, .ref b)]) hx hb (dq tk_LW_0 10 rfl) rfl hl (by decide) rfl (fun ls hl => ?_)
  refine lv_iconst (v := 0) hx hb (dq tk_LW_0 11 rfl) (by decide) ?_
  refine lv_istore (lv' := [(4, .int 0), (3, .ref (Z.1 + 674)), (2, .ref (Z.1 + 566)), (1, .ref (Z.1 + 0)), (0, .ref b)]) hx hb (dq tk_LW_0 12 rfl) hl (by decide) rfl (fun ls hl => ?_)
  have hW : Wd Z (cmb σ0 μ0) s H locs := by
    obtain ⟨E, h1, h2, h3, h4, h5, h6⟩ := hw
    refine ⟨fun k q hq => ?_, h3.1, fun q g1 g2 => h3.2.1 q g1 (fun g => g2 g), fun q hq => h3.2.2 q hq⟩
    obtain ⟨hk, rfl⟩ := wws_of hq
    have h9 := h1 k _ (ewo_get hk)
    rw [h6 k hk (fun q hq => by cases hq), Nat.zero_add] at h9
    exact h9
  exact law_loop hLO hst hc hr hX hbl hZ hL L 0 (by omega) (by decide) h0 hW (lv_sub hl [0, 4, 3, 2, 1] rfl)
end LRUN
