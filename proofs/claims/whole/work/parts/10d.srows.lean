/-! texts and the row of numbers below the world; arraycopy -/
section SROWS
variable {p : Program} {l : Launch} {e : Env} {R : Room} {s : State} {m : MethodId} {args : Array Value} {below : List Frame} {meth : Method} {c : Code} {H : Heap} {locs : List Loc} {cells slots : Nat} {Q : State → Prop}
variable {cc : ByteArray} {own : String} {nL : Nat} {Z : ZT} {σ μ ν τ : St} {pc : Nat} {ls : Array Slot} {rest : List Value}
theorem x_ldcS (hc : Cxz p s m meth c args cc own nL Z) {idx k : Nat} {tx : String} (hm : (own, idx, tx, k) ∈ strRefs) (hdg : decode cc pc = .ok (.ldc idx, 2)) (kk : W p l e R s m args below meth c H locs cells slots Q (F0 m (pc + 2) ls (.ref (Z.2.2.2 k) :: rest))) : W p l e R s m args below meth c H locs cells slots Q (F0 m pc ls rest) :=
  va_ldcS hc.hx hc.hb hc.ho (hc.2.2.2.a2 _ hm) hdg kk
theorem x_ldcwS (hc : Cxz p s m meth c args cc own nL Z) {idx k : Nat} {tx : String} (hm : (own, idx, tx, k) ∈ strRefs) (hdg : decode cc pc = .ok (.ldc_w idx, 3)) (kk : W p l e R s m args below meth c H locs cells slots Q (F0 m (pc + 3) ls (.ref (Z.2.2.2 k) :: rest))) : W p l e R s m args below meth c H locs cells slots Q (F0 m pc ls rest) := by
  have hZ := hc.2.2.2.a2 _ hm
  intro T hT X
  obtain ⟨t, a1, b1⟩ := kk T hT X
  exact ⟨t, X.ldcStringW hc.hx hc.ho (text := tx) (a := Z.2.2.2 k) hZ.1 hZ.2 (g := F0 m pc ls rest) rfl (by rw [hc.hb]; exact hdg) t a1, b1⟩
theorem x_sval {k : Nat} (hk : k < 34) (hc : Cxz p s m meth c args cc own nL Z) (hw : Wd Z τ s H locs) {idx : Nat} (hl : Cond.fieldLink own idx "java/lang/String" "value" "[B" ∈ TB) (hdg : decode cc pc = .ok (.getfield idx, 3)) (kk : W p l e R s m args below meth c H locs cells slots Q (F0 m (pc + 3) ls (.ref (Z.2.2.2 (100 + k)) :: rest))) : W p l e R s m args below meth c H locs cells slots Q (F0 m pc ls (.ref (Z.2.2.2 k) :: rest)) :=
  vk_getf hc.hx hc.hb (hc.2.2.2.a1.1 k hk).2.2.1 hw.2 hc.ho (hc.ht _ hl) (fun _ h => h) hdg kk
theorem x_scod {k : Nat} (hk : k < 34) (hc : Cxz p s m meth c args cc own nL Z) (hw : Wd Z τ s H locs) {idx : Nat} (hl : Cond.fieldLink own idx "java/lang/String" "coder" "B" ∈ TB) (hdg : decode cc pc = .ok (.getfield idx, 3)) (kk : W p l e R s m args below meth c H locs cells slots Q (F0 m (pc + 3) ls (.int 0 :: rest))) : W p l e R s m args below meth c H locs cells slots Q (F0 m pc ls (.ref (Z.2.2.2 k) :: rest)) :=
  vk_getf hc.hx hc.hb (hc.2.2.2.a1.1 k hk).2.1 hw.2 hc.ho (hc.ht _ hl) (fun _ h => h) hdg kk
theorem x_scomp (hc : Cxz p s m meth c args cc own nL Z) (hw : Wd Z τ s H locs) {idx : Nat} (hl : Cond.fieldLink own idx "java/lang/String" "COMPACT_STRINGS" "Z" ∈ TB) (hdg : decode cc pc = .ok (.getstatic idx, 3)) (kk : W p l e R s m args below meth c H locs cells slots Q (F0 m (pc + 3) ls (.int 1 :: rest))) : W p l e R s m args below meth c H locs cells slots Q (F0 m pc ls rest) :=
  va_gets hc.hx hc.hb hc.2.2.2.a5 hw.2 hc.ho (hc.ht _ hl) (fun _ h => h) hdg kk
theorem GS_DEFAULTS (hc : Cxz p s m meth c args cc "LabourExchange$Law" nL Z) (hw : Wd Z τ s H locs) (hdg : decode cc pc = .ok (.getstatic 84, 3)) (kk : W p l e R s m args below meth c H locs cells slots Q (F0 m (pc + 3) ls (.ref (Z.2.2.2 50) :: rest))) : W p l e R s m args below meth c H locs cells slots Q (F0 m pc ls rest) :=
  va_gets hc.hx hc.hb hc.2.2.2.a3 hw.2 hc.ho (hc.ht _ gs_def) (fun _ h => h) hdg kk
def strB (k i : Nat) : Bool := decide ((strByt.getD k []).getD i 0 &&& 255 = schr k i) && decide (((schr k i).toUInt32 % 65536).toInt32 = schr k i) && decide ((schr k i).toUInt32.toUInt16.toUInt32.toInt32 = schr k i)
theorem str_ok : ∀ k, k < 34 → (strLen.getD k 0 = slenN k ∧ slenN k < 1000) ∧ ∀ i, i < slenN k → strB k i = true := by decide +kernel
theorem x_svi {y : MethodName} {cd : ByteArray} {nL' n idx k : Nat} {ret : Option FieldType} {rm : Room} {As : List Value} {v : Option Value} {bd : Prop} {τ' : St} (hk : k < 34) (hc : Cxz p s m meth c args cc own nL Z) (hw : Wd Z τ s H locs) (hM : Ct l Z y cd nL' ret rm (.ref (Z.2.2.2 k) :: As) τ v bd τ') (hy : Yv y cd nL' ret n) (hyc : y.cls = "java/lang/String")
    (hl : Cond.methodLink own idx y ∈ TB) (hR : rm.frames + 1 ≤ R.frames ∧ 8 + (nL' + 11) + rm.locals ≤ R.locals) (hf : cells + rm.cells ≤ R.cells ∧ slots + rm.slots ≤ R.slots) (hn : As.length = n) (hls : ls.size = nL) (hst : (rest.map fun v => v.category).sum ≤ 8) (hdg : decode cc pc = .ok (.invokevirtual idx, 3)) {st0 : List Value} (hst0 : st0 = As.reverse ++ .ref (Z.2.2.2 k) :: rest)
    (kk : ∀ (H1 : Heap) (locs1 : List Loc), Wd Z τ' s H1 locs1 → bd → W p l e R s m args below meth c H1 locs1 (cells + rm.cells) (slots + rm.slots) Q (F0 m (pc + 3) ls (v.toList ++ rest))) : W p l e R s m args below meth c H locs cells slots Q (F0 m pc ls st0) := by
  obtain ⟨⟨y1, y2, y3, y4⟩, y5, y6, y7⟩ := hy
  have hG : GoodIn TB (wsV own idx y.cls y (wsm y cd nL' ret)) := by
    intro w hw
    simp only [wsV, List.mem_append, List.mem_cons, List.not_mem_nil, or_false] at hw
    rcases hw with (rfl | rfl | rfl | rfl) | (rfl | h)
    · exact tb_in hl
    · exact tb_in y1
    · exact tb_in y2
    · exact tb_in y3
    · exact tb_in y4
    · exact tb_in h
  exact x_call (va_runV (As := As) (rest := rest) (C := y.cls) hc.1 hM (cwV n hc.ht hG rfl rfl rfl ⟨rfl, y5, y6, y7⟩ hR) ⟨Ws.blind, by rw [hyc]; exact vk_recv hc.2.2.2.a1 hk hw.2, fun U hU hW => ⟨rfl, Ws.of hc hw U hU hW⟩⟩ rfl hn hls hst0 (lv_room hst) hdg hf) hw kk
/-! the JDK's own members over these texts -/
theorem c_S_coder {k : Nat} (hk : k < 34) : Ct l Z y_S_coder prog_22_method_152_code 1 (some .byte) (rmo 0) [.ref (Z.2.2.2 k)] τ (some (.int 0)) True τ := by
  refine x_met (by decide) (Nat.le_of_ble_eq_true rfl) (fun p e s m args below meth c ls hc hr hw hl => ?_)
  have hx := hc.hx
  have hb := hc.hb
  refine x_scomp hc hw sl_comp (dq tk_S_coder 0 rfl) ?_
  refine lv_if_eq (tgt := 13) hx hb (dq tk_S_coder 1 rfl) (by decide) (fun q => absurd q (by decide)) (fun _ => ?_)
  refine lv_aload_n hx hb (dq tk_S_coder 2 rfl) rfl (lv_at hl 0 rfl) ?_
  refine x_scod hk hc hw sl_coder (dq tk_S_coder 3 rfl) ?_
  refine lv_goto (tgt := 14) hx hb (dq tk_S_coder 4 rfl) (by decide) ?_
  exact W.zret (ty := .byte) hc.hx hc.hb hr (by decide) (hw.q trivial _ _) hw.2.2.2 (dq tk_S_coder 6 rfl) hc.2.2.1
theorem c_S_lat {k : Nat} (hk : k < 34) : Ct l Z y_S_isLatin1 prog_22_method_154_code 1 (some .boolean) (rmo 0) [.ref (Z.2.2.2 k)] τ (some (.int 1)) True τ := by
  refine x_met (by decide) (Nat.le_of_ble_eq_true rfl) (fun p e s m args below meth c ls hc hr hw hl => ?_)
  have hx := hc.hx
  have hb := hc.hb
  refine x_scomp hc hw sl_comp (dq tk_S_isLatin1 0 rfl) ?_
  refine lv_if_eq (tgt := 17) hx hb (dq tk_S_isLatin1 1 rfl) (by decide) (fun q => absurd q (by decide)) (fun _ => ?_)
  refine lv_aload_n hx hb (dq tk_S_isLatin1 2 rfl) rfl (lv_at hl 0 rfl) ?_
  refine x_scod hk hc hw sl_coder (dq tk_S_isLatin1 3 rfl) ?_
  refine lv_if_ne (tgt := 17) hx hb (dq tk_S_isLatin1 4 rfl) (by decide) (fun q => absurd rfl q) (fun _ => ?_)
  refine lv_iconst (v := 1) hx hb (dq tk_S_isLatin1 5 rfl) (by decide) ?_
  refine lv_goto (tgt := 18) hx hb (dq tk_S_isLatin1 6 rfl) (by decide) ?_
  exact x_zret hc hw hr (by decide) (dq tk_S_isLatin1 8 rfl)
theorem c_S_length {k : Nat} (hk : k < 34) : Ct l Z y_S_length prog_22_method_54_code 1 (some .int) (rmo 1) [.ref (Z.2.2.2 k)] τ (some (.int (slen k))) True τ := by
  refine x_met (by decide) (Nat.le_of_ble_eq_true rfl) (fun p e s m args below meth c ls hc hr hw hl => ?_)
  have hx := hc.hx
  have hb := hc.hb
  refine lv_aload_n hx hb (dq tk_S_length 0 rfl) rfl (lv_at hl 0 rfl) ?_
  refine x_sval hk hc hw sl_value (dq tk_S_length 1 rfl) ?_
  refine va_tlen hx hb (hc.2.2.2.a1.1 k hk).2.2.2 hw.2 (v := slen k) (by rw [(str_ok k hk).1.1]; rfl) (dq tk_S_length 2 rfl) ?_
  refine lv_aload_n hx hb (dq tk_S_length 3 rfl) rfl (lv_at hl 0 rfl) ?_
  refine x_svi hk hc hw (c_S_coder hk) yv_S_coder rfl sm_coder (RO.call RO.self (by decide)) ⟨Nat.zero_le _, Nat.zero_le _⟩ rfl hl.1 (Nat.le_of_ble_eq_true rfl) (dq tk_S_length 4 rfl) rfl (fun H locs hw _ => ?_)
  refine lv_ishr hx hb (dq tk_S_length 5 rfl) ?_
  refine tst (w := .int (slen k)) (congrArg Value.int ?_) ?_
  · rw [show ((0 : Int32) &&& 31) = 0 from by decide, Int32.shiftRight_zero]
  · exact x_iret hc hw hr (dq tk_S_length 6 rfl)
theorem c_P_ci {i n : Int32} {r : Option Nat} (h0 : ¬ i < 0) (h1 : i < n) : Ct l Z y_P_checkIndex prog_31_method_11_code 3 (some .int) (rmo 0) [.int i, .int n, va_rf r] τ (some (.int i)) True τ := by
  refine x_met (by decide) (by cases r <;> exact Nat.le_of_ble_eq_true rfl) (fun p e s m args below meth c ls hc hr hw hl0 => ?_)
  have hl : lv_has ls 3 [(0, .int i), (1, .int n)] := by
    cases r with
    | none => exact lv_sub hl0 [0, 1] rfl
    | some q => exact lv_sub hl0 [0, 1] rfl
  have hx := hc.hx
  have hb := hc.hb
  refine lv_iload_n hx hb (dq tk_P_checkIndex 0 rfl) rfl (lv_at hl 0 rfl) ?_
  refine lv_if_lt (tgt := 9) hx hb (dq tk_P_checkIndex 1 rfl) (by decide) (fun q => absurd q h0) (fun _ => ?_)
  refine lv_iload_n hx hb (dq tk_P_checkIndex 2 rfl) rfl (lv_at hl 0 rfl) ?_
  refine lv_iload_n hx hb (dq tk_P_checkIndex 3 rfl) rfl (lv_at hl 1 rfl) ?_
  refine lv_icmp_lt (tgt := 16) hx hb (dq tk_P_checkIndex 4 rfl) (by decide) (fun _ => ?_) (fun q => absurd h1 q)
  refine lv_iload_n hx hb (dq tk_P_checkIndex 10 rfl) rfl (lv_at hl 0 rfl) ?_
  exact x_iret hc hw hr (dq tk_P_checkIndex 11 rfl)
theorem c_S_ci {i n : Int32} (h0 : ¬ i < 0) (h1 : i < n) : Ct l Z y_S_checkIndex prog_22_method_155_code 2 none (rmo 1) [.int i, .int n] τ none True τ := by
  refine x_met (by decide) (Nat.le_of_ble_eq_true rfl) (fun p e s m args below meth c ls hc hr hw hl => ?_)
  have hx := hc.hx
  have hb := hc.hb
  refine lv_iload_n hx hb (dq tk_S_checkIndex 0 rfl) rfl (lv_at hl 0 rfl) ?_
  refine lv_iload_n hx hb (dq tk_S_checkIndex 1 rfl) rfl (lv_at hl 1 rfl) ?_
  have go : ∀ r : Option Nat, W p l e (rmo 1) s m args below meth c s.heap [] 0 0 (MQ below (Qr Z none True τ) args s (rmo 1).cells (rmo 1).slots (fun q => Z.1 ≤ q)) (F0 m 5 ls [va_rf r, .int n, .int i]) := by
    intro r
    refine x_is hc hw (c_P_ci (r := r) h0 h1) ys_P_checkIndex sm_pci (RO.call RO.self (by decide)) ⟨Nat.zero_le _, Nat.zero_le _⟩ rfl hl.1 (Nat.le_of_ble_eq_true rfl) (dq tk_S_checkIndex 3 rfl) rfl (fun H locs hw _ => ?_)
    refine lv_pop hx hb (dq tk_S_checkIndex 4 rfl) rfl ?_
    exact x_vret hc hw hr (dq tk_S_checkIndex 5 rfl)
  rcases hc.2.2.2.a6 with hz | ⟨q, hz⟩
  · exact va_gets hx hb hz hw.2 hc.ho (hc.ht _ sl_fmt) (fun _ h => h) (dq tk_S_checkIndex 2 rfl) (go none)
  · exact va_gets hx hb hz hw.2 hc.ho (hc.ht _ sl_fmt) (fun _ h => h) (dq tk_S_checkIndex 2 rfl) (go (some q))
theorem c_L1_charAt {k : Nat} {i : Int32} (hk : k < 34) (hi : inb i (slenN k)) : Ct l Z y_L1_charAt prog_23_method_2_code 2 (some .char) (rmo 2) [.ref (Z.2.2.2 (100 + k)), .int i] τ (some (.int (schr k i.toNatClampNeg))) True τ := by
  refine x_met (by decide) (Nat.le_of_ble_eq_true rfl) (fun p e s m args below meth c ls hc hr hw hl => ?_)
  have hx := hc.hx
  have hb := hc.hb
  obtain ⟨⟨e1, e2⟩, e3⟩ := str_ok k hk
  have hlt := inb_lt hi
  have e4 := e3 _ hlt
  simp only [strB, Bool.and_eq_true, decide_eq_true_eq] at e4
  obtain ⟨⟨e5, e6⟩, e7⟩ := e4
  have h0 : ¬ i < 0 := fun q => hi (Or.inl q)
  obtain ⟨j, hjb, hj⟩ := nI_of h0
  have h1 : i < slen k := by
    rw [hj] at hlt ⊢
    rw [nI_clamp (by omega)] at hlt
    exact nI_lt hlt (by omega)
  refine lv_iload_n hx hb (dq tk_L1_charAt 0 rfl) rfl (lv_at hl 1 rfl) ?_
  refine lv_aload_n hx hb (dq tk_L1_charAt 1 rfl) rfl (lv_at hl 0 rfl) ?_
  refine va_tlen hx hb (hc.2.2.2.a1.1 k hk).2.2.2 hw.2 (v := slen k) (by rw [e1]; rfl) (dq tk_L1_charAt 2 rfl) ?_
  refine x_is hc hw (c_S_ci h0 h1) ys_S_checkIndex sm_ci (RO.call RO.self (by decide)) ⟨Nat.zero_le _, Nat.zero_le _⟩ rfl hl.1 (Nat.le_of_ble_eq_true rfl) (dq tk_L1_charAt 3 rfl) rfl (fun H locs hw _ => ?_)
  refine lv_aload_n hx hb (dq tk_L1_charAt 4 rfl) rfl (lv_at hl 0 rfl) ?_
  refine lv_iload_n hx hb (dq tk_L1_charAt 5 rfl) rfl (lv_at hl 1 rfl) ?_
  refine va_tb hx hb (hc.2.2.2.a1.1 k hk).2.2.2 hw.2 (by rw [e1]; exact hi) rfl (dq tk_L1_charAt 6 rfl) ?_
  refine lv_sipush (v := 255) hx hb (dq tk_L1_charAt 7 rfl) (by decide) ?_
  refine lv_iand hx hb (dq tk_L1_charAt 8 rfl) ?_
  refine tst (w := .int (schr k i.toNatClampNeg)) (congrArg Value.int e5) ?_
  refine lv_i2c hx hb (dq tk_L1_charAt 9 rfl) e6 ?_
  exact W.zret (ty := .char) hc.hx hc.hb hr (congrArg Value.int e7) (hw.q trivial _ _) hw.2.2.2 (dq tk_L1_charAt 10 rfl) hc.2.2.1
theorem c_S_charAt {k : Nat} {i : Int32} (hk : k < 34) (hi : inb i (slenN k)) : Ct l Z y_S_charAt prog_22_method_56_code 2 (some .char) (rmo 3) [.ref (Z.2.2.2 k), .int i] τ (some (.int (schr k i.toNatClampNeg))) True τ := by
  refine x_met (by decide) (Nat.le_of_ble_eq_true rfl) (fun p e s m args below meth c ls hc hr hw hl => ?_)
  have hx := hc.hx
  have hb := hc.hb
  obtain ⟨⟨e1, e2⟩, e3⟩ := str_ok k hk
  have e4 := e3 _ (inb_lt hi)
  simp only [strB, Bool.and_eq_true, decide_eq_true_eq] at e4
  refine lv_aload_n hx hb (dq tk_S_charAt 0 rfl) rfl (lv_at hl 0 rfl) ?_
  refine x_svi hk hc hw (c_S_lat hk) yv_S_isLatin1 rfl sm_lat (RO.call (fr := 0) (RO.self.mono (by decide)) (by decide)) ⟨Nat.zero_le _, Nat.zero_le _⟩ rfl hl.1 (Nat.le_of_ble_eq_true rfl) (dq tk_S_charAt 1 rfl) rfl (fun H locs hw _ => ?_)
  refine lv_if_eq (tgt := 16) hx hb (dq tk_S_charAt 2 rfl) (by decide) (fun q => absurd q (by decide)) (fun _ => ?_)
  refine lv_aload_n hx hb (dq tk_S_charAt 3 rfl) rfl (lv_at hl 0 rfl) ?_
  refine x_sval hk hc hw sl_value (dq tk_S_charAt 4 rfl) ?_
  refine lv_iload_n hx hb (dq tk_S_charAt 5 rfl) rfl (lv_at hl 1 rfl) ?_
  refine x_is hc hw (c_L1_charAt hk hi) ys_L1_charAt sm_l1 (RO.call RO.self (by decide)) ⟨Nat.zero_le _, Nat.zero_le _⟩ rfl hl.1 (Nat.le_of_ble_eq_true rfl) (dq tk_S_charAt 6 rfl) rfl (fun H locs hw _ => ?_)
  exact W.zret (ty := .char) hc.hx hc.hb hr (congrArg Value.int e4.2) (hw.q trivial _ _) hw.2.2.2 (dq tk_S_charAt 7 rfl) hc.2.2.1
theorem SL_length {k idx : Nat} (hk : k < 34) (hc : Cxz p s m meth c args cc own nL Z) (hw : Wd Z τ s H locs) (hl : Cond.methodLink own idx y_S_length ∈ TB) (hR : RO R 8) (hls : ls.size = nL) (hst : (rest.map fun v => v.category).sum ≤ 8) (hdg : decode cc pc = .ok (.invokevirtual idx, 3))
    (kk : ∀ (H1 : Heap) (locs1 : List Loc), Wd Z τ s H1 locs1 → W p l e R s m args below meth c H1 locs1 0 0 Q (F0 m (pc + 3) ls (.int (slen k) :: rest))) : W p l e R s m args below meth c H locs 0 0 Q (F0 m pc ls (.ref (Z.2.2.2 k) :: rest)) :=
  x_svi hk hc hw (c_S_length hk) yv_S_length rfl hl (RO.call (hR.mono (by decide)) (by decide)) ⟨Nat.zero_le _, Nat.zero_le _⟩ rfl hls hst hdg rfl (fun H1 locs1 hw1 _ => kk H1 locs1 hw1)
theorem SL_charAt {k idx : Nat} {i : Int32} (hk : k < 34) (hc : Cxz p s m meth c args cc own nL Z) (hw : Wd Z τ s H locs) (hl : Cond.methodLink own idx y_S_charAt ∈ TB) (hR : RO R 8) (hls : ls.size = nL) (hst : (rest.map fun v => v.category).sum ≤ 8) (hi : inb i (slenN k)) (hdg : decode cc pc = .ok (.invokevirtual idx, 3))
    (kk : ∀ (H1 : Heap) (locs1 : List Loc), Wd Z τ s H1 locs1 → W p l e R s m args below meth c H1 locs1 0 0 Q (F0 m (pc + 3) ls (.int (schr k i.toNatClampNeg) :: rest))) : W p l e R s m args below meth c H locs 0 0 Q (F0 m pc ls (.int i :: .ref (Z.2.2.2 k) :: rest)) :=
  x_svi hk hc hw (c_S_charAt hk hi) yv_S_charAt rfl hl (RO.call (hR.mono (by decide)) (by decide)) ⟨Nat.zero_le _, Nat.zero_le _⟩ rfl hls hst hdg rfl (fun H1 locs1 hw1 _ => kk H1 locs1 hw1)
/-- arraycopy between two rows of the world -/
theorem CP_Courts {sp dp n : Int32} {σ1 : St} (hc : Cxz p s m meth c args cc "LabourExchange$Courts" nL Z) (hw : Wd Z (cmb σ μ) s H locs) (hcp : cpok sp dp n 90 3) (hs : sA σ 30 0 0 (va_cpy (σ.1 33 0 0) (σ.1 30 0 0) sp.toNatClampNeg dp.toNatClampNeg n.toNatClampNeg) = σ1) (hR : RO R 4) (hls : ls.size = nL) (hdg : decode cc pc = .ok (.invokestatic 54, 3))
    (kk : ∀ (H1 : Heap) (locs1 : List Loc), Wd Z (cmb σ1 μ) s H1 locs1 → W p l e R s m args below meth c H1 locs1 cells slots Q (F0 m (pc + 3) ls [])) : W p l e R s m args below meth c H locs cells slots Q (F0 m pc ls [.int n, .int dp, .ref (Z.1 + 83), .int sp, .ref (Z.1 + 86)]) := by
  obtain ⟨g1, g2, g3, g4, g5⟩ := hcp
  have he0 : (wws Z (cmb σ μ))[86]? = some (Z.1 + 86, .inl (Z.2.2.1 0, 90, .inl (fun i => (cmb σ μ).1 33 0 0 i))) := by rw [wws_get Z _ (Nat.le_of_ble_eq_true rfl)]; rfl
  have he1 : (wws Z (cmb σ μ))[83]? = some (Z.1 + 83, .inl (Z.2.2.1 0, 3, .inl (fun i => (cmb σ μ).1 30 0 0 i))) := by rw [wws_get Z _ (Nat.le_of_ble_eq_true rfl)]; rfl
  refine va_copyi hc.hx hc.hb (hc.1.2.2.1.trans hls.symm) hc.ho (hc.ht _ ac_Courts) (hc.ht _ ac_nat) (hc.ht _ ac_st) (hc.ht _ ac_in) hc.hk hw.1 hw.D hw.2 86 83 0 0 he0 he1 rfl rfl rfl (Int32.not_lt.mpr g1) (Int32.not_lt.mpr g2) (Int32.not_lt.mpr g3) g4 g5 (fun i _ => rfl) (Nat.le_trans (by decide) hR.1) (Nat.le_trans (Nat.le_of_ble_eq_true rfl) hR.2) hdg (fun H1 locs1 h1 _ h3 => kk H1 locs1 ⟨?_, h3⟩)
  rw [← hs, cmb_A (by decide), ← x_aset (id := 83) (t := 0) (n := 3) (f := 30) (a := 0) (b := 0) (Nat.le_of_ble_eq_true rfl) rfl (by decide) (τ := cmb σ μ) onlyAt_A]
  have e : we Z (sA (cmb σ μ) 30 0 0 (va_cpy (σ.1 33 0 0) (σ.1 30 0 0) sp.toNatClampNeg dp.toNatClampNeg n.toNatClampNeg)) (.inr (0, 3, 30, 0, 0)) = .inl (Z.2.2.1 0, 3, .inl (va_cpy (fun i => (cmb σ μ).1 33 0 0 i) (fun i => (cmb σ μ).1 30 0 0 i) sp.toNatClampNeg dp.toNatClampNeg n.toNatClampNeg)) := rfl
  rw [e]
  exact h1
theorem hp_ne {H : Heap} {a q : Nat} {x : Cell} (h : q ≠ a) : (H.setIfInBounds a x)[q]? = H[q]? := by simp [Array.getElem?_setIfInBounds, Ne.symm h]
theorem hp_eq {H : Heap} {a : Nat} {x : Cell} (h : a < H.size) : (H.setIfInBounds a x)[a]? = some x := by simp [Array.getElem?_setIfInBounds, h]
theorem nn_of {z : Int32} (h : 0 ≤ z) : z.toInt = (z.toNatClampNeg : Int) := by
  have h0 : (0 : Int) ≤ z.toInt := by simpa using Int32.le_iff_toInt_le.mp h
  show z.toInt = ((z.toInt.toNat : Nat) : Int)
  omega
/-- .. of the row below the world into one of it -/
theorem CP_Law {kv ks : Nat} {sp dp n : Int32} {σ1 : St} (h0 : kv < 2) (h1 : ks < 35) (hc : Cxz p s m meth c args cc "LabourExchange$Law" nL Z) (hw : Wd Z (cmb σ μ) s H locs) (hcp : cpok sp dp n 8 8) (hs : sA σ 64 kv ks (va_cpy dflts (σ.1 64 kv ks) sp.toNatClampNeg dp.toNatClampNeg n.toNatClampNeg) = σ1) (hR : RO R 4) (hls : ls.size = nL) (hdg : decode cc pc = .ok (.invokestatic 87, 3))
    (kk : ∀ (H1 : Heap) (locs1 : List Loc), Wd Z (cmb σ1 μ) s H1 locs1 → W p l e R s m args below meth c H1 locs1 cells slots Q (F0 m (pc + 3) ls [])) : W p l e R s m args below meth c H locs cells slots Q (F0 m pc ls [.int n, .int dp, .ref (Z.1 + (200 + 187 * kv + 1 * ks)), .int sp, .ref (Z.2.2.2 50)]) := by
  obtain ⟨g1, g2, g3, g4, g5⟩ := hcp
  obtain ⟨hid, hd⟩ := wd_par h0 h1
  have he1 : (wws Z (cmb σ μ))[200 + 187 * kv + 1 * ks]? = some (Z.1 + (200 + 187 * kv + 1 * ks), .inl (Z.2.2.1 0, 8, .inl (fun i => (cmb σ μ).1 64 kv ks i))) := by rw [wws_get Z _ hid, hd]; rfl
  have hS := hw.2
  have hD := hw.D
  obtain ⟨src, a1, a2, a3, a4, -, a5, a6⟩ := hc.2.2.2.a4
  have hsrc : H[Z.2.2.2 50]? = some src := by rw [hS.2.1 _ (Array.getElem?_eq_some_iff.mp a1).1 a6]; exact a1
  have hdst : H[Z.1 + (200 + 187 * kv + 1 * ks)]? = some (vp_cell (Z.2.2.1 0) (8, .inl (fun i => (cmb σ μ).1 64 kv ks i))) := hw.1 _ _ he1
  obtain ⟨b1, k0, b2, cm0, b3⟩ := a2
  obtain ⟨-, k1, b4, cm1, b5⟩ := (hc.hk.2 0 _ rfl).1 8 (fun j => .int ((cmb σ μ).1 64 kv ks j))
  intro T hT X
  obtain ⟨vm', X', step⟩ := X.arraycopy hc.hx hc.ho (hc.ht _ ac_Law) (hc.ht _ ac_nat) (hc.ht _ ac_st) (hc.ht _ ac_in) (src := Z.2.2.2 50) (dst := Z.1 + (200 + 187 * kv + 1 * ks)) (cs := src) (cd := vp_cell (Z.2.2.1 0) (8, .inl (fun i => (cmb σ μ).1 64 kv ks i))) (srcPos := sp) (destPos := dp) (n := n) (by rw [hT]; exact hsrc) (by rw [hT]; exact hdst)
    b1 (fun _ h => by cases h) a3 (fun h => by cases h) b2 b4 b3 b5 (by simp [refKind]) (Int32.not_lt.mpr g1) (Int32.not_lt.mpr g2) (Int32.not_lt.mpr g3)
    (by rw [nn_of g1, nn_of g3]; omega)
    (by rw [nn_of g2, nn_of g3]; show ¬ _ > ((arrV (Z.2.2.1 0) 8 (fun j => .int ((cmb σ μ).1 64 kv ks j))).slots.size : Int); rw [arrV_size]; omega)
    (fun vm₁ _ i hi => by
      have e : src.slots.getD (sp.toNatClampNeg + i) .null = .int (dflts (sp.toNatClampNeg + i)) := by
        rw [Array.getD_eq_getD_getElem?, a5 _ (by omega)]
        rfl
      rw [e]
      exact ⟨rfl, trivial⟩)
    (g := F0 m pc ls [.int n, .int dp, .ref (Z.1 + (200 + 187 * kv + 1 * ks)), .int sp, .ref (Z.2.2.2 50)]) rfl (hls.trans hc.1.2.2.1.symm) (rest := []) rfl (by rw [hc.hb]; exact hdg) (Nat.le_trans (by decide) hR.1) (Nat.le_trans (Nat.le_of_ble_eq_true rfl) hR.2)
  have e1 : copied src (vp_cell (Z.2.2.1 0) (8, .inl (fun i => (cmb σ μ).1 64 kv ks i))) sp dp n = vp_cell (Z.2.2.1 0) (8, .inl (va_cpy dflts (fun i => (cmb σ μ).1 64 kv ks i) sp.toNatClampNeg dp.toNatClampNeg n.toNatClampNeg)) := va_copiedX (fun z => .int z) src (Z.2.2.1 0) dflts (fun i => (cmb σ μ).1 64 kv ks i) a5 g4
  rw [e1] at X' step
  have hlt : Z.1 + (200 + 187 * kv + 1 * ks) < H.size := (Array.getElem?_eq_some_iff.mp hdst).1
  have hheap : ((T.setVm vm').setCell (Z.1 + (200 + 187 * kv + 1 * ks)) (vp_cell (Z.2.2.1 0) (8, .inl (va_cpy dflts (fun i => (cmb σ μ).1 64 kv ks i) sp.toNatClampNeg dp.toNatClampNeg n.toNatClampNeg)))).heap = H.setIfInBounds (Z.1 + (200 + 187 * kv + 1 * ks)) (vp_cell (Z.2.2.1 0) (8, .inl (va_cpy dflts (fun i => (cmb σ μ).1 64 kv ks i) sp.toNatClampNeg dp.toNatClampNeg n.toNatClampNeg))) := by rw [← hT]; rfl
  generalize hnew : vp_cell (Z.2.2.1 0) (8, .inl (va_cpy dflts (fun i => (cmb σ μ).1 64 kv ks i) sp.toNatClampNeg dp.toNatClampNeg n.toNatClampNeg)) = new at X' step hheap
  have oq : ∀ q : Nat, q ≠ Z.1 + (200 + 187 * kv + 1 * ks) → (H.setIfInBounds (Z.1 + (200 + 187 * kv + 1 * ks)) new)[q]? = H[q]? := fun q hq => hp_ne hq
  have hset := hw.1.set hD he1 (e := .inl (Z.2.2.1 0, 8, .inl (va_cpy dflts (fun i => (cmb σ μ).1 64 kv ks i) sp.toNatClampNeg dp.toNatClampNeg n.toNatClampNeg))) (H1 := H.setIfInBounds (Z.1 + (200 + 187 * kv + 1 * ks)) new) (show (H.setIfInBounds _ new)[_]? = some _ by rw [hnew]; exact hp_eq hlt) oq
  have hA : Z.1 ≤ Z.1 + (200 + 187 * kv + 1 * ks) := Nat.le_add_right _ _
  obtain ⟨t, c1, c2⟩ := kk _ _ ⟨by
      rw [← hs, cmb_A (by decide), ← x_aset (id := 200 + 187 * kv + 1 * ks) (t := 0) (n := 8) (f := 64) (a := kv) (b := ks) hid hd (by decide) (τ := cmb σ μ) onlyAt_A]
      have e : we Z (sA (cmb σ μ) 64 kv ks (va_cpy dflts (σ.1 64 kv ks) sp.toNatClampNeg dp.toNatClampNeg n.toNatClampNeg)) (.inr (0, 8, 64, kv, ks)) = .inl (Z.2.2.1 0, 8, .inl (va_cpy dflts (fun i => (cmb σ μ).1 64 kv ks i) sp.toNatClampNeg dp.toNatClampNeg n.toNatClampNeg)) := by
        have e0 : (fun i => (sA (cmb σ μ) 64 kv ks (va_cpy dflts (σ.1 64 kv ks) sp.toNatClampNeg dp.toNatClampNeg n.toNatClampNeg)).1 64 kv ks i) = va_cpy dflts (fun i => (cmb σ μ).1 64 kv ks i) sp.toNatClampNeg dp.toNatClampNeg n.toNatClampNeg := funext fun i => if_pos ⟨rfl, rfl, rfl⟩
        exact congrArg (fun g => (.inl (Z.2.2.1 0, 8, .inl g) : va_E)) e0
      rw [e]
      exact hset, by simp; exact hS.1, fun q q1 q2 => by
      rw [oq q (fun e => q2 (by rw [e]; exact hA))]
      exact hS.2.1 q q1 q2, fun q hq => by
      rcases List.mem_append.mp hq with h | h
      · exact hS.2.2 q h
      · obtain ⟨z, -, hz⟩ := List.mem_map.mp h
        rw [← hz]
        exact hA⟩ _ hheap X'
  exact ⟨t, step t c1, c2⟩
theorem LS_Reader_163 (hc : Cxz p s m meth c args cc "LabourExchange$Reader" nL Z) (_ : Wd Z τ s H locs) (hdg : decode cc pc = .ok (.ldc 163, 2)) (kk : W p l e R s m args below meth c H locs cells slots Q (F0 m (pc + 2) ls (.ref (Z.2.2.2 20) :: rest))) : W p l e R s m args below meth c H locs cells slots Q (F0 m pc ls rest) := x_ldcS hc (tx := "insure set pay needy bar suit like unless or and not ") (by decide +kernel) hdg kk
theorem LS_Reader_169 (hc : Cxz p s m meth c args cc "LabourExchange$Reader" nL Z) (_ : Wd Z τ s H locs) (hdg : decode cc pc = .ok (.ldc 169, 2)) (kk : W p l e R s m args below meth c H locs cells slots Q (F0 m (pc + 2) ls (.ref (Z.2.2.2 21) :: rest))) : W p l e R s m args below meth c H locs cells slots Q (F0 m pc ls rest) := x_ldcS hc (tx := "age trade usual out paid stamps unknown means reason miles wage same ") (by decide +kernel) hdg kk
theorem LS_Reader_171 (hc : Cxz p s m meth c args cc "LabourExchange$Reader" nL Z) (_ : Wd Z τ s H locs) (hdg : decode cc pc = .ok (.ldc 171, 2)) (kk : W p l e R s m args below meth c H locs cells slots Q (F0 m (pc + 2) ls (.ref (Z.2.2.2 22) :: rest))) : W p l e R s m args below meth c H locs cells slots Q (F0 m pc ls rest) := x_ldcS hc (tx := "wait gap rate days per extra stamp court ") (by decide +kernel) hdg kk
theorem LS_Mw_532 (hc : Cxz p s m meth c args cc "LabourExchangeModel" nL Z) (_ : Wd Z τ s H locs) (hdg : decode cc pc = .ok (.ldc_w 532, 3)) (kk : W p l e R s m args below meth c H locs cells slots Q (F0 m (pc + 3) ls (.ref (Z.2.2.2 30) :: rest))) : W p l e R s m args below meth c H locs cells slots Q (F0 m pc ls rest) := x_ldcwS hc (tx := "not") (by decide +kernel) hdg kk
theorem LS_Mw_540 (hc : Cxz p s m meth c args cc "LabourExchangeModel" nL Z) (_ : Wd Z τ s H locs) (hdg : decode cc pc = .ok (.ldc_w 540, 3)) (kk : W p l e R s m args below meth c H locs cells slots Q (F0 m (pc + 3) ls (.ref (Z.2.2.2 31) :: rest))) : W p l e R s m args below meth c H locs cells slots Q (F0 m pc ls rest) := x_ldcwS hc (tx := "and") (by decide +kernel) hdg kk
theorem LS_Mw_545 (hc : Cxz p s m meth c args cc "LabourExchangeModel" nL Z) (_ : Wd Z τ s H locs) (hdg : decode cc pc = .ok (.ldc_w 545, 3)) (kk : W p l e R s m args below meth c H locs cells slots Q (F0 m (pc + 3) ls (.ref (Z.2.2.2 32) :: rest))) : W p l e R s m args below meth c H locs cells slots Q (F0 m pc ls rest) := x_ldcwS hc (tx := "or") (by decide +kernel) hdg kk
theorem LS_Mw_547 (hc : Cxz p s m meth c args cc "LabourExchangeModel" nL Z) (_ : Wd Z τ s H locs) (hdg : decode cc pc = .ok (.ldc_w 547, 3)) (kk : W p l e R s m args below meth c H locs cells slots Q (F0 m (pc + 3) ls (.ref (Z.2.2.2 23) :: rest))) : W p l e R s m args below meth c H locs cells slots Q (F0 m pc ls rest) := x_ldcwS hc (tx := "insure") (by decide +kernel) hdg kk
theorem LS_Mw_549 (hc : Cxz p s m meth c args cc "LabourExchangeModel" nL Z) (_ : Wd Z τ s H locs) (hdg : decode cc pc = .ok (.ldc_w 549, 3)) (kk : W p l e R s m args below meth c H locs cells slots Q (F0 m (pc + 3) ls (.ref (Z.2.2.2 24) :: rest))) : W p l e R s m args below meth c H locs cells slots Q (F0 m pc ls rest) := x_ldcwS hc (tx := "set") (by decide +kernel) hdg kk
theorem LS_Mw_551 (hc : Cxz p s m meth c args cc "LabourExchangeModel" nL Z) (_ : Wd Z τ s H locs) (hdg : decode cc pc = .ok (.ldc_w 551, 3)) (kk : W p l e R s m args below meth c H locs cells slots Q (F0 m (pc + 3) ls (.ref (Z.2.2.2 25) :: rest))) : W p l e R s m args below meth c H locs cells slots Q (F0 m pc ls rest) := x_ldcwS hc (tx := "pay") (by decide +kernel) hdg kk
theorem LS_Mw_553 (hc : Cxz p s m meth c args cc "LabourExchangeModel" nL Z) (_ : Wd Z τ s H locs) (hdg : decode cc pc = .ok (.ldc_w 553, 3)) (kk : W p l e R s m args below meth c H locs cells slots Q (F0 m (pc + 3) ls (.ref (Z.2.2.2 26) :: rest))) : W p l e R s m args below meth c H locs cells slots Q (F0 m pc ls rest) := x_ldcwS hc (tx := "needy") (by decide +kernel) hdg kk
theorem LS_Mw_555 (hc : Cxz p s m meth c args cc "LabourExchangeModel" nL Z) (_ : Wd Z τ s H locs) (hdg : decode cc pc = .ok (.ldc_w 555, 3)) (kk : W p l e R s m args below meth c H locs cells slots Q (F0 m (pc + 3) ls (.ref (Z.2.2.2 27) :: rest))) : W p l e R s m args below meth c H locs cells slots Q (F0 m pc ls rest) := x_ldcwS hc (tx := "bar") (by decide +kernel) hdg kk
theorem LS_Mw_557 (hc : Cxz p s m meth c args cc "LabourExchangeModel" nL Z) (_ : Wd Z τ s H locs) (hdg : decode cc pc = .ok (.ldc_w 557, 3)) (kk : W p l e R s m args below meth c H locs cells slots Q (F0 m (pc + 3) ls (.ref (Z.2.2.2 28) :: rest))) : W p l e R s m args below meth c H locs cells slots Q (F0 m pc ls rest) := x_ldcwS hc (tx := "suit") (by decide +kernel) hdg kk
theorem LS_Mw_559 (hc : Cxz p s m meth c args cc "LabourExchangeModel" nL Z) (_ : Wd Z τ s H locs) (hdg : decode cc pc = .ok (.ldc_w 559, 3)) (kk : W p l e R s m args below meth c H locs cells slots Q (F0 m (pc + 3) ls (.ref (Z.2.2.2 29) :: rest))) : W p l e R s m args below meth c H locs cells slots Q (F0 m pc ls rest) := x_ldcwS hc (tx := "like") (by decide +kernel) hdg kk
theorem LS_Mw_567 (hc : Cxz p s m meth c args cc "LabourExchangeModel" nL Z) (_ : Wd Z τ s H locs) (hdg : decode cc pc = .ok (.ldc_w 567, 3)) (kk : W p l e R s m args below meth c H locs cells slots Q (F0 m (pc + 3) ls (.ref (Z.2.2.2 33) :: rest))) : W p l e R s m args below meth c H locs cells slots Q (F0 m pc ls rest) := x_ldcwS hc (tx := "unless") (by decide +kernel) hdg kk
end SROWS
