section CTW
variable {p : Program} {l : Launch} {e : Env} {R : Room} {s : State} {m : MethodId} {args : Array Value} {below : List Frame} {meth : Method} {c : Code} {H : Heap} {locs : List Loc} {cells slots : Nat} {Q : State → Prop}
variable {Z : ZT}
set_option maxHeartbeats 8000000 in
set_option maxRecDepth 20000 in
theorem w0_X_loop (hc : Cxz p s m meth c args prog_1_method_1_code "LabourExchange" 2 Z) (hN : NX s) (hnm : meth.name = "<init>") (hr : meth.sig.returnType = none) : ∀ (d i : Nat), i + d = 17 → ∀ {H : Heap} {locs : List Loc} {ls : Array Slot}, Kw Z τ0 0 [(0, .inr (11, [.ref (Z.1 + 0 + 1), .ref (Z.1 + 0 + 3), .ref (Z.1 + 0 + 15), .ref (Z.1 + 0 + 25), .ref (Z.1 + 0 + 32), .ref (Z.1 + 0 + 33), .ref (Z.1 + 0 + 46), .ref (Z.1 + 0 + 80), .null, .null, .ref (Z.1 + 0 + 89), .int 0, .int 0, .int 312, .int (-1)])), (32, .inl (Z.2.2.1 4, 17, .inr (.inr (.inr (.inr (fun q => if q < i then some (Z.1 + (90 + 6 * q)) else none))))))] (90 + 6 * i) s H locs → lv_has ls 2 [(1, .int (nI i)), (0, .ref (Z.1 + 0))] → W p l e ({ frames := 3, cells := 565, slots := 80801, locals := 180 } : Room) s m args below meth c H locs (89 + 6 * i) (7278 + 695 * i) (MQ below (Qk Z τ0 0 566) args s 565 80801 (fun q => Z.1 + 0 ≤ q)) (F0 m 116 ls []) := by
  have hx := hc.hx
  have hb := hc.hb
  have hlen : ([.ref (Z.1 + 0 + 1), .ref (Z.1 + 0 + 3), .ref (Z.1 + 0 + 15), .ref (Z.1 + 0 + 25), .ref (Z.1 + 0 + 32), .ref (Z.1 + 0 + 33), .ref (Z.1 + 0 + 46), .ref (Z.1 + 0 + 80), .null, .null, .ref (Z.1 + 0 + 89), .int 0, .int 0, .int 312, .int (-1)] : List Value).length = 15 := rfl
  intro d
  induction d with
  | zero =>
    intro i hi H locs ls hw hl
    obtain rfl : i = 17 := by omega
    refine lv_iload_n hx hb (dq tk_X_init_0 55 rfl) rfl (lv_at hl 0 rfl) ?_
    refine lv_aload_n hx hb (dq tk_X_init_0 56 rfl) rfl (lv_at hl 1 rfl) ?_
    refine k_get hc hw (k := 4) (v := .ref (Z.1 + 0 + 32)) List.mem_cons_self rfl inX11 (by decide) rfl kw_655 (dq tk_X_init_0 57 rfl) ?_
    refine k_alen hc hw (j := 32) (t := 4) (List.mem_cons_of_mem _ List.mem_cons_self) rfl (v := 17) rfl (dq tk_X_init_0 58 rfl) ?_
    refine lv_icmp_ge (tgt := 144) hx hb (dq tk_X_init_0 59 rfl) (by decide) (fun c1 => ?_) (fun c1 => ?_)
    · skip
      replace hw := hw.perm (List.Perm.swap _ _ _)
      replace hw := hw.as (g := fun i => some (Z.1 + (90 + 6 * i))) (fun q hq => if_pos hq)
      replace hw := hw.drop (rfl)
      refine lv_aload_n hx hb (dq tk_X_init_1 9 rfl) rfl (lv_at hl 1 rfl) ?_
      refine k_new hc hw (ci := 10) (fs := [.null, .null, .null, .null, .int 0, .null, .null, .null, .null, .int 0]) rfl inX10 tyX10_ok (by intro j hj; revert j; exact dfX10) kw_480 kw_481 kw_11 (Nat.le_of_ble_eq_true rfl) (Nat.le_of_ble_eq_true rfl) (dq tk_X_init_1 10 rfl) (fun H hw => ?_)
      refine lv_dup hx hb (dq tk_X_init_1 11 rfl) rfl ?_
      refine lv_aload_n hx hb (dq tk_X_init_1 12 rfl) rfl (lv_at hl 1 rfl) ?_
      refine k_get hc hw (k := 1) (v := .ref (Z.1 + 0 + 3)) (List.mem_cons_of_mem _ List.mem_cons_self) rfl inX11 (by decide) rfl kw_652 (dq tk_X_init_1 13 rfl) ?_
      refine lv_aload_n hx hb (dq tk_X_init_1 14 rfl) rfl (lv_at hl 1 rfl) ?_
      refine k_get hc hw (k := 2) (v := .ref (Z.1 + 0 + 15)) (List.mem_cons_of_mem _ List.mem_cons_self) rfl inX11 (by decide) rfl kw_653 (dq tk_X_init_1 15 rfl) ?_
      refine lv_aload_n hx hb (dq tk_X_init_1 16 rfl) rfl (lv_at hl 1 rfl) ?_
      refine k_get hc hw (k := 3) (v := .ref (Z.1 + 0 + 25)) (List.mem_cons_of_mem _ List.mem_cons_self) rfl inX11 (by decide) rfl kw_654 (dq tk_X_init_1 17 rfl) ?_
      refine lv_aload_n hx hb (dq tk_X_init_1 18 rfl) rfl (lv_at hl 1 rfl) ?_
      refine k_get hc hw (k := 5) (v := .ref (Z.1 + 0 + 33)) (List.mem_cons_of_mem _ List.mem_cons_self) rfl inX11 (by decide) rfl kw_656 (dq tk_X_init_1 19 rfl) ?_
      refine lv_aload_n hx hb (dq tk_X_init_1 20 rfl) rfl (lv_at hl 1 rfl) ?_
      refine k_get hc hw (k := 4) (v := .ref (Z.1 + 0 + 32)) (List.mem_cons_of_mem _ List.mem_cons_self) rfl inX11 (by decide) rfl kw_655 (dq tk_X_init_1 21 rfl) ?_
      refine lv_iconst (v := 1) hx hb (dq tk_X_init_1 22 rfl) (by decide) ?_
      refine k_call hc hN hw (by rfl) c0_View_0 yk_View_init kw_482 ⟨Nat.le_of_ble_eq_true rfl, Nat.le_of_ble_eq_true rfl⟩ ⟨Nat.le_of_ble_eq_true rfl, Nat.le_of_ble_eq_true rfl⟩ rfl hl.1 (Nat.le_of_ble_eq_true rfl) (dq tk_X_init_1 23 rfl) rfl (fun H locs hw => ?_)
      refine k_put hc hnm hw (k := 8) (ty := (.object "LabourExchange$View")) rfl inX11 tyX11_ok nmX11 (by decide) rfl hlen kw_659 rfl rfl rfl (dq tk_X_init_1 24 rfl) (fun H locs hw hlen => ?_)
      refine lv_aload_n hx hb (dq tk_X_init_1 25 rfl) rfl (lv_at hl 1 rfl) ?_
      refine k_new hc hw (ci := 10) (fs := [.null, .null, .null, .null, .int 0, .null, .null, .null, .null, .int 0]) rfl inX10 tyX10_ok (by intro j hj; revert j; exact dfX10) kw_480 kw_481 kw_11 (Nat.le_of_ble_eq_true rfl) (Nat.le_of_ble_eq_true rfl) (dq tk_X_init_1 26 rfl) (fun H hw => ?_)
      refine lv_dup hx hb (dq tk_X_init_1 27 rfl) rfl ?_
      refine lv_aload_n hx hb (dq tk_X_init_1 28 rfl) rfl (lv_at hl 1 rfl) ?_
      refine k_get hc hw (k := 1) (v := .ref (Z.1 + 0 + 3)) (List.mem_cons_of_mem _ List.mem_cons_self) rfl inX11 (by decide) rfl kw_652 (dq tk_X_init_1 29 rfl) ?_
      refine lv_aload_n hx hb (dq tk_X_init_1 30 rfl) rfl (lv_at hl 1 rfl) ?_
      refine k_get hc hw (k := 2) (v := .ref (Z.1 + 0 + 15)) (List.mem_cons_of_mem _ List.mem_cons_self) rfl inX11 (by decide) rfl kw_653 (dq tk_X_init_1 31 rfl) ?_
      refine lv_aload_n hx hb (dq tk_X_init_1 32 rfl) rfl (lv_at hl 1 rfl) ?_
      refine k_get hc hw (k := 3) (v := .ref (Z.1 + 0 + 25)) (List.mem_cons_of_mem _ List.mem_cons_self) rfl inX11 (by decide) rfl kw_654 (dq tk_X_init_1 33 rfl) ?_
      refine lv_aload_n hx hb (dq tk_X_init_1 34 rfl) rfl (lv_at hl 1 rfl) ?_
      refine k_get hc hw (k := 5) (v := .ref (Z.1 + 0 + 33)) (List.mem_cons_of_mem _ List.mem_cons_self) rfl inX11 (by decide) rfl kw_656 (dq tk_X_init_1 35 rfl) ?_
      refine lv_aload_n hx hb (dq tk_X_init_1 36 rfl) rfl (lv_at hl 1 rfl) ?_
      refine k_get hc hw (k := 4) (v := .ref (Z.1 + 0 + 32)) (List.mem_cons_of_mem _ List.mem_cons_self) rfl inX11 (by decide) rfl kw_655 (dq tk_X_init_1 37 rfl) ?_
      refine lv_iconst (v := 0) hx hb (dq tk_X_init_1 38 rfl) (by decide) ?_
      refine k_call hc hN hw (by rfl) c0_View_1 yk_View_init kw_482 ⟨Nat.le_of_ble_eq_true rfl, Nat.le_of_ble_eq_true rfl⟩ ⟨Nat.le_of_ble_eq_true rfl, Nat.le_of_ble_eq_true rfl⟩ rfl hl.1 (Nat.le_of_ble_eq_true rfl) (dq tk_X_init_1 39 rfl) rfl (fun H locs hw => ?_)
      refine k_put hc hnm hw (k := 9) (ty := (.object "LabourExchange$View")) rfl inX11 tyX11_ok nmX11 (by decide) rfl hlen kw_660 rfl rfl rfl (dq tk_X_init_1 40 rfl) (fun H locs hw hlen => ?_)
      replace hw := hw.drop (rfl)
      exact k_end hc hw hr (dq tk_X_init_1 41 rfl)
    · exact absurd (nI_le (Nat.le_refl 17) (by decide)) c1
  | succ d ih =>
    intro i hi H locs ls hw hl
    have hi2 : i < 17 := by omega
    refine lv_iload_n hx hb (dq tk_X_init_0 55 rfl) rfl (lv_at hl 0 rfl) ?_
    refine lv_aload_n hx hb (dq tk_X_init_0 56 rfl) rfl (lv_at hl 1 rfl) ?_
    refine k_get hc hw (k := 4) (v := .ref (Z.1 + 0 + 32)) List.mem_cons_self rfl inX11 (by decide) rfl kw_655 (dq tk_X_init_0 57 rfl) ?_
    refine k_alen hc hw (j := 32) (t := 4) (List.mem_cons_of_mem _ List.mem_cons_self) rfl (v := 17) rfl (dq tk_X_init_0 58 rfl) ?_
    refine lv_icmp_ge (tgt := 144) hx hb (dq tk_X_init_0 59 rfl) (by decide) (fun c1 => ?_) (fun c1 => ?_)
    · exact absurd c1 (nI_ge (show i < 17 by omega) (by decide))
    · skip
      refine lv_aload_n hx hb (dq tk_X_init_1 0 rfl) rfl (lv_at hl 1 rfl) ?_
      refine k_get hc hw (k := 4) (v := .ref (Z.1 + 0 + 32)) List.mem_cons_self rfl inX11 (by decide) rfl kw_655 (dq tk_X_init_1 1 rfl) ?_
      refine lv_iload_n hx hb (dq tk_X_init_1 2 rfl) rfl (lv_at hl 0 rfl) ?_
      refine k_new hc hw (ci := 0) (fs := [.null, .int 0, .null, .int 0, .int 0, .int 0, .int 0, .null, .int 0, .null, .null, .int 0, .int 0, .int 0, .int 0]) rfl inX0 tyX0_ok (by intro j hj; revert j; exact dfX0) kw_237 kw_410 kw_10 (by show 89 + 6 * i + 1 ≤ 565; omega) (by show 7278 + 695 * i + 15 ≤ 80801; omega) (dq tk_X_init_1 3 rfl) (fun H hw => ?_)
      refine lv_dup hx hb (dq tk_X_init_1 4 rfl) rfl ?_
      refine k_callN hc hN hw rfl (c0_Act (o := 0 + (90 + 6 * i)) (i := i) hi2 (by omega)) yk_Act_init hN.2.2.2.2.2.2.2.2 ⟨Nat.le_of_ble_eq_true rfl, Nat.le_of_ble_eq_true rfl⟩ ⟨by show 89 + 6 * i + 1 + 5 ≤ 565; omega, by show 7278 + 695 * i + 15 + 680 ≤ 80801; omega⟩ rfl hl.1 (Nat.le_of_ble_eq_true rfl) (dq tk_X_init_1 5 rfl) rfl (fun H locs hw => ?_)
      have hq := hw.any hc (j := 90 + 6 * i) (C := "LabourExchange$Act") (by omega) (ne2 (by omega) (by omega)) ((wd_act (id := 0 + (90 + 6 * i)) (i := i) (r := 0) hi2 (by decide) (by omega)).2.trans rfl) rfl
      replace hw := hw.perm (List.Perm.swap _ _ _)
      refine k_aast hc hw (t := 4) rfl hq (nI_in hi2 (by decide)) (dq tk_X_init_1 6 rfl) (fun H locs hw => ?_)
      replace hw := (hw.as (va_up_step (by omega) (show @Eq Nat (Z.1 + 0 + (90 + 6 * i)) (Z.1 + (90 + 6 * i)) by omega))).perm (List.Perm.swap _ _ _)
      refine lv_iinc (v := nI (i + 1)) (lv' := [(1, .int (nI (i + 1))), (0, .ref (Z.1 + 0))]) hx hb (dq tk_X_init_1 7 rfl) hl (k := 0) rfl (nI_succ i).symm (by decide) rfl (fun ls hl => ?_)
      refine lv_goto (tgt := 116) hx hb (dq tk_X_init_1 8 rfl) (by decide) ?_
      refine W.widen (k := 89 + 6 * (i + 1)) (n := 7278 + 695 * (i + 1)) (by show 89 + 6 * i + 1 + 5 ≤ 89 + 6 * (i + 1); omega) (by show 7278 + 695 * i + 15 + 680 ≤ 7278 + 695 * (i + 1); omega) ?_
      rw [show 90 + 6 * i + 6 = 90 + 6 * (i + 1) by omega] at hw
      exact ih (i + 1) (by omega) hw hl
set_option maxHeartbeats 8000000 in
set_option maxRecDepth 20000 in
theorem c0_X : Ck l Z y_X_init prog_1_method_1_code 2 { frames := 3, cells := 565, slots := 80801, locals := 180 } [] τ0 0 11 [.null, .null, .null, .null, .null, .null, .null, .null, .null, .null, .null, .int 0, .int 0, .int 0, .int 0] 566 := by
  refine k_met (by decide) rfl (Nat.le_of_ble_eq_true rfl) (fun p e s m args below meth c ls hc hN hnm hr hw hl => ?_)
  have hx := hc.hx
  have hb := hc.hb
  have hlen : ([.null, .null, .null, .null, .null, .null, .null, .null, .null, .null, .null, .int 0, .int 0, .int 0, .int 0] : List Value).length = 15 := rfl
  refine lv_aload_n hx hb (dq tk_X_init_0 0 rfl) rfl (lv_at hl 0 rfl) ?_
  refine W.objInit hx hb hc.ho (hc.ht _ kw_31) (hc.ht _ kw_32) (hc.ht _ kw_obj) rfl (by show ls.size = c.maxLocals; rw [hl.1]; exact hc.1.2.2.1.symm) rfl (dq tk_X_init_0 1 rfl) (Nat.le_of_ble_eq_true rfl) (Nat.le_of_ble_eq_true rfl) ?_
  refine W.eq (g2 := F0 m 4 ls []) rfl ?_
  refine lv_aload_n hx hb (dq tk_X_init_0 2 rfl) rfl (lv_at hl 0 rfl) ?_
  refine k_new hc hw (ci := 8) (fs := [.null, .int 0, .int 0, .int 0, .int 0, .int 0, .int 0, .int 0, .int 0, .int 0, .int 0, .null]) rfl inX8 tyX8_ok (by intro j hj; revert j; exact dfX8) kw_34 kw_35 kw_2 (Nat.le_of_ble_eq_true rfl) (Nat.le_of_ble_eq_true rfl) (dq tk_X_init_0 3 rfl) (fun H hw => ?_)
  refine lv_dup hx hb (dq tk_X_init_0 4 rfl) rfl ?_
  refine k_callN hc hN hw (by rfl) c0_Reader yk_Reader_init hN.2.2.2.2.1 ⟨Nat.le_of_ble_eq_true rfl, Nat.le_of_ble_eq_true rfl⟩ ⟨Nat.le_of_ble_eq_true rfl, Nat.le_of_ble_eq_true rfl⟩ rfl hl.1 (Nat.le_of_ble_eq_true rfl) (dq tk_X_init_0 5 rfl) rfl (fun H locs hw => ?_)
  refine k_put hc hnm hw (k := 0) (ty := (.object "LabourExchange$Reader")) rfl inX11 tyX11_ok nmX11 (by decide) rfl hlen kw_651 rfl rfl rfl (dq tk_X_init_0 6 rfl) (fun H locs hw hlen => ?_)
  refine lv_aload_n hx hb (dq tk_X_init_0 7 rfl) rfl (lv_at hl 0 rfl) ?_
  refine k_new hc hw (ci := 4) (fs := [.null, .null, .int 0, .null, .null, .null, .null, .null, .int 0, .null, .null, .null, .int 0, .int 0, .int 0, .null, .int 0]) rfl inX4 tyX4_ok (by intro j hj; revert j; exact dfX4) kw_81 kw_82 kw_3 (Nat.le_of_ble_eq_true rfl) (Nat.le_of_ble_eq_true rfl) (dq tk_X_init_0 8 rfl) (fun H hw => ?_)
  refine lv_dup hx hb (dq tk_X_init_0 9 rfl) rfl ?_
  refine k_callN hc hN hw (by rfl) c0_Land yk_Land_init hN.2.2.2.2.2.1 ⟨Nat.le_of_ble_eq_true rfl, Nat.le_of_ble_eq_true rfl⟩ ⟨Nat.le_of_ble_eq_true rfl, Nat.le_of_ble_eq_true rfl⟩ rfl hl.1 (Nat.le_of_ble_eq_true rfl) (dq tk_X_init_0 10 rfl) rfl (fun H locs hw => ?_)
  refine k_put hc hnm hw (k := 1) (ty := (.object "LabourExchange$Land")) rfl inX11 tyX11_ok nmX11 (by decide) rfl hlen kw_652 rfl rfl rfl (dq tk_X_init_0 11 rfl) (fun H locs hw hlen => ?_)
  refine lv_aload_n hx hb (dq tk_X_init_0 12 rfl) rfl (lv_at hl 0 rfl) ?_
  refine k_new hc hw (ci := 1) (fs := [.null, .null, .null, .null, .null, .int 0, .null, .null, .null, .null, .int 0]) rfl inX1 tyX1_ok (by intro j hj; revert j; exact dfX1) kw_155 kw_156 kw_4 (Nat.le_of_ble_eq_true rfl) (Nat.le_of_ble_eq_true rfl) (dq tk_X_init_0 13 rfl) (fun H hw => ?_)
  refine lv_dup hx hb (dq tk_X_init_0 14 rfl) rfl ?_
  refine k_callN hc hN hw (by rfl) c0_Books yk_Books_init hN.2.2.2.2.2.2.1 ⟨Nat.le_of_ble_eq_true rfl, Nat.le_of_ble_eq_true rfl⟩ ⟨Nat.le_of_ble_eq_true rfl, Nat.le_of_ble_eq_true rfl⟩ rfl hl.1 (Nat.le_of_ble_eq_true rfl) (dq tk_X_init_0 15 rfl) rfl (fun H locs hw => ?_)
  refine k_put hc hnm hw (k := 2) (ty := (.object "LabourExchange$Books")) rfl inX11 tyX11_ok nmX11 (by decide) rfl hlen kw_653 rfl rfl rfl (dq tk_X_init_0 16 rfl) (fun H locs hw hlen => ?_)
  refine lv_aload_n hx hb (dq tk_X_init_0 17 rfl) rfl (lv_at hl 0 rfl) ?_
  refine k_new hc hw (ci := 3) (fs := [.null, .null, .null, .null, .null, .null, .int 0]) rfl inX3 tyX3_ok (by intro j hj; revert j; exact dfX3) kw_197 kw_198 kw_5 (Nat.le_of_ble_eq_true rfl) (Nat.le_of_ble_eq_true rfl) (dq tk_X_init_0 18 rfl) (fun H hw => ?_)
  refine lv_dup hx hb (dq tk_X_init_0 19 rfl) rfl ?_
  refine k_callN hc hN hw (by rfl) c0_Events yk_Events_init hN.2.2.2.2.2.2.2.1 ⟨Nat.le_of_ble_eq_true rfl, Nat.le_of_ble_eq_true rfl⟩ ⟨Nat.le_of_ble_eq_true rfl, Nat.le_of_ble_eq_true rfl⟩ rfl hl.1 (Nat.le_of_ble_eq_true rfl) (dq tk_X_init_0 20 rfl) rfl (fun H locs hw => ?_)
  refine k_put hc hnm hw (k := 3) (ty := (.object "LabourExchange$Events")) rfl inX11 tyX11_ok nmX11 (by decide) rfl hlen kw_654 rfl rfl rfl (dq tk_X_init_0 21 rfl) (fun H locs hw hlen => ?_)
  refine lv_aload_n hx hb (dq tk_X_init_0 22 rfl) rfl (lv_at hl 0 rfl) ?_
  refine lv_bipush (v := 17) hx hb (dq tk_X_init_0 23 rfl) (by decide) ?_
  refine k_anew hc hw (t := 4) (N' := 17) kw_237 hN.1 rfl (by decide) (by decide) (by decide) (Nat.le_of_ble_eq_true rfl) (Nat.le_of_ble_eq_true rfl) (dq tk_X_init_0 24 rfl) (fun H hw => ?_)
  replace hw := hw.perm (List.Perm.swap _ _ _)
  refine k_put hc hnm hw (k := 4) (ty := (.array (.object "LabourExchange$Act"))) rfl inX11 tyX11_ok nmX11 (by decide) rfl hlen kw_655 rfl rfl rfl (dq tk_X_init_0 25 rfl) (fun H locs hw hlen => ?_)
  refine lv_aload_n hx hb (dq tk_X_init_0 26 rfl) rfl (lv_at hl 0 rfl) ?_
  refine k_new hc hw (ci := 7) (fs := [.null, .null, .null, .null, .null, .null, .null, .int 0, .null, .null, .null, .null, .int 0, .null, .null]) rfl inX7 tyX7_ok (by intro j hj; revert j; exact dfX7) kw_239 kw_240 kw_6 (Nat.le_of_ble_eq_true rfl) (Nat.le_of_ble_eq_true rfl) (dq tk_X_init_0 27 rfl) (fun H hw => ?_)
  refine lv_dup hx hb (dq tk_X_init_0 28 rfl) rfl ?_
  refine lv_aload_n hx hb (dq tk_X_init_0 29 rfl) rfl (lv_at hl 0 rfl) ?_
  refine k_get hc hw (k := 1) (v := .ref (Z.1 + 0 + 3)) (List.mem_cons_of_mem _ List.mem_cons_self) rfl inX11 (by decide) rfl kw_652 (dq tk_X_init_0 30 rfl) ?_
  refine k_call hc hN hw (by rfl) c0_Market yk_Market_init kw_241 ⟨Nat.le_of_ble_eq_true rfl, Nat.le_of_ble_eq_true rfl⟩ ⟨Nat.le_of_ble_eq_true rfl, Nat.le_of_ble_eq_true rfl⟩ rfl hl.1 (Nat.le_of_ble_eq_true rfl) (dq tk_X_init_0 31 rfl) rfl (fun H locs hw => ?_)
  refine k_put hc hnm hw (k := 5) (ty := (.object "LabourExchange$Market")) rfl inX11 tyX11_ok nmX11 (by decide) rfl hlen kw_656 rfl rfl rfl (dq tk_X_init_0 32 rfl) (fun H locs hw hlen => ?_)
  refine lv_aload_n hx hb (dq tk_X_init_0 33 rfl) rfl (lv_at hl 0 rfl) ?_
  refine k_new hc hw (ci := 9) (fs := [.null, .null, .null, .null, .int 0, .int 0, .int 0, .null, .null, .null, .null, .null, .null, .null, .null, .null]) rfl inX9 tyX9_ok (by intro j hj; revert j; exact dfX9) kw_303 kw_304 kw_7 (Nat.le_of_ble_eq_true rfl) (Nat.le_of_ble_eq_true rfl) (dq tk_X_init_0 34 rfl) (fun H hw => ?_)
  refine lv_dup hx hb (dq tk_X_init_0 35 rfl) rfl ?_
  refine k_call hc hN hw (by rfl) c0_Sending yk_Sending_init kw_305 ⟨Nat.le_of_ble_eq_true rfl, Nat.le_of_ble_eq_true rfl⟩ ⟨Nat.le_of_ble_eq_true rfl, Nat.le_of_ble_eq_true rfl⟩ rfl hl.1 (Nat.le_of_ble_eq_true rfl) (dq tk_X_init_0 36 rfl) rfl (fun H locs hw => ?_)
  refine k_put hc hnm hw (k := 6) (ty := (.object "LabourExchange$Sending")) rfl inX11 tyX11_ok nmX11 (by decide) rfl hlen kw_657 rfl rfl rfl (dq tk_X_init_0 37 rfl) (fun H locs hw hlen => ?_)
  refine lv_aload_n hx hb (dq tk_X_init_0 38 rfl) rfl (lv_at hl 0 rfl) ?_
  refine k_new hc hw (ci := 2) (fs := [.null, .null, .int 0, .null, .null, .null, .null, .null, .null, .int 0]) rfl inX2 tyX2_ok (by intro j hj; revert j; exact dfX2) kw_365 kw_366 kw_9 (Nat.le_of_ble_eq_true rfl) (Nat.le_of_ble_eq_true rfl) (dq tk_X_init_0 39 rfl) (fun H hw => ?_)
  refine lv_dup hx hb (dq tk_X_init_0 40 rfl) rfl ?_
  refine k_call hc hN hw (by rfl) c0_Courts yk_Courts_init kw_367 ⟨Nat.le_of_ble_eq_true rfl, Nat.le_of_ble_eq_true rfl⟩ ⟨Nat.le_of_ble_eq_true rfl, Nat.le_of_ble_eq_true rfl⟩ rfl hl.1 (Nat.le_of_ble_eq_true rfl) (dq tk_X_init_0 41 rfl) rfl (fun H locs hw => ?_)
  refine k_put hc hnm hw (k := 7) (ty := (.object "LabourExchange$Courts")) rfl inX11 tyX11_ok nmX11 (by decide) rfl hlen kw_658 rfl rfl rfl (dq tk_X_init_0 42 rfl) (fun H locs hw hlen => ?_)
  refine lv_aload_n hx hb (dq tk_X_init_0 43 rfl) rfl (lv_at hl 0 rfl) ?_
  refine lv_bipush (v := 27) hx hb (dq tk_X_init_0 44 rfl) (by decide) ?_
  refine k_newa hc hw (t := 0) (N' := 27) (ty := .int) (a0 := (27, .inl (fun _ => 0))) rfl kw_154 rfl rfl (fun _ => rfl) (by decide) (by decide) (by decide) (Nat.le_of_ble_eq_true rfl) (Nat.le_of_ble_eq_true rfl) (dq tk_X_init_0 45 rfl) (fun H hw => ?_)
  replace hw := hw.drop (rfl)
  refine k_put hc hnm hw (k := 10) (ty := (.array .int)) rfl inX11 tyX11_ok nmX11 (by decide) rfl hlen kw_661 rfl rfl rfl (dq tk_X_init_0 46 rfl) (fun H locs hw hlen => ?_)
  refine lv_aload_n hx hb (dq tk_X_init_0 47 rfl) rfl (lv_at hl 0 rfl) ?_
  refine lv_sipush (v := 312) hx hb (dq tk_X_init_0 48 rfl) (by decide) ?_
  refine k_put hc hnm hw (k := 13) (ty := .int) rfl inX11 tyX11_ok nmX11 (by decide) rfl hlen kw_664 rfl rfl rfl (dq tk_X_init_0 49 rfl) (fun H locs hw hlen => ?_)
  refine lv_aload_n hx hb (dq tk_X_init_0 50 rfl) rfl (lv_at hl 0 rfl) ?_
  refine lv_iconst (v := (-1)) hx hb (dq tk_X_init_0 51 rfl) (by decide) ?_
  refine k_put hc hnm hw (k := 14) (ty := .int) rfl inX11 tyX11_ok nmX11 (by decide) rfl hlen kw_665 rfl rfl rfl (dq tk_X_init_0 52 rfl) (fun H locs hw hlen => ?_)
  refine lv_iconst (v := 0) hx hb (dq tk_X_init_0 53 rfl) (by decide) ?_
  refine lv_istore_n (lv' := [(1, .int 0), (0, .ref (Z.1 + 0))]) hx hb (dq tk_X_init_0 54 rfl) rfl hl (by decide) rfl (fun ls hl => ?_)
  replace hw := hw.perm (List.Perm.swap _ _ _) |>.as (g := (fun q => if q < 0 then some (Z.1 + (90 + 6 * q)) else none)) (fun q hq => rfl)
  replace hw := hw.perm (List.Perm.swap _ _ _)
  exact w0_X_loop hc hN hnm hr 17 0 rfl hw hl
end CTW
