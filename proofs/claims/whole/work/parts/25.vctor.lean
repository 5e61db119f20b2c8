section CTW
variable {p : Program} {l : Launch} {e : Env} {R : Room} {s : State} {m : MethodId} {args : Array Value} {below : List Frame} {meth : Method} {c : Code} {H : Heap} {locs : List Loc} {cells slots : Nat} {Q : State → Prop}
variable {Z : ZT}
set_option maxHeartbeats 8000000 in
set_option maxRecDepth 20000 in
theorem w0_View_0_loop (hc : Cxz p s m meth c args prog_12_method_1_code "LabourExchange$View" 8 Z) (hN : NX s) (hnm : meth.name = "<init>") (hr : meth.sig.returnType = none) : ∀ (d i : Nat), i + d = 20 → ∀ {H : Heap} {locs : List Loc} {ls : Array Slot}, Kw Z τ0 192 [(0, .inr (10, [.ref (Z.1 + 3), .ref (Z.1 + 15), .ref (Z.1 + 25), .ref (Z.1 + 192 + 5), .int 1, .ref (Z.1 + 192 + 1), .ref (Z.1 + 192 + 2), .ref (Z.1 + 192 + 3), .ref (Z.1 + 192 + 4), .int 0])), (1, .inl (Z.2.2.1 5, 20, .inr (.inr (.inr (.inr (fun q => if q < i then some (Z.1 + (279 + 187 * 0 + 5 * q)) else none))))))] (87 + 5 * i) s H locs → lv_has ls 8 [(7, .int (nI i)), (0, .ref (Z.1 + 192)), (1, .ref (Z.1 + 3)), (2, .ref (Z.1 + 15)), (3, .ref (Z.1 + 25)), (4, .ref (Z.1 + 33)), (5, .ref (Z.1 + 32)), (6, .int 1)] → W p l e ({ frames := 2, cells := 186, slots := 30844, locals := 120 } : Room) s m args below meth c H locs (86 + 5 * i) (2664 + 1409 * i) (MQ below (Qk Z τ0 192 187) args s 186 30844 (fun q => Z.1 + 192 ≤ q)) (F0 m 77 ls []) := by
  have hx := hc.hx
  have hb := hc.hb
  have hlen : ([.ref (Z.1 + 3), .ref (Z.1 + 15), .ref (Z.1 + 25), .ref (Z.1 + 192 + 5), .int 1, .ref (Z.1 + 192 + 1), .ref (Z.1 + 192 + 2), .ref (Z.1 + 192 + 3), .ref (Z.1 + 192 + 4), .int 0] : List Value).length = 10 := rfl
  intro d
  induction d with
  | zero =>
    intro i hi H locs ls hw hl
    obtain rfl : i = 20 := by omega
    refine lv_iload hx hb (dq tk_View_init_0 38 rfl) (lv_at hl 0 rfl) ?_
    refine lv_bipush (v := 20) hx hb (dq tk_View_init_0 39 rfl) (by decide) ?_
    refine lv_icmp_ge (tgt := 113) hx hb (dq tk_View_init_0 40 rfl) (by decide) (fun c1 => ?_) (fun c1 => ?_)
    · skip
      replace hw := hw.perm (List.Perm.swap _ _ _)
      replace hw := hw.as (g := fun i => some (Z.1 + (279 + 187 * 0 + 5 * i))) (fun q hq => if_pos hq)
      replace hw := hw.drop (rfl)
      replace hw := hw.drop (rfl)
      exact k_end hc hw hr (dq tk_View_init_0 55 rfl)
    · exact absurd (nI_le (Nat.le_refl 20) (by decide)) c1
  | succ d ih =>
    intro i hi H locs ls hw hl
    have hi2 : i < 20 := by omega
    refine lv_iload hx hb (dq tk_View_init_0 38 rfl) (lv_at hl 0 rfl) ?_
    refine lv_bipush (v := 20) hx hb (dq tk_View_init_0 39 rfl) (by decide) ?_
    refine lv_icmp_ge (tgt := 113) hx hb (dq tk_View_init_0 40 rfl) (by decide) (fun c1 => ?_) (fun c1 => ?_)
    · exact absurd c1 (nI_ge (show i < 20 by omega) (by decide))
    · skip
      refine lv_aload_n hx hb (dq tk_View_init_0 41 rfl) rfl (lv_at hl 1 rfl) ?_
      refine k_get hc hw (k := 5) (v := .ref (Z.1 + 192 + 1)) List.mem_cons_self rfl inX10 (by decide) rfl kw_624 (dq tk_View_init_0 42 rfl) ?_
      refine lv_iload hx hb (dq tk_View_init_0 43 rfl) (lv_at hl 0 rfl) ?_
      refine k_new hc hw (ci := 6) (fs := [.int 0, .null, .null, .null, .null, .null, .null, .null, .int 0, .int 0, .int 0, .int 0, .int 0, .int 0, .int 0, .int 0, .int 0, .int 0, .int 0, .int 0, .int 0]) rfl inX6 tyX6_ok (by intro j hj; revert j; exact dfX6) kw_486 kw_540 kw_13 (by show 86 + 5 * i + 1 ≤ 186; omega) (by show 2664 + 1409 * i + 21 ≤ 30844; omega) (dq tk_View_init_0 44 rfl) (fun H hw => ?_)
      refine lv_dup hx hb (dq tk_View_init_0 45 rfl) rfl ?_
      refine lv_iload hx hb (dq tk_View_init_0 46 rfl) (lv_at hl 0 rfl) ?_
      refine lv_aload_n hx hb (dq tk_View_init_0 47 rfl) rfl (lv_at hl 2 rfl) ?_
      refine lv_aload hx hb (dq tk_View_init_0 48 rfl) (lv_at hl 5 rfl) ?_
      refine lv_aload_n hx hb (dq tk_View_init_0 49 rfl) rfl (lv_at hl 1 rfl) ?_
      refine k_get hc hw (k := 3) (v := .ref (Z.1 + 192 + 5)) (List.mem_cons_of_mem _ List.mem_cons_self) rfl inX10 (by decide) rfl kw_621 (dq tk_View_init_0 50 rfl) ?_
      refine k_call hc hN hw rfl (c0_Life (o := 192 + (87 + 5 * i)) (v := 0) (q := i) (by decide) hi2 (by omega)) yk_Life_init kw_541 ⟨Nat.le_of_ble_eq_true rfl, Nat.le_of_ble_eq_true rfl⟩ ⟨by show 86 + 5 * i + 1 + 4 ≤ 186; omega, by show 2664 + 1409 * i + 21 + 1388 ≤ 30844; omega⟩ rfl hl.1 (Nat.le_of_ble_eq_true rfl) (dq tk_View_init_0 51 rfl) rfl (fun H locs hw => ?_)
      have hq := hw.any hc (j := 87 + 5 * i) (C := "LabourExchange$Life") (by omega) (ne2 (by omega) (by omega)) ((wd_life (id := 192 + (87 + 5 * i)) (v := 0) (p := i) (r := 0) (by decide) hi2 (by decide) (by omega)).2.trans rfl) rfl
      replace hw := hw.perm (List.Perm.swap _ _ _)
      refine k_aast hc hw (t := 5) rfl hq (nI_in hi2 (by decide)) (dq tk_View_init_0 52 rfl) (fun H locs hw => ?_)
      replace hw := (hw.as (va_up_step (by omega) (show @Eq Nat (Z.1 + 192 + (87 + 5 * i)) (Z.1 + (279 + 187 * 0 + 5 * i)) by omega))).perm (List.Perm.swap _ _ _)
      refine lv_iinc (v := nI (i + 1)) (lv' := [(7, .int (nI (i + 1))), (0, .ref (Z.1 + 192)), (1, .ref (Z.1 + 3)), (2, .ref (Z.1 + 15)), (3, .ref (Z.1 + 25)), (4, .ref (Z.1 + 33)), (5, .ref (Z.1 + 32)), (6, .int 1)]) hx hb (dq tk_View_init_0 53 rfl) hl (k := 0) rfl (nI_succ i).symm (by decide) rfl (fun ls hl => ?_)
      refine lv_goto (tgt := 77) hx hb (dq tk_View_init_0 54 rfl) (by decide) ?_
      refine W.widen (k := 86 + 5 * (i + 1)) (n := 2664 + 1409 * (i + 1)) (by show 86 + 5 * i + 1 + 4 ≤ 86 + 5 * (i + 1); omega) (by show 2664 + 1409 * i + 21 + 1388 ≤ 2664 + 1409 * (i + 1); omega) ?_
      rw [show 87 + 5 * i + 5 = 87 + 5 * (i + 1) by omega] at hw
      exact ih (i + 1) (by omega) hw hl
set_option maxHeartbeats 8000000 in
set_option maxRecDepth 20000 in
theorem c0_View_0 : Ck l Z y_View_init prog_12_method_1_code 8 { frames := 2, cells := 186, slots := 30844, locals := 120 } [.ref (Z.1 + 3), .ref (Z.1 + 15), .ref (Z.1 + 25), .ref (Z.1 + 33), .ref (Z.1 + 32), .int 1] τ0 192 10 [.null, .null, .null, .null, .int 0, .null, .null, .null, .null, .int 0] 187 := by
  refine k_met (by decide) rfl (Nat.le_of_ble_eq_true rfl) (fun p e s m args below meth c ls hc hN hnm hr hw hl => ?_)
  have hx := hc.hx
  have hb := hc.hb
  have hlen : ([.null, .null, .null, .null, .int 0, .null, .null, .null, .null, .int 0] : List Value).length = 10 := rfl
  refine lv_aload_n hx hb (dq tk_View_init_0 0 rfl) rfl (lv_at hl 0 rfl) ?_
  refine W.objInit hx hb hc.ho (hc.ht _ kw_485) (hc.ht _ kw_32) (hc.ht _ kw_obj) rfl (by show ls.size = c.maxLocals; rw [hl.1]; exact hc.1.2.2.1.symm) rfl (dq tk_View_init_0 1 rfl) (Nat.le_of_ble_eq_true rfl) (Nat.le_of_ble_eq_true rfl) ?_
  refine W.eq (g2 := F0 m 4 ls []) rfl ?_
  refine lv_aload_n hx hb (dq tk_View_init_0 2 rfl) rfl (lv_at hl 0 rfl) ?_
  refine lv_bipush (v := 20) hx hb (dq tk_View_init_0 3 rfl) (by decide) ?_
  refine k_anew hc hw (t := 5) (N' := 20) kw_486 hN.2.1 rfl (by decide) (by decide) (by decide) (Nat.le_of_ble_eq_true rfl) (Nat.le_of_ble_eq_true rfl) (dq tk_View_init_0 4 rfl) (fun H hw => ?_)
  replace hw := hw.perm (List.Perm.swap _ _ _)
  refine k_put hc hnm hw (k := 5) (ty := (.array (.object "LabourExchange$Life"))) rfl inX10 tyX10_ok nmX10 (by decide) rfl hlen kw_624 rfl rfl rfl (dq tk_View_init_0 5 rfl) (fun H locs hw hlen => ?_)
  refine lv_aload_n hx hb (dq tk_View_init_0 6 rfl) rfl (lv_at hl 0 rfl) ?_
  refine lv_sipush (v := 160) hx hb (dq tk_View_init_0 7 rfl) (by decide) ?_
  refine k_newa hc hw (t := 2) (N' := 160) (ty := .boolean) (a0 := (160, .inl (fun _ => 0))) rfl kw_302 rfl rfl (fun _ => rfl) (by decide) (by decide) (by decide) (Nat.le_of_ble_eq_true rfl) (Nat.le_of_ble_eq_true rfl) (dq tk_View_init_0 8 rfl) (fun H hw => ?_)
  replace hw := hw.drop (rfl)
  refine k_put hc hnm hw (k := 6) (ty := (.array .boolean)) rfl inX10 tyX10_ok nmX10 (by decide) rfl hlen kw_625 rfl rfl rfl (dq tk_View_init_0 9 rfl) (fun H locs hw hlen => ?_)
  refine lv_aload_n hx hb (dq tk_View_init_0 10 rfl) rfl (lv_at hl 0 rfl) ?_
  refine lv_sipush (v := 160) hx hb (dq tk_View_init_0 11 rfl) (by decide) ?_
  refine k_newa hc hw (t := 2) (N' := 160) (ty := .boolean) (a0 := (160, .inl (fun _ => 0))) rfl kw_302 rfl rfl (fun _ => rfl) (by decide) (by decide) (by decide) (Nat.le_of_ble_eq_true rfl) (Nat.le_of_ble_eq_true rfl) (dq tk_View_init_0 12 rfl) (fun H hw => ?_)
  replace hw := hw.drop (rfl)
  refine k_put hc hnm hw (k := 7) (ty := (.array .boolean)) rfl inX10 tyX10_ok nmX10 (by decide) rfl hlen kw_627 rfl rfl rfl (dq tk_View_init_0 13 rfl) (fun H locs hw hlen => ?_)
  refine lv_aload_n hx hb (dq tk_View_init_0 14 rfl) rfl (lv_at hl 0 rfl) ?_
  refine lv_sipush (v := 160) hx hb (dq tk_View_init_0 15 rfl) (by decide) ?_
  refine k_newa hc hw (t := 0) (N' := 160) (ty := .int) (a0 := (160, .inl (fun _ => 0))) rfl kw_154 rfl rfl (fun _ => rfl) (by decide) (by decide) (by decide) (Nat.le_of_ble_eq_true rfl) (Nat.le_of_ble_eq_true rfl) (dq tk_View_init_0 16 rfl) (fun H hw => ?_)
  replace hw := hw.drop (rfl)
  refine k_put hc hnm hw (k := 8) (ty := (.array .int)) rfl inX10 tyX10_ok nmX10 (by decide) rfl hlen kw_628 rfl rfl rfl (dq tk_View_init_0 17 rfl) (fun H locs hw hlen => ?_)
  refine lv_aload_n hx hb (dq tk_View_init_0 18 rfl) rfl (lv_at hl 0 rfl) ?_
  refine lv_aload_n hx hb (dq tk_View_init_0 19 rfl) rfl (lv_at hl 1 rfl) ?_
  refine k_put hc hnm hw (k := 0) (ty := (.object "LabourExchange$Land")) rfl inX10 tyX10_ok nmX10 (by decide) rfl hlen kw_618 rfl rfl rfl (dq tk_View_init_0 20 rfl) (fun H locs hw hlen => ?_)
  refine lv_aload_n hx hb (dq tk_View_init_0 21 rfl) rfl (lv_at hl 0 rfl) ?_
  refine lv_aload_n hx hb (dq tk_View_init_0 22 rfl) rfl (lv_at hl 2 rfl) ?_
  refine k_put hc hnm hw (k := 1) (ty := (.object "LabourExchange$Books")) rfl inX10 tyX10_ok nmX10 (by decide) rfl hlen kw_619 rfl rfl rfl (dq tk_View_init_0 23 rfl) (fun H locs hw hlen => ?_)
  refine lv_aload_n hx hb (dq tk_View_init_0 24 rfl) rfl (lv_at hl 0 rfl) ?_
  refine lv_aload_n hx hb (dq tk_View_init_0 25 rfl) rfl (lv_at hl 3 rfl) ?_
  refine k_put hc hnm hw (k := 2) (ty := (.object "LabourExchange$Events")) rfl inX10 tyX10_ok nmX10 (by decide) rfl hlen kw_620 rfl rfl rfl (dq tk_View_init_0 26 rfl) (fun H locs hw hlen => ?_)
  refine lv_aload_n hx hb (dq tk_View_init_0 27 rfl) rfl (lv_at hl 0 rfl) ?_
  refine k_new hc hw (ci := 5) (fs := [.null, .int 0, .null, .null, .null, .null, .null, .null, .null, .null, .null, .null, .null]) rfl inX5 tyX5_ok (by intro j hj; revert j; exact dfX5) kw_488 kw_489 kw_12 (Nat.le_of_ble_eq_true rfl) (Nat.le_of_ble_eq_true rfl) (dq tk_View_init_0 28 rfl) (fun H hw => ?_)
  refine lv_dup hx hb (dq tk_View_init_0 29 rfl) rfl ?_
  refine lv_aload hx hb (dq tk_View_init_0 30 rfl) (lv_at hl 5 rfl) ?_
  refine k_call hc hN hw (by rfl) (c0_Law (o := 192 + 5) (v := 0) (by decide) (by omega)) yk_Law_init kw_490 ⟨Nat.le_of_ble_eq_true rfl, Nat.le_of_ble_eq_true rfl⟩ ⟨Nat.le_of_ble_eq_true rfl, Nat.le_of_ble_eq_true rfl⟩ rfl hl.1 (Nat.le_of_ble_eq_true rfl) (dq tk_View_init_0 31 rfl) rfl (fun H locs hw => ?_)
  refine k_put hc hnm hw (k := 3) (ty := (.object "LabourExchange$Law")) rfl inX10 tyX10_ok nmX10 (by decide) rfl hlen kw_621 rfl rfl rfl (dq tk_View_init_0 32 rfl) (fun H locs hw hlen => ?_)
  refine lv_aload_n hx hb (dq tk_View_init_0 33 rfl) rfl (lv_at hl 0 rfl) ?_
  refine lv_iload hx hb (dq tk_View_init_0 34 rfl) (lv_at hl 6 rfl) ?_
  refine k_put hc hnm hw (k := 4) (ty := .boolean) rfl inX10 tyX10_ok nmX10 (by decide) rfl hlen kw_623 rfl rfl rfl (dq tk_View_init_0 35 rfl) (fun H locs hw hlen => ?_)
  refine lv_iconst (v := 0) hx hb (dq tk_View_init_0 36 rfl) (by decide) ?_
  refine lv_istore (lv' := [(7, .int 0), (0, .ref (Z.1 + 192)), (1, .ref (Z.1 + 3)), (2, .ref (Z.1 + 15)), (3, .ref (Z.1 + 25)), (4, .ref (Z.1 + 33)), (5, .ref (Z.1 + 32)), (6, .int 1)]) hx hb (dq tk_View_init_0 37 rfl) hl (by decide) rfl (fun ls hl => ?_)
  replace hw := hw.perm (List.Perm.swap _ _ _) |>.as (g := (fun q => if q < 0 then some (Z.1 + (279 + 187 * 0 + 5 * q)) else none)) (fun q hq => rfl)
  replace hw := hw.perm (List.Perm.swap _ _ _)
  exact w0_View_0_loop hc hN hnm hr 20 0 rfl hw hl
set_option maxHeartbeats 8000000 in
set_option maxRecDepth 20000 in
theorem w0_View_1_loop (hc : Cxz p s m meth c args prog_12_method_1_code "LabourExchange$View" 8 Z) (hN : NX s) (hnm : meth.name = "<init>") (hr : meth.sig.returnType = none) : ∀ (d i : Nat), i + d = 20 → ∀ {H : Heap} {locs : List Loc} {ls : Array Slot}, Kw Z τ0 379 [(0, .inr (10, [.ref (Z.1 + 3), .ref (Z.1 + 15), .ref (Z.1 + 25), .ref (Z.1 + 379 + 5), .int 0, .ref (Z.1 + 379 + 1), .ref (Z.1 + 379 + 2), .ref (Z.1 + 379 + 3), .ref (Z.1 + 379 + 4), .int 0])), (1, .inl (Z.2.2.1 5, 20, .inr (.inr (.inr (.inr (fun q => if q < i then some (Z.1 + (279 + 187 * 1 + 5 * q)) else none))))))] (87 + 5 * i) s H locs → lv_has ls 8 [(7, .int (nI i)), (0, .ref (Z.1 + 379)), (1, .ref (Z.1 + 3)), (2, .ref (Z.1 + 15)), (3, .ref (Z.1 + 25)), (4, .ref (Z.1 + 33)), (5, .ref (Z.1 + 32)), (6, .int 0)] → W p l e ({ frames := 2, cells := 186, slots := 30844, locals := 120 } : Room) s m args below meth c H locs (86 + 5 * i) (2664 + 1409 * i) (MQ below (Qk Z τ0 379 187) args s 186 30844 (fun q => Z.1 + 379 ≤ q)) (F0 m 77 ls []) := by
  have hx := hc.hx
  have hb := hc.hb
  have hlen : ([.ref (Z.1 + 3), .ref (Z.1 + 15), .ref (Z.1 + 25), .ref (Z.1 + 379 + 5), .int 0, .ref (Z.1 + 379 + 1), .ref (Z.1 + 379 + 2), .ref (Z.1 + 379 + 3), .ref (Z.1 + 379 + 4), .int 0] : List Value).length = 10 := rfl
  intro d
  induction d with
  | zero =>
    intro i hi H locs ls hw hl
    obtain rfl : i = 20 := by omega
    refine lv_iload hx hb (dq tk_View_init_0 38 rfl) (lv_at hl 0 rfl) ?_
    refine lv_bipush (v := 20) hx hb (dq tk_View_init_0 39 rfl) (by decide) ?_
    refine lv_icmp_ge (tgt := 113) hx hb (dq tk_View_init_0 40 rfl) (by decide) (fun c1 => ?_) (fun c1 => ?_)
    · skip
      replace hw := hw.perm (List.Perm.swap _ _ _)
      replace hw := hw.as (g := fun i => some (Z.1 + (279 + 187 * 1 + 5 * i))) (fun q hq => if_pos hq)
      replace hw := hw.drop (rfl)
      replace hw := hw.drop (rfl)
      exact k_end hc hw hr (dq tk_View_init_0 55 rfl)
    · exact absurd (nI_le (Nat.le_refl 20) (by decide)) c1
  | succ d ih =>
    intro i hi H locs ls hw hl
    have hi2 : i < 20 := by omega
    refine lv_iload hx hb (dq tk_View_init_0 38 rfl) (lv_at hl 0 rfl) ?_
    refine lv_bipush (v := 20) hx hb (dq tk_View_init_0 39 rfl) (by decide) ?_
    refine lv_icmp_ge (tgt := 113) hx hb (dq tk_View_init_0 40 rfl) (by decide) (fun c1 => ?_) (fun c1 => ?_)
    · exact absurd c1 (nI_ge (show i < 20 by omega) (by decide))
    · skip
      refine lv_aload_n hx hb (dq tk_View_init_0 41 rfl) rfl (lv_at hl 1 rfl) ?_
      refine k_get hc hw (k := 5) (v := .ref (Z.1 + 379 + 1)) List.mem_cons_self rfl inX10 (by decide) rfl kw_624 (dq tk_View_init_0 42 rfl) ?_
      refine lv_iload hx hb (dq tk_View_init_0 43 rfl) (lv_at hl 0 rfl) ?_
      refine k_new hc hw (ci := 6) (fs := [.int 0, .null, .null, .null, .null, .null, .null, .null, .int 0, .int 0, .int 0, .int 0, .int 0, .int 0, .int 0, .int 0, .int 0, .int 0, .int 0, .int 0, .int 0]) rfl inX6 tyX6_ok (by intro j hj; revert j; exact dfX6) kw_486 kw_540 kw_13 (by show 86 + 5 * i + 1 ≤ 186; omega) (by show 2664 + 1409 * i + 21 ≤ 30844; omega) (dq tk_View_init_0 44 rfl) (fun H hw => ?_)
      refine lv_dup hx hb (dq tk_View_init_0 45 rfl) rfl ?_
      refine lv_iload hx hb (dq tk_View_init_0 46 rfl) (lv_at hl 0 rfl) ?_
      refine lv_aload_n hx hb (dq tk_View_init_0 47 rfl) rfl (lv_at hl 2 rfl) ?_
      refine lv_aload hx hb (dq tk_View_init_0 48 rfl) (lv_at hl 5 rfl) ?_
      refine lv_aload_n hx hb (dq tk_View_init_0 49 rfl) rfl (lv_at hl 1 rfl) ?_
      refine k_get hc hw (k := 3) (v := .ref (Z.1 + 379 + 5)) (List.mem_cons_of_mem _ List.mem_cons_self) rfl inX10 (by decide) rfl kw_621 (dq tk_View_init_0 50 rfl) ?_
      refine k_call hc hN hw rfl (c0_Life (o := 379 + (87 + 5 * i)) (v := 1) (q := i) (by decide) hi2 (by omega)) yk_Life_init kw_541 ⟨Nat.le_of_ble_eq_true rfl, Nat.le_of_ble_eq_true rfl⟩ ⟨by show 86 + 5 * i + 1 + 4 ≤ 186; omega, by show 2664 + 1409 * i + 21 + 1388 ≤ 30844; omega⟩ rfl hl.1 (Nat.le_of_ble_eq_true rfl) (dq tk_View_init_0 51 rfl) rfl (fun H locs hw => ?_)
      have hq := hw.any hc (j := 87 + 5 * i) (C := "LabourExchange$Life") (by omega) (ne2 (by omega) (by omega)) ((wd_life (id := 379 + (87 + 5 * i)) (v := 1) (p := i) (r := 0) (by decide) hi2 (by decide) (by omega)).2.trans rfl) rfl
      replace hw := hw.perm (List.Perm.swap _ _ _)
      refine k_aast hc hw (t := 5) rfl hq (nI_in hi2 (by decide)) (dq tk_View_init_0 52 rfl) (fun H locs hw => ?_)
      replace hw := (hw.as (va_up_step (by omega) (show @Eq Nat (Z.1 + 379 + (87 + 5 * i)) (Z.1 + (279 + 187 * 1 + 5 * i)) by omega))).perm (List.Perm.swap _ _ _)
      refine lv_iinc (v := nI (i + 1)) (lv' := [(7, .int (nI (i + 1))), (0, .ref (Z.1 + 379)), (1, .ref (Z.1 + 3)), (2, .ref (Z.1 + 15)), (3, .ref (Z.1 + 25)), (4, .ref (Z.1 + 33)), (5, .ref (Z.1 + 32)), (6, .int 0)]) hx hb (dq tk_View_init_0 53 rfl) hl (k := 0) rfl (nI_succ i).symm (by decide) rfl (fun ls hl => ?_)
      refine lv_goto (tgt := 77) hx hb (dq tk_View_init_0 54 rfl) (by decide) ?_
      refine W.widen (k := 86 + 5 * (i + 1)) (n := 2664 + 1409 * (i + 1)) (by show 86 + 5 * i + 1 + 4 ≤ 86 + 5 * (i + 1); omega) (by show 2664 + 1409 * i + 21 + 1388 ≤ 2664 + 1409 * (i + 1); omega) ?_
      rw [show 87 + 5 * i + 5 = 87 + 5 * (i + 1) by omega] at hw
      exact ih (i + 1) (by omega) hw hl
set_option maxHeartbeats 8000000 in
set_option maxRecDepth 20000 in
theorem c0_View_1 : Ck l Z y_View_init prog_12_method_1_code 8 { frames := 2, cells := 186, slots := 30844, locals := 120 } [.ref (Z.1 + 3), .ref (Z.1 + 15), .ref (Z.1 + 25), .ref (Z.1 + 33), .ref (Z.1 + 32), .int 0] τ0 379 10 [.null, .null, .null, .null, .int 0, .null, .null, .null, .null, .int 0] 187 := by
  refine k_met (by decide) rfl (Nat.le_of_ble_eq_true rfl) (fun p e s m args below meth c ls hc hN hnm hr hw hl => ?_)
  have hx := hc.hx
  have hb := hc.hb
  have hlen : ([.null, .null, .null, .null, .int 0, .null, .null, .null, .null, .int 0] : List Value).length = 10 := rfl
  refine lv_aload_n hx hb (dq tk_View_init_0 0 rfl) rfl (lv_at hl 0 rfl) ?_
  refine W.objInit hx hb hc.ho (hc.ht _ kw_485) (hc.ht _ kw_32) (hc.ht _ kw_obj) rfl (by show ls.size = c.maxLocals; rw [hl.1]; exact hc.1.2.2.1.symm) rfl (dq tk_View_init_0 1 rfl) (Nat.le_of_ble_eq_true rfl) (Nat.le_of_ble_eq_true rfl) ?_
  refine W.eq (g2 := F0 m 4 ls []) rfl ?_
  refine lv_aload_n hx hb (dq tk_View_init_0 2 rfl) rfl (lv_at hl 0 rfl) ?_
  refine lv_bipush (v := 20) hx hb (dq tk_View_init_0 3 rfl) (by decide) ?_
  refine k_anew hc hw (t := 5) (N' := 20) kw_486 hN.2.1 rfl (by decide) (by decide) (by decide) (Nat.le_of_ble_eq_true rfl) (Nat.le_of_ble_eq_true rfl) (dq tk_View_init_0 4 rfl) (fun H hw => ?_)
  replace hw := hw.perm (List.Perm.swap _ _ _)
  refine k_put hc hnm hw (k := 5) (ty := (.array (.object "LabourExchange$Life"))) rfl inX10 tyX10_ok nmX10 (by decide) rfl hlen kw_624 rfl rfl rfl (dq tk_View_init_0 5 rfl) (fun H locs hw hlen => ?_)
  refine lv_aload_n hx hb (dq tk_View_init_0 6 rfl) rfl (lv_at hl 0 rfl) ?_
  refine lv_sipush (v := 160) hx hb (dq tk_View_init_0 7 rfl) (by decide) ?_
  refine k_newa hc hw (t := 2) (N' := 160) (ty := .boolean) (a0 := (160, .inl (fun _ => 0))) rfl kw_302 rfl rfl (fun _ => rfl) (by decide) (by decide) (by decide) (Nat.le_of_ble_eq_true rfl) (Nat.le_of_ble_eq_true rfl) (dq tk_View_init_0 8 rfl) (fun H hw => ?_)
  replace hw := hw.drop (rfl)
  refine k_put hc hnm hw (k := 6) (ty := (.array .boolean)) rfl inX10 tyX10_ok nmX10 (by decide) rfl hlen kw_625 rfl rfl rfl (dq tk_View_init_0 9 rfl) (fun H locs hw hlen => ?_)
  refine lv_aload_n hx hb (dq tk_View_init_0 10 rfl) rfl (lv_at hl 0 rfl) ?_
  refine lv_sipush (v := 160) hx hb (dq tk_View_init_0 11 rfl) (by decide) ?_
  refine k_newa hc hw (t := 2) (N' := 160) (ty := .boolean) (a0 := (160, .inl (fun _ => 0))) rfl kw_302 rfl rfl (fun _ => rfl) (by decide) (by decide) (by decide) (Nat.le_of_ble_eq_true rfl) (Nat.le_of_ble_eq_true rfl) (dq tk_View_init_0 12 rfl) (fun H hw => ?_)
  replace hw := hw.drop (rfl)
  refine k_put hc hnm hw (k := 7) (ty := (.array .boolean)) rfl inX10 tyX10_ok nmX10 (by decide) rfl hlen kw_627 rfl rfl rfl (dq tk_View_init_0 13 rfl) (fun H locs hw hlen => ?_)
  refine lv_aload_n hx hb (dq tk_View_init_0 14 rfl) rfl (lv_at hl 0 rfl) ?_
  refine lv_sipush (v := 160) hx hb (dq tk_View_init_0 15 rfl) (by decide) ?_
  refine k_newa hc hw (t := 0) (N' := 160) (ty := .int) (a0 := (160, .inl (fun _ => 0))) rfl kw_154 rfl rfl (fun _ => rfl) (by decide) (by decide) (by decide) (Nat.le_of_ble_eq_true rfl) (Nat.le_of_ble_eq_true rfl) (dq tk_View_init_0 16 rfl) (fun H hw => ?_)
  replace hw := hw.drop (rfl)
  refine k_put hc hnm hw (k := 8) (ty := (.array .int)) rfl inX10 tyX10_ok nmX10 (by decide) rfl hlen kw_628 rfl rfl rfl (dq tk_View_init_0 17 rfl) (fun H locs hw hlen => ?_)
  refine lv_aload_n hx hb (dq tk_View_init_0 18 rfl) rfl (lv_at hl 0 rfl) ?_
  refine lv_aload_n hx hb (dq tk_View_init_0 19 rfl) rfl (lv_at hl 1 rfl) ?_
  refine k_put hc hnm hw (k := 0) (ty := (.object "LabourExchange$Land")) rfl inX10 tyX10_ok nmX10 (by decide) rfl hlen kw_618 rfl rfl rfl (dq tk_View_init_0 20 rfl) (fun H locs hw hlen => ?_)
  refine lv_aload_n hx hb (dq tk_View_init_0 21 rfl) rfl (lv_at hl 0 rfl) ?_
  refine lv_aload_n hx hb (dq tk_View_init_0 22 rfl) rfl (lv_at hl 2 rfl) ?_
  refine k_put hc hnm hw (k := 1) (ty := (.object "LabourExchange$Books")) rfl inX10 tyX10_ok nmX10 (by decide) rfl hlen kw_619 rfl rfl rfl (dq tk_View_init_0 23 rfl) (fun H locs hw hlen => ?_)
  refine lv_aload_n hx hb (dq tk_View_init_0 24 rfl) rfl (lv_at hl 0 rfl) ?_
  refine lv_aload_n hx hb (dq tk_View_init_0 25 rfl) rfl (lv_at hl 3 rfl) ?_
  refine k_put hc hnm hw (k := 2) (ty := (.object "LabourExchange$Events")) rfl inX10 tyX10_ok nmX10 (by decide) rfl hlen kw_620 rfl rfl rfl (dq tk_View_init_0 26 rfl) (fun H locs hw hlen => ?_)
  refine lv_aload_n hx hb (dq tk_View_init_0 27 rfl) rfl (lv_at hl 0 rfl) ?_
  refine k_new hc hw (ci := 5) (fs := [.null, .int 0, .null, .null, .null, .null, .null, .null, .null, .null, .null, .null, .null]) rfl inX5 tyX5_ok (by intro j hj; revert j; exact dfX5) kw_488 kw_489 kw_12 (Nat.le_of_ble_eq_true rfl) (Nat.le_of_ble_eq_true rfl) (dq tk_View_init_0 28 rfl) (fun H hw => ?_)
  refine lv_dup hx hb (dq tk_View_init_0 29 rfl) rfl ?_
  refine lv_aload hx hb (dq tk_View_init_0 30 rfl) (lv_at hl 5 rfl) ?_
  refine k_call hc hN hw (by rfl) (c0_Law (o := 379 + 5) (v := 1) (by decide) (by omega)) yk_Law_init kw_490 ⟨Nat.le_of_ble_eq_true rfl, Nat.le_of_ble_eq_true rfl⟩ ⟨Nat.le_of_ble_eq_true rfl, Nat.le_of_ble_eq_true rfl⟩ rfl hl.1 (Nat.le_of_ble_eq_true rfl) (dq tk_View_init_0 31 rfl) rfl (fun H locs hw => ?_)
  refine k_put hc hnm hw (k := 3) (ty := (.object "LabourExchange$Law")) rfl inX10 tyX10_ok nmX10 (by decide) rfl hlen kw_621 rfl rfl rfl (dq tk_View_init_0 32 rfl) (fun H locs hw hlen => ?_)
  refine lv_aload_n hx hb (dq tk_View_init_0 33 rfl) rfl (lv_at hl 0 rfl) ?_
  refine lv_iload hx hb (dq tk_View_init_0 34 rfl) (lv_at hl 6 rfl) ?_
  refine k_put hc hnm hw (k := 4) (ty := .boolean) rfl inX10 tyX10_ok nmX10 (by decide) rfl hlen kw_623 rfl rfl rfl (dq tk_View_init_0 35 rfl) (fun H locs hw hlen => ?_)
  refine lv_iconst (v := 0) hx hb (dq tk_View_init_0 36 rfl) (by decide) ?_
  refine lv_istore (lv' := [(7, .int 0), (0, .ref (Z.1 + 379)), (1, .ref (Z.1 + 3)), (2, .ref (Z.1 + 15)), (3, .ref (Z.1 + 25)), (4, .ref (Z.1 + 33)), (5, .ref (Z.1 + 32)), (6, .int 0)]) hx hb (dq tk_View_init_0 37 rfl) hl (by decide) rfl (fun ls hl => ?_)
  replace hw := hw.perm (List.Perm.swap _ _ _) |>.as (g := (fun q => if q < 0 then some (Z.1 + (279 + 187 * 1 + 5 * q)) else none)) (fun q hq => rfl)
  replace hw := hw.perm (List.Perm.swap _ _ _)
  exact w0_View_1_loop hc hN hnm hr 20 0 rfl hw hl
end CTW
