section CTW
variable {p : Program} {l : Launch} {e : Env} {R : Room} {s : State} {m : MethodId} {args : Array Value} {below : List Frame} {meth : Method} {c : Code} {H : Heap} {locs : List Loc} {cells slots : Nat} {Q : State → Prop}
variable {Z : ZT}
set_option maxHeartbeats 8000000 in
set_option maxRecDepth 20000 in
theorem c0_Reader : Ck l Z y_Reader_init prog_10_method_1_code 1 { frames := 1, cells := 1, slots := 600, locals := 60 } [] τ0 1 8 [.null, .int 0, .int 0, .int 0, .int 0, .int 0, .int 0, .int 0, .int 0, .int 0, .int 0, .null] 2 := by
  refine k_met (by decide) rfl (Nat.le_of_ble_eq_true rfl) (fun p e s m args below meth c ls hc hN hnm hr hw hl => ?_)
  have hx := hc.hx
  have hb := hc.hb
  have hlen : ([.null, .int 0, .int 0, .int 0, .int 0, .int 0, .int 0, .int 0, .int 0, .int 0, .int 0, .null] : List Value).length = 12 := rfl
  refine lv_aload_n hx hb (dq tk_Reader_init_0 0 rfl) rfl (lv_at hl 0 rfl) ?_
  refine W.objInit hx hb hc.ho (hc.ht _ kw_39) (hc.ht _ kw_32) (hc.ht _ kw_obj) rfl (by show ls.size = c.maxLocals; rw [hl.1]; exact hc.1.2.2.1.symm) rfl (dq tk_Reader_init_0 1 rfl) (Nat.le_of_ble_eq_true rfl) (Nat.le_of_ble_eq_true rfl) ?_
  refine W.eq (g2 := F0 m 4 ls []) rfl ?_
  refine lv_aload_n hx hb (dq tk_Reader_init_0 2 rfl) rfl (lv_at hl 0 rfl) ?_
  refine lv_sipush (v := 600) hx hb (dq tk_Reader_init_0 3 rfl) (by decide) ?_
  refine k_newa hc hw (t := 1) (N' := 600) (ty := .byte) (a0 := (600, .inl (fun _ => 0))) rfl kw_80 rfl rfl (fun _ => rfl) (by decide) (by decide) (by decide) (Nat.le_of_ble_eq_true rfl) (Nat.le_of_ble_eq_true rfl) (dq tk_Reader_init_0 4 rfl) (fun H hw => ?_)
  replace hw := hw.drop (rfl)
  refine k_put hc hnm hw (k := 0) (ty := (.array .byte)) rfl inX8 tyX8_ok nmX8 (by decide) rfl hlen kw_40 rfl rfl rfl (dq tk_Reader_init_0 5 rfl) (fun H locs hw hlen => ?_)
  refine lv_aload_n hx hb (dq tk_Reader_init_0 6 rfl) rfl (lv_at hl 0 rfl) ?_
  refine lv_iconst (v := (-1)) hx hb (dq tk_Reader_init_0 7 rfl) (by decide) ?_
  refine k_put hc hnm hw (k := 2) (ty := .int) rfl inX8 tyX8_ok nmX8 (by decide) rfl hlen kw_44 rfl rfl rfl (dq tk_Reader_init_0 8 rfl) (fun H locs hw hlen => ?_)
  replace hw := hw.drop (rfl)
  exact k_end hc hw hr (dq tk_Reader_init_0 9 rfl)
set_option maxHeartbeats 8000000 in
set_option maxRecDepth 20000 in
theorem c0_Land : Ck l Z y_Land_init prog_6_method_1_code 1 { frames := 1, cells := 11, slots := 180, locals := 60 } [] τ0 3 4 [.null, .null, .int 0, .null, .null, .null, .null, .null, .int 0, .null, .null, .null, .int 0, .int 0, .int 0, .null, .int 0] 12 := by
  refine k_met (by decide) rfl (Nat.le_of_ble_eq_true rfl) (fun p e s m args below meth c ls hc hN hnm hr hw hl => ?_)
  have hx := hc.hx
  have hb := hc.hb
  have hlen : ([.null, .null, .int 0, .null, .null, .null, .null, .null, .int 0, .null, .null, .null, .int 0, .int 0, .int 0, .null, .int 0] : List Value).length = 17 := rfl
  refine lv_aload_n hx hb (dq tk_Land_init_0 0 rfl) rfl (lv_at hl 0 rfl) ?_
  refine W.objInit hx hb hc.ho (hc.ht _ kw_86) (hc.ht _ kw_32) (hc.ht _ kw_obj) rfl (by show ls.size = c.maxLocals; rw [hl.1]; exact hc.1.2.2.1.symm) rfl (dq tk_Land_init_0 1 rfl) (Nat.le_of_ble_eq_true rfl) (Nat.le_of_ble_eq_true rfl) ?_
  refine W.eq (g2 := F0 m 4 ls []) rfl ?_
  refine lv_aload_n hx hb (dq tk_Land_init_0 2 rfl) rfl (lv_at hl 0 rfl) ?_
  refine lv_bipush (v := 8) hx hb (dq tk_Land_init_0 3 rfl) (by decide) ?_
  refine k_newa hc hw (t := 0) (N' := 8) (ty := .int) (a0 := (8, .inl (fun _ => 0))) rfl kw_154 rfl rfl (fun _ => rfl) (by decide) (by decide) (by decide) (Nat.le_of_ble_eq_true rfl) (Nat.le_of_ble_eq_true rfl) (dq tk_Land_init_0 4 rfl) (fun H hw => ?_)
  replace hw := hw.drop (rfl)
  refine k_put hc hnm hw (k := 0) (ty := (.array .int)) rfl inX4 tyX4_ok nmX4 (by decide) rfl hlen kw_87 rfl rfl rfl (dq tk_Land_init_0 5 rfl) (fun H locs hw hlen => ?_)
  refine lv_aload_n hx hb (dq tk_Land_init_0 6 rfl) rfl (lv_at hl 0 rfl) ?_
  refine lv_bipush (v := 8) hx hb (dq tk_Land_init_0 7 rfl) (by decide) ?_
  refine k_newa hc hw (t := 0) (N' := 8) (ty := .int) (a0 := (8, .inl (fun _ => 0))) rfl kw_154 rfl rfl (fun _ => rfl) (by decide) (by decide) (by decide) (Nat.le_of_ble_eq_true rfl) (Nat.le_of_ble_eq_true rfl) (dq tk_Land_init_0 8 rfl) (fun H hw => ?_)
  replace hw := hw.drop (rfl)
  refine k_put hc hnm hw (k := 1) (ty := (.array .int)) rfl inX4 tyX4_ok nmX4 (by decide) rfl hlen kw_88 rfl rfl rfl (dq tk_Land_init_0 9 rfl) (fun H locs hw hlen => ?_)
  refine lv_aload_n hx hb (dq tk_Land_init_0 10 rfl) rfl (lv_at hl 0 rfl) ?_
  refine lv_bipush (v := 20) hx hb (dq tk_Land_init_0 11 rfl) (by decide) ?_
  refine k_newa hc hw (t := 0) (N' := 20) (ty := .int) (a0 := (20, .inl (fun _ => 0))) rfl kw_154 rfl rfl (fun _ => rfl) (by decide) (by decide) (by decide) (Nat.le_of_ble_eq_true rfl) (Nat.le_of_ble_eq_true rfl) (dq tk_Land_init_0 12 rfl) (fun H hw => ?_)
  replace hw := hw.drop (rfl)
  refine k_put hc hnm hw (k := 3) (ty := (.array .int)) rfl inX4 tyX4_ok nmX4 (by decide) rfl hlen kw_91 rfl rfl rfl (dq tk_Land_init_0 13 rfl) (fun H locs hw hlen => ?_)
  refine lv_aload_n hx hb (dq tk_Land_init_0 14 rfl) rfl (lv_at hl 0 rfl) ?_
  refine lv_bipush (v := 20) hx hb (dq tk_Land_init_0 15 rfl) (by decide) ?_
  refine k_newa hc hw (t := 0) (N' := 20) (ty := .int) (a0 := (20, .inl (fun _ => 0))) rfl kw_154 rfl rfl (fun _ => rfl) (by decide) (by decide) (by decide) (Nat.le_of_ble_eq_true rfl) (Nat.le_of_ble_eq_true rfl) (dq tk_Land_init_0 16 rfl) (fun H hw => ?_)
  replace hw := hw.drop (rfl)
  refine k_put hc hnm hw (k := 4) (ty := (.array .int)) rfl inX4 tyX4_ok nmX4 (by decide) rfl hlen kw_95 rfl rfl rfl (dq tk_Land_init_0 17 rfl) (fun H locs hw hlen => ?_)
  refine lv_aload_n hx hb (dq tk_Land_init_0 18 rfl) rfl (lv_at hl 0 rfl) ?_
  refine lv_bipush (v := 20) hx hb (dq tk_Land_init_0 19 rfl) (by decide) ?_
  refine k_newa hc hw (t := 0) (N' := 20) (ty := .int) (a0 := (20, .inl (fun _ => 0))) rfl kw_154 rfl rfl (fun _ => rfl) (by decide) (by decide) (by decide) (Nat.le_of_ble_eq_true rfl) (Nat.le_of_ble_eq_true rfl) (dq tk_Land_init_0 20 rfl) (fun H hw => ?_)
  replace hw := hw.drop (rfl)
  refine k_put hc hnm hw (k := 5) (ty := (.array .int)) rfl inX4 tyX4_ok nmX4 (by decide) rfl hlen kw_97 rfl rfl rfl (dq tk_Land_init_0 21 rfl) (fun H locs hw hlen => ?_)
  refine lv_aload_n hx hb (dq tk_Land_init_0 22 rfl) rfl (lv_at hl 0 rfl) ?_
  refine lv_bipush (v := 20) hx hb (dq tk_Land_init_0 23 rfl) (by decide) ?_
  refine k_newa hc hw (t := 0) (N' := 20) (ty := .int) (a0 := (20, .inl (fun _ => 0))) rfl kw_154 rfl rfl (fun _ => rfl) (by decide) (by decide) (by decide) (Nat.le_of_ble_eq_true rfl) (Nat.le_of_ble_eq_true rfl) (dq tk_Land_init_0 24 rfl) (fun H hw => ?_)
  replace hw := hw.drop (rfl)
  refine k_put hc hnm hw (k := 6) (ty := (.array .int)) rfl inX4 tyX4_ok nmX4 (by decide) rfl hlen kw_99 rfl rfl rfl (dq tk_Land_init_0 25 rfl) (fun H locs hw hlen => ?_)
  refine lv_aload_n hx hb (dq tk_Land_init_0 26 rfl) rfl (lv_at hl 0 rfl) ?_
  refine lv_bipush (v := 20) hx hb (dq tk_Land_init_0 27 rfl) (by decide) ?_
  refine k_newa hc hw (t := 0) (N' := 20) (ty := .int) (a0 := (20, .inl (fun _ => 0))) rfl kw_154 rfl rfl (fun _ => rfl) (by decide) (by decide) (by decide) (Nat.le_of_ble_eq_true rfl) (Nat.le_of_ble_eq_true rfl) (dq tk_Land_init_0 28 rfl) (fun H hw => ?_)
  replace hw := hw.drop (rfl)
  refine k_put hc hnm hw (k := 7) (ty := (.array .int)) rfl inX4 tyX4_ok nmX4 (by decide) rfl hlen kw_101 rfl rfl rfl (dq tk_Land_init_0 29 rfl) (fun H locs hw hlen => ?_)
  refine lv_aload_n hx hb (dq tk_Land_init_0 30 rfl) rfl (lv_at hl 0 rfl) ?_
  refine lv_bipush (v := 20) hx hb (dq tk_Land_init_0 31 rfl) (by decide) ?_
  refine k_newa hc hw (t := 0) (N' := 20) (ty := .int) (a0 := (20, .inl (fun _ => 0))) rfl kw_154 rfl rfl (fun _ => rfl) (by decide) (by decide) (by decide) (Nat.le_of_ble_eq_true rfl) (Nat.le_of_ble_eq_true rfl) (dq tk_Land_init_0 32 rfl) (fun H hw => ?_)
  replace hw := hw.drop (rfl)
  refine k_put hc hnm hw (k := 9) (ty := (.array .int)) rfl inX4 tyX4_ok nmX4 (by decide) rfl hlen kw_105 rfl rfl rfl (dq tk_Land_init_0 33 rfl) (fun H locs hw hlen => ?_)
  refine lv_aload_n hx hb (dq tk_Land_init_0 34 rfl) rfl (lv_at hl 0 rfl) ?_
  refine lv_bipush (v := 20) hx hb (dq tk_Land_init_0 35 rfl) (by decide) ?_
  refine k_newa hc hw (t := 0) (N' := 20) (ty := .int) (a0 := (20, .inl (fun _ => 0))) rfl kw_154 rfl rfl (fun _ => rfl) (by decide) (by decide) (by decide) (Nat.le_of_ble_eq_true rfl) (Nat.le_of_ble_eq_true rfl) (dq tk_Land_init_0 36 rfl) (fun H hw => ?_)
  replace hw := hw.drop (rfl)
  refine k_put hc hnm hw (k := 10) (ty := (.array .int)) rfl inX4 tyX4_ok nmX4 (by decide) rfl hlen kw_107 rfl rfl rfl (dq tk_Land_init_0 37 rfl) (fun H locs hw hlen => ?_)
  refine lv_aload_n hx hb (dq tk_Land_init_0 38 rfl) rfl (lv_at hl 0 rfl) ?_
  refine lv_bipush (v := 20) hx hb (dq tk_Land_init_0 39 rfl) (by decide) ?_
  refine k_newa hc hw (t := 0) (N' := 20) (ty := .int) (a0 := (20, .inl (fun _ => 0))) rfl kw_154 rfl rfl (fun _ => rfl) (by decide) (by decide) (by decide) (Nat.le_of_ble_eq_true rfl) (Nat.le_of_ble_eq_true rfl) (dq tk_Land_init_0 40 rfl) (fun H hw => ?_)
  replace hw := hw.drop (rfl)
  refine k_put hc hnm hw (k := 11) (ty := (.array .int)) rfl inX4 tyX4_ok nmX4 (by decide) rfl hlen kw_109 rfl rfl rfl (dq tk_Land_init_0 41 rfl) (fun H locs hw hlen => ?_)
  refine lv_aload_n hx hb (dq tk_Land_init_0 42 rfl) rfl (lv_at hl 0 rfl) ?_
  refine lv_sipush (v := 10000) hx hb (dq tk_Land_init_0 43 rfl) (by decide) ?_
  refine k_put hc hnm hw (k := 12) (ty := .int) rfl inX4 tyX4_ok nmX4 (by decide) rfl hlen kw_111 rfl rfl rfl (dq tk_Land_init_0 44 rfl) (fun H locs hw hlen => ?_)
  refine lv_aload_n hx hb (dq tk_Land_init_0 45 rfl) rfl (lv_at hl 0 rfl) ?_
  refine lv_iconst (v := 4) hx hb (dq tk_Land_init_0 46 rfl) (by decide) ?_
  refine k_newa hc hw (t := 0) (N' := 4) (ty := .int) (a0 := (4, .inl (fun _ => 0))) rfl kw_154 rfl rfl (fun _ => rfl) (by decide) (by decide) (by decide) (Nat.le_of_ble_eq_true rfl) (Nat.le_of_ble_eq_true rfl) (dq tk_Land_init_0 47 rfl) (fun H hw => ?_)
  replace hw := hw.drop (rfl)
  refine k_put hc hnm hw (k := 15) (ty := (.array .int)) rfl inX4 tyX4_ok nmX4 (by decide) rfl hlen kw_117 rfl rfl rfl (dq tk_Land_init_0 48 rfl) (fun H locs hw hlen => ?_)
  replace hw := hw.drop (rfl)
  exact k_end hc hw hr (dq tk_Land_init_0 49 rfl)
set_option maxHeartbeats 8000000 in
set_option maxRecDepth 20000 in
theorem c0_Books : Ck l Z y_Books_init prog_3_method_1_code 1 { frames := 1, cells := 9, slots := 3760, locals := 60 } [] τ0 15 1 [.null, .null, .null, .null, .null, .int 0, .null, .null, .null, .null, .int 0] 10 := by
  refine k_met (by decide) rfl (Nat.le_of_ble_eq_true rfl) (fun p e s m args below meth c ls hc hN hnm hr hw hl => ?_)
  have hx := hc.hx
  have hb := hc.hb
  have hlen : ([.null, .null, .null, .null, .null, .int 0, .null, .null, .null, .null, .int 0] : List Value).length = 11 := rfl
  refine lv_aload_n hx hb (dq tk_Books_init_0 0 rfl) rfl (lv_at hl 0 rfl) ?_
  refine W.objInit hx hb hc.ho (hc.ht _ kw_160) (hc.ht _ kw_32) (hc.ht _ kw_obj) rfl (by show ls.size = c.maxLocals; rw [hl.1]; exact hc.1.2.2.1.symm) rfl (dq tk_Books_init_0 1 rfl) (Nat.le_of_ble_eq_true rfl) (Nat.le_of_ble_eq_true rfl) ?_
  refine W.eq (g2 := F0 m 4 ls []) rfl ?_
  refine lv_aload_n hx hb (dq tk_Books_init_0 2 rfl) rfl (lv_at hl 0 rfl) ?_
  refine lv_sipush (v := 3120) hx hb (dq tk_Books_init_0 3 rfl) (by decide) ?_
  refine k_newa hc hw (t := 1) (N' := 3120) (ty := .byte) (a0 := (3120, .inl (fun _ => 0))) rfl kw_80 rfl rfl (fun _ => rfl) (by decide) (by decide) (by decide) (Nat.le_of_ble_eq_true rfl) (Nat.le_of_ble_eq_true rfl) (dq tk_Books_init_0 4 rfl) (fun H hw => ?_)
  replace hw := hw.drop (rfl)
  refine k_put hc hnm hw (k := 0) (ty := (.array .byte)) rfl inX1 tyX1_ok nmX1 (by decide) rfl hlen kw_161 rfl rfl rfl (dq tk_Books_init_0 5 rfl) (fun H locs hw hlen => ?_)
  refine lv_aload_n hx hb (dq tk_Books_init_0 6 rfl) rfl (lv_at hl 0 rfl) ?_
  refine lv_bipush (v := 60) hx hb (dq tk_Books_init_0 7 rfl) (by decide) ?_
  refine k_newa hc hw (t := 0) (N' := 60) (ty := .int) (a0 := (60, .inl (fun _ => 0))) rfl kw_154 rfl rfl (fun _ => rfl) (by decide) (by decide) (by decide) (Nat.le_of_ble_eq_true rfl) (Nat.le_of_ble_eq_true rfl) (dq tk_Books_init_0 8 rfl) (fun H hw => ?_)
  replace hw := hw.drop (rfl)
  refine k_put hc hnm hw (k := 1) (ty := (.array .int)) rfl inX1 tyX1_ok nmX1 (by decide) rfl hlen kw_162 rfl rfl rfl (dq tk_Books_init_0 9 rfl) (fun H locs hw hlen => ?_)
  refine lv_aload_n hx hb (dq tk_Books_init_0 10 rfl) rfl (lv_at hl 0 rfl) ?_
  refine lv_bipush (v := 60) hx hb (dq tk_Books_init_0 11 rfl) (by decide) ?_
  refine k_newa hc hw (t := 0) (N' := 60) (ty := .int) (a0 := (60, .inl (fun _ => 0))) rfl kw_154 rfl rfl (fun _ => rfl) (by decide) (by decide) (by decide) (Nat.le_of_ble_eq_true rfl) (Nat.le_of_ble_eq_true rfl) (dq tk_Books_init_0 12 rfl) (fun H hw => ?_)
  replace hw := hw.drop (rfl)
  refine k_put hc hnm hw (k := 2) (ty := (.array .int)) rfl inX1 tyX1_ok nmX1 (by decide) rfl hlen kw_163 rfl rfl rfl (dq tk_Books_init_0 13 rfl) (fun H locs hw hlen => ?_)
  refine lv_aload_n hx hb (dq tk_Books_init_0 14 rfl) rfl (lv_at hl 0 rfl) ?_
  refine lv_bipush (v := 60) hx hb (dq tk_Books_init_0 15 rfl) (by decide) ?_
  refine k_newa hc hw (t := 0) (N' := 60) (ty := .int) (a0 := (60, .inl (fun _ => 0))) rfl kw_154 rfl rfl (fun _ => rfl) (by decide) (by decide) (by decide) (Nat.le_of_ble_eq_true rfl) (Nat.le_of_ble_eq_true rfl) (dq tk_Books_init_0 16 rfl) (fun H hw => ?_)
  replace hw := hw.drop (rfl)
  refine k_put hc hnm hw (k := 3) (ty := (.array .int)) rfl inX1 tyX1_ok nmX1 (by decide) rfl hlen kw_164 rfl rfl rfl (dq tk_Books_init_0 17 rfl) (fun H locs hw hlen => ?_)
  refine lv_aload_n hx hb (dq tk_Books_init_0 18 rfl) rfl (lv_at hl 0 rfl) ?_
  refine lv_bipush (v := 60) hx hb (dq tk_Books_init_0 19 rfl) (by decide) ?_
  refine k_newa hc hw (t := 0) (N' := 60) (ty := .int) (a0 := (60, .inl (fun _ => 0))) rfl kw_154 rfl rfl (fun _ => rfl) (by decide) (by decide) (by decide) (Nat.le_of_ble_eq_true rfl) (Nat.le_of_ble_eq_true rfl) (dq tk_Books_init_0 20 rfl) (fun H hw => ?_)
  replace hw := hw.drop (rfl)
  refine k_put hc hnm hw (k := 4) (ty := (.array .int)) rfl inX1 tyX1_ok nmX1 (by decide) rfl hlen kw_165 rfl rfl rfl (dq tk_Books_init_0 21 rfl) (fun H locs hw hlen => ?_)
  refine lv_aload_n hx hb (dq tk_Books_init_0 22 rfl) rfl (lv_at hl 0 rfl) ?_
  refine lv_bipush (v := 100) hx hb (dq tk_Books_init_0 23 rfl) (by decide) ?_
  refine k_newa hc hw (t := 0) (N' := 100) (ty := .int) (a0 := (100, .inl (fun _ => 0))) rfl kw_154 rfl rfl (fun _ => rfl) (by decide) (by decide) (by decide) (Nat.le_of_ble_eq_true rfl) (Nat.le_of_ble_eq_true rfl) (dq tk_Books_init_0 24 rfl) (fun H hw => ?_)
  replace hw := hw.drop (rfl)
  refine k_put hc hnm hw (k := 6) (ty := (.array .int)) rfl inX1 tyX1_ok nmX1 (by decide) rfl hlen kw_168 rfl rfl rfl (dq tk_Books_init_0 25 rfl) (fun H locs hw hlen => ?_)
  refine lv_aload_n hx hb (dq tk_Books_init_0 26 rfl) rfl (lv_at hl 0 rfl) ?_
  refine lv_bipush (v := 100) hx hb (dq tk_Books_init_0 27 rfl) (by decide) ?_
  refine k_newa hc hw (t := 0) (N' := 100) (ty := .int) (a0 := (100, .inl (fun _ => 0))) rfl kw_154 rfl rfl (fun _ => rfl) (by decide) (by decide) (by decide) (Nat.le_of_ble_eq_true rfl) (Nat.le_of_ble_eq_true rfl) (dq tk_Books_init_0 28 rfl) (fun H hw => ?_)
  replace hw := hw.drop (rfl)
  refine k_put hc hnm hw (k := 7) (ty := (.array .int)) rfl inX1 tyX1_ok nmX1 (by decide) rfl hlen kw_169 rfl rfl rfl (dq tk_Books_init_0 29 rfl) (fun H locs hw hlen => ?_)
  refine lv_aload_n hx hb (dq tk_Books_init_0 30 rfl) rfl (lv_at hl 0 rfl) ?_
  refine lv_bipush (v := 100) hx hb (dq tk_Books_init_0 31 rfl) (by decide) ?_
  refine k_newa hc hw (t := 0) (N' := 100) (ty := .int) (a0 := (100, .inl (fun _ => 0))) rfl kw_154 rfl rfl (fun _ => rfl) (by decide) (by decide) (by decide) (Nat.le_of_ble_eq_true rfl) (Nat.le_of_ble_eq_true rfl) (dq tk_Books_init_0 32 rfl) (fun H hw => ?_)
  replace hw := hw.drop (rfl)
  refine k_put hc hnm hw (k := 8) (ty := (.array .int)) rfl inX1 tyX1_ok nmX1 (by decide) rfl hlen kw_170 rfl rfl rfl (dq tk_Books_init_0 33 rfl) (fun H locs hw hlen => ?_)
  refine lv_aload_n hx hb (dq tk_Books_init_0 34 rfl) rfl (lv_at hl 0 rfl) ?_
  refine lv_bipush (v := 100) hx hb (dq tk_Books_init_0 35 rfl) (by decide) ?_
  refine k_newa hc hw (t := 0) (N' := 100) (ty := .int) (a0 := (100, .inl (fun _ => 0))) rfl kw_154 rfl rfl (fun _ => rfl) (by decide) (by decide) (by decide) (Nat.le_of_ble_eq_true rfl) (Nat.le_of_ble_eq_true rfl) (dq tk_Books_init_0 36 rfl) (fun H hw => ?_)
  replace hw := hw.drop (rfl)
  refine k_put hc hnm hw (k := 9) (ty := (.array .int)) rfl inX1 tyX1_ok nmX1 (by decide) rfl hlen kw_171 rfl rfl rfl (dq tk_Books_init_0 37 rfl) (fun H locs hw hlen => ?_)
  replace hw := hw.drop (rfl)
  exact k_end hc hw hr (dq tk_Books_init_0 38 rfl)
set_option maxHeartbeats 8000000 in
set_option maxRecDepth 20000 in
theorem c0_Events : Ck l Z y_Events_init prog_5_method_1_code 1 { frames := 1, cells := 6, slots := 960, locals := 60 } [] τ0 25 3 [.null, .null, .null, .null, .null, .null, .int 0] 7 := by
  refine k_met (by decide) rfl (Nat.le_of_ble_eq_true rfl) (fun p e s m args below meth c ls hc hN hnm hr hw hl => ?_)
  have hx := hc.hx
  have hb := hc.hb
  have hlen : ([.null, .null, .null, .null, .null, .null, .int 0] : List Value).length = 7 := rfl
  refine lv_aload_n hx hb (dq tk_Events_init_0 0 rfl) rfl (lv_at hl 0 rfl) ?_
  refine W.objInit hx hb hc.ho (hc.ht _ kw_202) (hc.ht _ kw_32) (hc.ht _ kw_obj) rfl (by show ls.size = c.maxLocals; rw [hl.1]; exact hc.1.2.2.1.symm) rfl (dq tk_Events_init_0 1 rfl) (Nat.le_of_ble_eq_true rfl) (Nat.le_of_ble_eq_true rfl) ?_
  refine W.eq (g2 := F0 m 4 ls []) rfl ?_
  refine lv_aload_n hx hb (dq tk_Events_init_0 2 rfl) rfl (lv_at hl 0 rfl) ?_
  refine lv_sipush (v := 160) hx hb (dq tk_Events_init_0 3 rfl) (by decide) ?_
  refine k_newa hc hw (t := 0) (N' := 160) (ty := .int) (a0 := (160, .inl (fun _ => 0))) rfl kw_154 rfl rfl (fun _ => rfl) (by decide) (by decide) (by decide) (Nat.le_of_ble_eq_true rfl) (Nat.le_of_ble_eq_true rfl) (dq tk_Events_init_0 4 rfl) (fun H hw => ?_)
  replace hw := hw.drop (rfl)
  refine k_put hc hnm hw (k := 0) (ty := (.array .int)) rfl inX3 tyX3_ok nmX3 (by decide) rfl hlen kw_203 rfl rfl rfl (dq tk_Events_init_0 5 rfl) (fun H locs hw hlen => ?_)
  refine lv_aload_n hx hb (dq tk_Events_init_0 6 rfl) rfl (lv_at hl 0 rfl) ?_
  refine lv_sipush (v := 160) hx hb (dq tk_Events_init_0 7 rfl) (by decide) ?_
  refine k_newa hc hw (t := 0) (N' := 160) (ty := .int) (a0 := (160, .inl (fun _ => 0))) rfl kw_154 rfl rfl (fun _ => rfl) (by decide) (by decide) (by decide) (Nat.le_of_ble_eq_true rfl) (Nat.le_of_ble_eq_true rfl) (dq tk_Events_init_0 8 rfl) (fun H hw => ?_)
  replace hw := hw.drop (rfl)
  refine k_put hc hnm hw (k := 1) (ty := (.array .int)) rfl inX3 tyX3_ok nmX3 (by decide) rfl hlen kw_206 rfl rfl rfl (dq tk_Events_init_0 9 rfl) (fun H locs hw hlen => ?_)
  refine lv_aload_n hx hb (dq tk_Events_init_0 10 rfl) rfl (lv_at hl 0 rfl) ?_
  refine lv_sipush (v := 160) hx hb (dq tk_Events_init_0 11 rfl) (by decide) ?_
  refine k_newa hc hw (t := 0) (N' := 160) (ty := .int) (a0 := (160, .inl (fun _ => 0))) rfl kw_154 rfl rfl (fun _ => rfl) (by decide) (by decide) (by decide) (Nat.le_of_ble_eq_true rfl) (Nat.le_of_ble_eq_true rfl) (dq tk_Events_init_0 12 rfl) (fun H hw => ?_)
  replace hw := hw.drop (rfl)
  refine k_put hc hnm hw (k := 2) (ty := (.array .int)) rfl inX3 tyX3_ok nmX3 (by decide) rfl hlen kw_209 rfl rfl rfl (dq tk_Events_init_0 13 rfl) (fun H locs hw hlen => ?_)
  refine lv_aload_n hx hb (dq tk_Events_init_0 14 rfl) rfl (lv_at hl 0 rfl) ?_
  refine lv_sipush (v := 160) hx hb (dq tk_Events_init_0 15 rfl) (by decide) ?_
  refine k_newa hc hw (t := 0) (N' := 160) (ty := .int) (a0 := (160, .inl (fun _ => 0))) rfl kw_154 rfl rfl (fun _ => rfl) (by decide) (by decide) (by decide) (Nat.le_of_ble_eq_true rfl) (Nat.le_of_ble_eq_true rfl) (dq tk_Events_init_0 16 rfl) (fun H hw => ?_)
  replace hw := hw.drop (rfl)
  refine k_put hc hnm hw (k := 3) (ty := (.array .int)) rfl inX3 tyX3_ok nmX3 (by decide) rfl hlen kw_212 rfl rfl rfl (dq tk_Events_init_0 17 rfl) (fun H locs hw hlen => ?_)
  refine lv_aload_n hx hb (dq tk_Events_init_0 18 rfl) rfl (lv_at hl 0 rfl) ?_
  refine lv_sipush (v := 160) hx hb (dq tk_Events_init_0 19 rfl) (by decide) ?_
  refine k_newa hc hw (t := 0) (N' := 160) (ty := .int) (a0 := (160, .inl (fun _ => 0))) rfl kw_154 rfl rfl (fun _ => rfl) (by decide) (by decide) (by decide) (Nat.le_of_ble_eq_true rfl) (Nat.le_of_ble_eq_true rfl) (dq tk_Events_init_0 20 rfl) (fun H hw => ?_)
  replace hw := hw.drop (rfl)
  refine k_put hc hnm hw (k := 4) (ty := (.array .int)) rfl inX3 tyX3_ok nmX3 (by decide) rfl hlen kw_215 rfl rfl rfl (dq tk_Events_init_0 21 rfl) (fun H locs hw hlen => ?_)
  refine lv_aload_n hx hb (dq tk_Events_init_0 22 rfl) rfl (lv_at hl 0 rfl) ?_
  refine lv_sipush (v := 160) hx hb (dq tk_Events_init_0 23 rfl) (by decide) ?_
  refine k_newa hc hw (t := 0) (N' := 160) (ty := .int) (a0 := (160, .inl (fun _ => 0))) rfl kw_154 rfl rfl (fun _ => rfl) (by decide) (by decide) (by decide) (Nat.le_of_ble_eq_true rfl) (Nat.le_of_ble_eq_true rfl) (dq tk_Events_init_0 24 rfl) (fun H hw => ?_)
  replace hw := hw.drop (rfl)
  refine k_put hc hnm hw (k := 5) (ty := (.array .int)) rfl inX3 tyX3_ok nmX3 (by decide) rfl hlen kw_217 rfl rfl rfl (dq tk_Events_init_0 25 rfl) (fun H locs hw hlen => ?_)
  replace hw := hw.drop (rfl)
  exact k_end hc hw hr (dq tk_Events_init_0 26 rfl)
set_option maxHeartbeats 8000000 in
set_option maxRecDepth 20000 in
theorem c0_Market : Ck l Z y_Market_init prog_9_method_1_code 2 { frames := 1, cells := 12, slots := 428, locals := 60 } [.ref (Z.1 + 3)] τ0 33 7 [.null, .null, .null, .null, .null, .null, .null, .int 0, .null, .null, .null, .null, .int 0, .null, .null] 13 := by
  refine k_met (by decide) rfl (Nat.le_of_ble_eq_true rfl) (fun p e s m args below meth c ls hc hN hnm hr hw hl => ?_)
  have hx := hc.hx
  have hb := hc.hb
  have hlen : ([.null, .null, .null, .null, .null, .null, .null, .int 0, .null, .null, .null, .null, .int 0, .null, .null] : List Value).length = 15 := rfl
  refine lv_aload_n hx hb (dq tk_Market_init_0 0 rfl) rfl (lv_at hl 0 rfl) ?_
  refine W.objInit hx hb hc.ho (hc.ht _ kw_244) (hc.ht _ kw_32) (hc.ht _ kw_obj) rfl (by show ls.size = c.maxLocals; rw [hl.1]; exact hc.1.2.2.1.symm) rfl (dq tk_Market_init_0 1 rfl) (Nat.le_of_ble_eq_true rfl) (Nat.le_of_ble_eq_true rfl) ?_
  refine W.eq (g2 := F0 m 4 ls []) rfl ?_
  refine lv_aload_n hx hb (dq tk_Market_init_0 2 rfl) rfl (lv_at hl 0 rfl) ?_
  refine lv_bipush (v := 24) hx hb (dq tk_Market_init_0 3 rfl) (by decide) ?_
  refine k_newa hc hw (t := 0) (N' := 24) (ty := .int) (a0 := (24, .inl (fun _ => 0))) rfl kw_154 rfl rfl (fun _ => rfl) (by decide) (by decide) (by decide) (Nat.le_of_ble_eq_true rfl) (Nat.le_of_ble_eq_true rfl) (dq tk_Market_init_0 4 rfl) (fun H hw => ?_)
  replace hw := hw.drop (rfl)
  refine k_put hc hnm hw (k := 1) (ty := (.array .int)) rfl inX7 tyX7_ok nmX7 (by decide) rfl hlen kw_246 rfl rfl rfl (dq tk_Market_init_0 5 rfl) (fun H locs hw hlen => ?_)
  refine lv_aload_n hx hb (dq tk_Market_init_0 6 rfl) rfl (lv_at hl 0 rfl) ?_
  refine lv_bipush (v := 24) hx hb (dq tk_Market_init_0 7 rfl) (by decide) ?_
  refine k_newa hc hw (t := 0) (N' := 24) (ty := .int) (a0 := (24, .inl (fun _ => 0))) rfl kw_154 rfl rfl (fun _ => rfl) (by decide) (by decide) (by decide) (Nat.le_of_ble_eq_true rfl) (Nat.le_of_ble_eq_true rfl) (dq tk_Market_init_0 8 rfl) (fun H hw => ?_)
  replace hw := hw.drop (rfl)
  refine k_put hc hnm hw (k := 2) (ty := (.array .int)) rfl inX7 tyX7_ok nmX7 (by decide) rfl hlen kw_247 rfl rfl rfl (dq tk_Market_init_0 9 rfl) (fun H locs hw hlen => ?_)
  refine lv_aload_n hx hb (dq tk_Market_init_0 10 rfl) rfl (lv_at hl 0 rfl) ?_
  refine lv_bipush (v := 24) hx hb (dq tk_Market_init_0 11 rfl) (by decide) ?_
  refine k_newa hc hw (t := 0) (N' := 24) (ty := .int) (a0 := (24, .inl (fun _ => 0))) rfl kw_154 rfl rfl (fun _ => rfl) (by decide) (by decide) (by decide) (Nat.le_of_ble_eq_true rfl) (Nat.le_of_ble_eq_true rfl) (dq tk_Market_init_0 12 rfl) (fun H hw => ?_)
  replace hw := hw.drop (rfl)
  refine k_put hc hnm hw (k := 3) (ty := (.array .int)) rfl inX7 tyX7_ok nmX7 (by decide) rfl hlen kw_248 rfl rfl rfl (dq tk_Market_init_0 13 rfl) (fun H locs hw hlen => ?_)
  refine lv_aload_n hx hb (dq tk_Market_init_0 14 rfl) rfl (lv_at hl 0 rfl) ?_
  refine lv_bipush (v := 24) hx hb (dq tk_Market_init_0 15 rfl) (by decide) ?_
  refine k_newa hc hw (t := 0) (N' := 24) (ty := .int) (a0 := (24, .inl (fun _ => 0))) rfl kw_154 rfl rfl (fun _ => rfl) (by decide) (by decide) (by decide) (Nat.le_of_ble_eq_true rfl) (Nat.le_of_ble_eq_true rfl) (dq tk_Market_init_0 16 rfl) (fun H hw => ?_)
  replace hw := hw.drop (rfl)
  refine k_put hc hnm hw (k := 4) (ty := (.array .int)) rfl inX7 tyX7_ok nmX7 (by decide) rfl hlen kw_250 rfl rfl rfl (dq tk_Market_init_0 17 rfl) (fun H locs hw hlen => ?_)
  refine lv_aload_n hx hb (dq tk_Market_init_0 18 rfl) rfl (lv_at hl 0 rfl) ?_
  refine lv_bipush (v := 24) hx hb (dq tk_Market_init_0 19 rfl) (by decide) ?_
  refine k_newa hc hw (t := 0) (N' := 24) (ty := .int) (a0 := (24, .inl (fun _ => 0))) rfl kw_154 rfl rfl (fun _ => rfl) (by decide) (by decide) (by decide) (Nat.le_of_ble_eq_true rfl) (Nat.le_of_ble_eq_true rfl) (dq tk_Market_init_0 20 rfl) (fun H hw => ?_)
  replace hw := hw.drop (rfl)
  refine k_put hc hnm hw (k := 5) (ty := (.array .int)) rfl inX7 tyX7_ok nmX7 (by decide) rfl hlen kw_251 rfl rfl rfl (dq tk_Market_init_0 21 rfl) (fun H locs hw hlen => ?_)
  refine lv_aload_n hx hb (dq tk_Market_init_0 22 rfl) rfl (lv_at hl 0 rfl) ?_
  refine lv_bipush (v := 24) hx hb (dq tk_Market_init_0 23 rfl) (by decide) ?_
  refine k_newa hc hw (t := 2) (N' := 24) (ty := .boolean) (a0 := (24, .inl (fun _ => 0))) rfl kw_302 rfl rfl (fun _ => rfl) (by decide) (by decide) (by decide) (Nat.le_of_ble_eq_true rfl) (Nat.le_of_ble_eq_true rfl) (dq tk_Market_init_0 24 rfl) (fun H hw => ?_)
  replace hw := hw.drop (rfl)
  refine k_put hc hnm hw (k := 6) (ty := (.array .boolean)) rfl inX7 tyX7_ok nmX7 (by decide) rfl hlen kw_252 rfl rfl rfl (dq tk_Market_init_0 25 rfl) (fun H locs hw hlen => ?_)
  refine lv_aload_n hx hb (dq tk_Market_init_0 26 rfl) rfl (lv_at hl 0 rfl) ?_
  refine lv_bipush (v := 60) hx hb (dq tk_Market_init_0 27 rfl) (by decide) ?_
  refine k_newa hc hw (t := 0) (N' := 60) (ty := .int) (a0 := (60, .inl (fun _ => 0))) rfl kw_154 rfl rfl (fun _ => rfl) (by decide) (by decide) (by decide) (Nat.le_of_ble_eq_true rfl) (Nat.le_of_ble_eq_true rfl) (dq tk_Market_init_0 28 rfl) (fun H hw => ?_)
  replace hw := hw.drop (rfl)
  refine k_put hc hnm hw (k := 8) (ty := (.array .int)) rfl inX7 tyX7_ok nmX7 (by decide) rfl hlen kw_256 rfl rfl rfl (dq tk_Market_init_0 29 rfl) (fun H locs hw hlen => ?_)
  refine lv_aload_n hx hb (dq tk_Market_init_0 30 rfl) rfl (lv_at hl 0 rfl) ?_
  refine lv_bipush (v := 60) hx hb (dq tk_Market_init_0 31 rfl) (by decide) ?_
  refine k_newa hc hw (t := 0) (N' := 60) (ty := .int) (a0 := (60, .inl (fun _ => 0))) rfl kw_154 rfl rfl (fun _ => rfl) (by decide) (by decide) (by decide) (Nat.le_of_ble_eq_true rfl) (Nat.le_of_ble_eq_true rfl) (dq tk_Market_init_0 32 rfl) (fun H hw => ?_)
  replace hw := hw.drop (rfl)
  refine k_put hc hnm hw (k := 9) (ty := (.array .int)) rfl inX7 tyX7_ok nmX7 (by decide) rfl hlen kw_258 rfl rfl rfl (dq tk_Market_init_0 33 rfl) (fun H locs hw hlen => ?_)
  refine lv_aload_n hx hb (dq tk_Market_init_0 34 rfl) rfl (lv_at hl 0 rfl) ?_
  refine lv_bipush (v := 60) hx hb (dq tk_Market_init_0 35 rfl) (by decide) ?_
  refine k_newa hc hw (t := 0) (N' := 60) (ty := .int) (a0 := (60, .inl (fun _ => 0))) rfl kw_154 rfl rfl (fun _ => rfl) (by decide) (by decide) (by decide) (Nat.le_of_ble_eq_true rfl) (Nat.le_of_ble_eq_true rfl) (dq tk_Market_init_0 36 rfl) (fun H hw => ?_)
  replace hw := hw.drop (rfl)
  refine k_put hc hnm hw (k := 10) (ty := (.array .int)) rfl inX7 tyX7_ok nmX7 (by decide) rfl hlen kw_261 rfl rfl rfl (dq tk_Market_init_0 37 rfl) (fun H locs hw hlen => ?_)
  refine lv_aload_n hx hb (dq tk_Market_init_0 38 rfl) rfl (lv_at hl 0 rfl) ?_
  refine lv_bipush (v := 60) hx hb (dq tk_Market_init_0 39 rfl) (by decide) ?_
  refine k_newa hc hw (t := 0) (N' := 60) (ty := .int) (a0 := (60, .inl (fun _ => 0))) rfl kw_154 rfl rfl (fun _ => rfl) (by decide) (by decide) (by decide) (Nat.le_of_ble_eq_true rfl) (Nat.le_of_ble_eq_true rfl) (dq tk_Market_init_0 40 rfl) (fun H hw => ?_)
  replace hw := hw.drop (rfl)
  refine k_put hc hnm hw (k := 11) (ty := (.array .int)) rfl inX7 tyX7_ok nmX7 (by decide) rfl hlen kw_263 rfl rfl rfl (dq tk_Market_init_0 41 rfl) (fun H locs hw hlen => ?_)
  refine lv_aload_n hx hb (dq tk_Market_init_0 42 rfl) rfl (lv_at hl 0 rfl) ?_
  refine lv_bipush (v := 20) hx hb (dq tk_Market_init_0 43 rfl) (by decide) ?_
  refine k_newa hc hw (t := 0) (N' := 20) (ty := .int) (a0 := (20, .inl (fun _ => 0))) rfl kw_154 rfl rfl (fun _ => rfl) (by decide) (by decide) (by decide) (Nat.le_of_ble_eq_true rfl) (Nat.le_of_ble_eq_true rfl) (dq tk_Market_init_0 44 rfl) (fun H hw => ?_)
  replace hw := hw.drop (rfl)
  refine k_put hc hnm hw (k := 13) (ty := (.array .int)) rfl inX7 tyX7_ok nmX7 (by decide) rfl hlen kw_267 rfl rfl rfl (dq tk_Market_init_0 45 rfl) (fun H locs hw hlen => ?_)
  refine lv_aload_n hx hb (dq tk_Market_init_0 46 rfl) rfl (lv_at hl 0 rfl) ?_
  refine lv_bipush (v := 24) hx hb (dq tk_Market_init_0 47 rfl) (by decide) ?_
  refine k_newa hc hw (t := 0) (N' := 24) (ty := .int) (a0 := (24, .inl (fun _ => 0))) rfl kw_154 rfl rfl (fun _ => rfl) (by decide) (by decide) (by decide) (Nat.le_of_ble_eq_true rfl) (Nat.le_of_ble_eq_true rfl) (dq tk_Market_init_0 48 rfl) (fun H hw => ?_)
  replace hw := hw.drop (rfl)
  refine k_put hc hnm hw (k := 14) (ty := (.array .int)) rfl inX7 tyX7_ok nmX7 (by decide) rfl hlen kw_269 rfl rfl rfl (dq tk_Market_init_0 49 rfl) (fun H locs hw hlen => ?_)
  refine lv_aload_n hx hb (dq tk_Market_init_0 50 rfl) rfl (lv_at hl 0 rfl) ?_
  refine lv_aload_n hx hb (dq tk_Market_init_0 51 rfl) rfl (lv_at hl 1 rfl) ?_
  refine k_put hc hnm hw (k := 0) (ty := (.object "LabourExchange$Land")) rfl inX7 tyX7_ok nmX7 (by decide) rfl hlen kw_245 rfl rfl rfl (dq tk_Market_init_0 52 rfl) (fun H locs hw hlen => ?_)
  replace hw := hw.drop (rfl)
  exact k_end hc hw hr (dq tk_Market_init_0 53 rfl)
set_option maxHeartbeats 8000000 in
set_option maxRecDepth 20000 in
theorem c0_Sending : Ck l Z y_Sending_init prog_11_method_1_code 1 { frames := 2, cells := 33, slots := 969, locals := 120 } [] τ0 46 9 [.null, .null, .null, .null, .int 0, .int 0, .int 0, .null, .null, .null, .null, .null, .null, .null, .null, .null] 34 := by
  refine k_met (by decide) rfl (Nat.le_of_ble_eq_true rfl) (fun p e s m args below meth c ls hc hN hnm hr hw hl => ?_)
  have hx := hc.hx
  have hb := hc.hb
  have hlen : ([.null, .null, .null, .null, .int 0, .int 0, .int 0, .null, .null, .null, .null, .null, .null, .null, .null, .null] : List Value).length = 16 := rfl
  refine lv_aload_n hx hb (dq tk_Sending_init_0 0 rfl) rfl (lv_at hl 0 rfl) ?_
  refine W.objInit hx hb hc.ho (hc.ht _ kw_308) (hc.ht _ kw_32) (hc.ht _ kw_obj) rfl (by show ls.size = c.maxLocals; rw [hl.1]; exact hc.1.2.2.1.symm) rfl (dq tk_Sending_init_0 1 rfl) (Nat.le_of_ble_eq_true rfl) (Nat.le_of_ble_eq_true rfl) ?_
  refine W.eq (g2 := F0 m 4 ls []) rfl ?_
  refine lv_aload_n hx hb (dq tk_Sending_init_0 2 rfl) rfl (lv_at hl 0 rfl) ?_
  refine lv_bipush (v := 20) hx hb (dq tk_Sending_init_0 3 rfl) (by decide) ?_
  refine lv_bipush (v := 24) hx hb (dq tk_Sending_init_0 4 rfl) (by decide) ?_
  refine k_mna hc hw (N' := 20) (K' := 24) kw_309 (arrayOver_any hN.2.2.2.1) kw_154 rfl rfl (by decide) (by decide) (by decide) (by decide) (by decide) (by decide) (Nat.le_of_ble_eq_true rfl) (Nat.le_of_ble_eq_true rfl) (dq tk_Sending_init_0 5 rfl) (mdesc (o := 46) (n := 1) (N := 20) (b := 0) (base := 48) rfl (by omega)) (fun j hj => by rw [show 46 + (1 + 1 + j) = 48 + 1 * j by omega, (wd_gain hj).2]; rfl) (fun H hw => ?_)
  refine k_put hc hnm hw (k := 0) (ty := (.array (.array .int))) rfl inX9 tyX9_ok nmX9 (by decide) rfl hlen kw_314 rfl rfl rfl (dq tk_Sending_init_0 6 rfl) (fun H locs hw hlen => ?_)
  refine lv_aload_n hx hb (dq tk_Sending_init_0 7 rfl) rfl (lv_at hl 0 rfl) ?_
  refine lv_bipush (v := 20) hx hb (dq tk_Sending_init_0 8 rfl) (by decide) ?_
  refine k_newa hc hw (t := 0) (N' := 20) (ty := .int) (a0 := (20, .inl (fun _ => 0))) rfl kw_154 rfl rfl (fun _ => rfl) (by decide) (by decide) (by decide) (Nat.le_of_ble_eq_true rfl) (Nat.le_of_ble_eq_true rfl) (dq tk_Sending_init_0 9 rfl) (fun H hw => ?_)
  replace hw := hw.perm (List.Perm.swap _ _ _)
  refine k_put hc hnm hw (k := 1) (ty := (.array .int)) rfl inX9 tyX9_ok nmX9 (by decide) rfl hlen kw_316 rfl rfl rfl (dq tk_Sending_init_0 10 rfl) (fun H locs hw hlen => ?_)
  refine lv_aload_n hx hb (dq tk_Sending_init_0 11 rfl) rfl (lv_at hl 0 rfl) ?_
  refine lv_bipush (v := 20) hx hb (dq tk_Sending_init_0 12 rfl) (by decide) ?_
  refine k_newa hc hw (t := 0) (N' := 20) (ty := .int) (a0 := (20, .inl (fun _ => 0))) rfl kw_154 rfl rfl (fun _ => rfl) (by decide) (by decide) (by decide) (Nat.le_of_ble_eq_true rfl) (Nat.le_of_ble_eq_true rfl) (dq tk_Sending_init_0 13 rfl) (fun H hw => ?_)
  replace hw := hw.drop (rfl)
  refine k_put hc hnm hw (k := 2) (ty := (.array .int)) rfl inX9 tyX9_ok nmX9 (by decide) rfl hlen kw_318 rfl rfl rfl (dq tk_Sending_init_0 14 rfl) (fun H locs hw hlen => ?_)
  refine lv_aload_n hx hb (dq tk_Sending_init_0 15 rfl) rfl (lv_at hl 0 rfl) ?_
  refine lv_bipush (v := 24) hx hb (dq tk_Sending_init_0 16 rfl) (by decide) ?_
  refine k_newa hc hw (t := 0) (N' := 24) (ty := .int) (a0 := (24, .inl (fun _ => 0))) rfl kw_154 rfl rfl (fun _ => rfl) (by decide) (by decide) (by decide) (Nat.le_of_ble_eq_true rfl) (Nat.le_of_ble_eq_true rfl) (dq tk_Sending_init_0 17 rfl) (fun H hw => ?_)
  replace hw := hw.drop (rfl)
  refine k_put hc hnm hw (k := 3) (ty := (.array .int)) rfl inX9 tyX9_ok nmX9 (by decide) rfl hlen kw_319 rfl rfl rfl (dq tk_Sending_init_0 18 rfl) (fun H locs hw hlen => ?_)
  refine lv_aload_n hx hb (dq tk_Sending_init_0 19 rfl) rfl (lv_at hl 0 rfl) ?_
  refine lv_bipush (v := 45) hx hb (dq tk_Sending_init_0 20 rfl) (by decide) ?_
  refine k_newa hc hw (t := 0) (N' := 45) (ty := .int) (a0 := (45, .inl (fun _ => 0))) rfl kw_154 rfl rfl (fun _ => rfl) (by decide) (by decide) (by decide) (Nat.le_of_ble_eq_true rfl) (Nat.le_of_ble_eq_true rfl) (dq tk_Sending_init_0 21 rfl) (fun H hw => ?_)
  replace hw := hw.drop (rfl)
  refine k_put hc hnm hw (k := 7) (ty := (.array .int)) rfl inX9 tyX9_ok nmX9 (by decide) rfl hlen kw_323 rfl rfl rfl (dq tk_Sending_init_0 22 rfl) (fun H locs hw hlen => ?_)
  refine lv_aload_n hx hb (dq tk_Sending_init_0 23 rfl) rfl (lv_at hl 0 rfl) ?_
  refine lv_bipush (v := 45) hx hb (dq tk_Sending_init_0 24 rfl) (by decide) ?_
  refine k_newa hc hw (t := 0) (N' := 45) (ty := .int) (a0 := (45, .inl (fun _ => 0))) rfl kw_154 rfl rfl (fun _ => rfl) (by decide) (by decide) (by decide) (Nat.le_of_ble_eq_true rfl) (Nat.le_of_ble_eq_true rfl) (dq tk_Sending_init_0 25 rfl) (fun H hw => ?_)
  replace hw := hw.drop (rfl)
  refine k_put hc hnm hw (k := 8) (ty := (.array .int)) rfl inX9 tyX9_ok nmX9 (by decide) rfl hlen kw_324 rfl rfl rfl (dq tk_Sending_init_0 26 rfl) (fun H locs hw hlen => ?_)
  refine lv_aload_n hx hb (dq tk_Sending_init_0 27 rfl) rfl (lv_at hl 0 rfl) ?_
  refine lv_bipush (v := 45) hx hb (dq tk_Sending_init_0 28 rfl) (by decide) ?_
  refine k_newa hc hw (t := 0) (N' := 45) (ty := .int) (a0 := (45, .inl (fun _ => 0))) rfl kw_154 rfl rfl (fun _ => rfl) (by decide) (by decide) (by decide) (Nat.le_of_ble_eq_true rfl) (Nat.le_of_ble_eq_true rfl) (dq tk_Sending_init_0 29 rfl) (fun H hw => ?_)
  replace hw := hw.drop (rfl)
  refine k_put hc hnm hw (k := 9) (ty := (.array .int)) rfl inX9 tyX9_ok nmX9 (by decide) rfl hlen kw_325 rfl rfl rfl (dq tk_Sending_init_0 30 rfl) (fun H locs hw hlen => ?_)
  refine lv_aload_n hx hb (dq tk_Sending_init_0 31 rfl) rfl (lv_at hl 0 rfl) ?_
  refine lv_bipush (v := 45) hx hb (dq tk_Sending_init_0 32 rfl) (by decide) ?_
  refine k_newa hc hw (t := 0) (N' := 45) (ty := .int) (a0 := (45, .inl (fun _ => 0))) rfl kw_154 rfl rfl (fun _ => rfl) (by decide) (by decide) (by decide) (Nat.le_of_ble_eq_true rfl) (Nat.le_of_ble_eq_true rfl) (dq tk_Sending_init_0 33 rfl) (fun H hw => ?_)
  replace hw := hw.drop (rfl)
  refine k_put hc hnm hw (k := 10) (ty := (.array .int)) rfl inX9 tyX9_ok nmX9 (by decide) rfl hlen kw_326 rfl rfl rfl (dq tk_Sending_init_0 34 rfl) (fun H locs hw hlen => ?_)
  refine lv_aload_n hx hb (dq tk_Sending_init_0 35 rfl) rfl (lv_at hl 0 rfl) ?_
  refine lv_bipush (v := 45) hx hb (dq tk_Sending_init_0 36 rfl) (by decide) ?_
  refine k_newa hc hw (t := 0) (N' := 45) (ty := .int) (a0 := (45, .inl (fun _ => 0))) rfl kw_154 rfl rfl (fun _ => rfl) (by decide) (by decide) (by decide) (Nat.le_of_ble_eq_true rfl) (Nat.le_of_ble_eq_true rfl) (dq tk_Sending_init_0 37 rfl) (fun H hw => ?_)
  replace hw := hw.drop (rfl)
  refine k_put hc hnm hw (k := 11) (ty := (.array .int)) rfl inX9 tyX9_ok nmX9 (by decide) rfl hlen kw_327 rfl rfl rfl (dq tk_Sending_init_0 38 rfl) (fun H locs hw hlen => ?_)
  refine lv_aload_n hx hb (dq tk_Sending_init_0 39 rfl) rfl (lv_at hl 0 rfl) ?_
  refine lv_bipush (v := 45) hx hb (dq tk_Sending_init_0 40 rfl) (by decide) ?_
  refine k_newa hc hw (t := 0) (N' := 45) (ty := .int) (a0 := (45, .inl (fun _ => 0))) rfl kw_154 rfl rfl (fun _ => rfl) (by decide) (by decide) (by decide) (Nat.le_of_ble_eq_true rfl) (Nat.le_of_ble_eq_true rfl) (dq tk_Sending_init_0 41 rfl) (fun H hw => ?_)
  replace hw := hw.drop (rfl)
  refine k_put hc hnm hw (k := 12) (ty := (.array .int)) rfl inX9 tyX9_ok nmX9 (by decide) rfl hlen kw_328 rfl rfl rfl (dq tk_Sending_init_0 42 rfl) (fun H locs hw hlen => ?_)
  refine lv_aload_n hx hb (dq tk_Sending_init_0 43 rfl) rfl (lv_at hl 0 rfl) ?_
  refine lv_bipush (v := 45) hx hb (dq tk_Sending_init_0 44 rfl) (by decide) ?_
  refine k_newa hc hw (t := 2) (N' := 45) (ty := .boolean) (a0 := (45, .inl (fun _ => 0))) rfl kw_302 rfl rfl (fun _ => rfl) (by decide) (by decide) (by decide) (Nat.le_of_ble_eq_true rfl) (Nat.le_of_ble_eq_true rfl) (dq tk_Sending_init_0 45 rfl) (fun H hw => ?_)
  replace hw := hw.drop (rfl)
  refine k_put hc hnm hw (k := 13) (ty := (.array .boolean)) rfl inX9 tyX9_ok nmX9 (by decide) rfl hlen kw_329 rfl rfl rfl (dq tk_Sending_init_0 46 rfl) (fun H locs hw hlen => ?_)
  refine lv_aload_n hx hb (dq tk_Sending_init_0 47 rfl) rfl (lv_at hl 0 rfl) ?_
  refine lv_bipush (v := 45) hx hb (dq tk_Sending_init_0 48 rfl) (by decide) ?_
  refine k_newa hc hw (t := 2) (N' := 45) (ty := .boolean) (a0 := (45, .inl (fun _ => 0))) rfl kw_302 rfl rfl (fun _ => rfl) (by decide) (by decide) (by decide) (Nat.le_of_ble_eq_true rfl) (Nat.le_of_ble_eq_true rfl) (dq tk_Sending_init_0 49 rfl) (fun H hw => ?_)
  replace hw := hw.drop (rfl)
  refine k_put hc hnm hw (k := 14) (ty := (.array .boolean)) rfl inX9 tyX9_ok nmX9 (by decide) rfl hlen kw_330 rfl rfl rfl (dq tk_Sending_init_0 50 rfl) (fun H locs hw hlen => ?_)
  refine lv_aload_n hx hb (dq tk_Sending_init_0 51 rfl) rfl (lv_at hl 0 rfl) ?_
  refine lv_bipush (v := 45) hx hb (dq tk_Sending_init_0 52 rfl) (by decide) ?_
  refine k_newa hc hw (t := 0) (N' := 45) (ty := .int) (a0 := (45, .inl (fun _ => 0))) rfl kw_154 rfl rfl (fun _ => rfl) (by decide) (by decide) (by decide) (Nat.le_of_ble_eq_true rfl) (Nat.le_of_ble_eq_true rfl) (dq tk_Sending_init_0 53 rfl) (fun H hw => ?_)
  replace hw := hw.drop (rfl)
  refine k_put hc hnm hw (k := 15) (ty := (.array .int)) rfl inX9 tyX9_ok nmX9 (by decide) rfl hlen kw_331 rfl rfl rfl (dq tk_Sending_init_0 54 rfl) (fun H locs hw hlen => ?_)
  refine lv_aload_n hx hb (dq tk_Sending_init_0 55 rfl) rfl (lv_at hl 0 rfl) ?_
  refine k_get hc hw (k := 1) (v := .ref (Z.1 + 46 + 22)) List.mem_cons_self rfl inX9 (by decide) rfl kw_316 (dq tk_Sending_init_0 56 rfl) ?_
  refine lv_iconst (v := (-1)) hx hb (dq tk_Sending_init_0 57 rfl) (by decide) ?_
  replace hw := hw.perm (List.Perm.swap _ _ _)
  refine k_fill hc (k := 20) (by decide) hw kw_311 ⟨Nat.le_of_ble_eq_true rfl, Nat.le_of_ble_eq_true rfl⟩ ⟨Nat.le_of_ble_eq_true rfl, Nat.le_of_ble_eq_true rfl⟩ hl.1 (Nat.le_of_ble_eq_true rfl) (dq tk_Sending_init_0 58 rfl) (fun H locs hw => ?_)
  replace hw := hw.drop (rfl)
  replace hw := hw.drop (rfl)
  exact k_end hc hw hr (dq tk_Sending_init_0 59 rfl)
set_option maxHeartbeats 8000000 in
set_option maxRecDepth 20000 in
theorem c0_Courts : Ck l Z y_Courts_init prog_4_method_1_code 1 { frames := 2, cells := 8, slots := 249, locals := 120 } [] τ0 80 2 [.null, .null, .int 0, .null, .null, .null, .null, .null, .null, .int 0] 9 := by
  refine k_met (by decide) rfl (Nat.le_of_ble_eq_true rfl) (fun p e s m args below meth c ls hc hN hnm hr hw hl => ?_)
  have hx := hc.hx
  have hb := hc.hb
  have hlen : ([.null, .null, .int 0, .null, .null, .null, .null, .null, .null, .int 0] : List Value).length = 10 := rfl
  refine lv_aload_n hx hb (dq tk_Courts_init_0 0 rfl) rfl (lv_at hl 0 rfl) ?_
  refine W.objInit hx hb hc.ho (hc.ht _ kw_370) (hc.ht _ kw_32) (hc.ht _ kw_obj) rfl (by show ls.size = c.maxLocals; rw [hl.1]; exact hc.1.2.2.1.symm) rfl (dq tk_Courts_init_0 1 rfl) (Nat.le_of_ble_eq_true rfl) (Nat.le_of_ble_eq_true rfl) ?_
  refine W.eq (g2 := F0 m 4 ls []) rfl ?_
  refine lv_aload_n hx hb (dq tk_Courts_init_0 2 rfl) rfl (lv_at hl 0 rfl) ?_
  refine lv_bipush (v := 18) hx hb (dq tk_Courts_init_0 3 rfl) (by decide) ?_
  refine k_newa hc hw (t := 0) (N' := 18) (ty := .int) (a0 := (18, .inl (fun _ => 0))) rfl kw_154 rfl rfl (fun _ => rfl) (by decide) (by decide) (by decide) (Nat.le_of_ble_eq_true rfl) (Nat.le_of_ble_eq_true rfl) (dq tk_Courts_init_0 4 rfl) (fun H hw => ?_)
  replace hw := hw.drop (rfl)
  refine k_put hc hnm hw (k := 0) (ty := (.array .int)) rfl inX2 tyX2_ok nmX2 (by decide) rfl hlen kw_372 rfl rfl rfl (dq tk_Courts_init_0 5 rfl) (fun H locs hw hlen => ?_)
  refine lv_aload_n hx hb (dq tk_Courts_init_0 6 rfl) rfl (lv_at hl 0 rfl) ?_
  refine lv_bipush (v := 18) hx hb (dq tk_Courts_init_0 7 rfl) (by decide) ?_
  refine k_newa hc hw (t := 0) (N' := 18) (ty := .int) (a0 := (18, .inl (fun _ => 0))) rfl kw_154 rfl rfl (fun _ => rfl) (by decide) (by decide) (by decide) (Nat.le_of_ble_eq_true rfl) (Nat.le_of_ble_eq_true rfl) (dq tk_Courts_init_0 8 rfl) (fun H hw => ?_)
  replace hw := hw.drop (rfl)
  refine k_put hc hnm hw (k := 1) (ty := (.array .int)) rfl inX2 tyX2_ok nmX2 (by decide) rfl hlen kw_373 rfl rfl rfl (dq tk_Courts_init_0 9 rfl) (fun H locs hw hlen => ?_)
  refine lv_aload_n hx hb (dq tk_Courts_init_0 10 rfl) rfl (lv_at hl 0 rfl) ?_
  refine lv_iconst (v := 3) hx hb (dq tk_Courts_init_0 11 rfl) (by decide) ?_
  refine k_newa hc hw (t := 0) (N' := 3) (ty := .int) (a0 := (3, .inl (fun _ => 0))) rfl kw_154 rfl rfl (fun _ => rfl) (by decide) (by decide) (by decide) (Nat.le_of_ble_eq_true rfl) (Nat.le_of_ble_eq_true rfl) (dq tk_Courts_init_0 12 rfl) (fun H hw => ?_)
  replace hw := hw.perm (List.Perm.swap _ _ _)
  refine k_put hc hnm hw (k := 3) (ty := (.array .int)) rfl inX2 tyX2_ok nmX2 (by decide) rfl hlen kw_376 rfl rfl rfl (dq tk_Courts_init_0 13 rfl) (fun H locs hw hlen => ?_)
  refine lv_aload_n hx hb (dq tk_Courts_init_0 14 rfl) rfl (lv_at hl 0 rfl) ?_
  refine lv_bipush (v := 30) hx hb (dq tk_Courts_init_0 15 rfl) (by decide) ?_
  refine k_newa hc hw (t := 0) (N' := 30) (ty := .int) (a0 := (30, .inl (fun _ => 0))) rfl kw_154 rfl rfl (fun _ => rfl) (by decide) (by decide) (by decide) (Nat.le_of_ble_eq_true rfl) (Nat.le_of_ble_eq_true rfl) (dq tk_Courts_init_0 16 rfl) (fun H hw => ?_)
  replace hw := hw.drop (rfl)
  refine k_put hc hnm hw (k := 4) (ty := (.array .int)) rfl inX2 tyX2_ok nmX2 (by decide) rfl hlen kw_377 rfl rfl rfl (dq tk_Courts_init_0 17 rfl) (fun H locs hw hlen => ?_)
  refine lv_aload_n hx hb (dq tk_Courts_init_0 18 rfl) rfl (lv_at hl 0 rfl) ?_
  refine lv_bipush (v := 30) hx hb (dq tk_Courts_init_0 19 rfl) (by decide) ?_
  refine k_newa hc hw (t := 0) (N' := 30) (ty := .int) (a0 := (30, .inl (fun _ => 0))) rfl kw_154 rfl rfl (fun _ => rfl) (by decide) (by decide) (by decide) (Nat.le_of_ble_eq_true rfl) (Nat.le_of_ble_eq_true rfl) (dq tk_Courts_init_0 20 rfl) (fun H hw => ?_)
  replace hw := hw.drop (rfl)
  refine k_put hc hnm hw (k := 5) (ty := (.array .int)) rfl inX2 tyX2_ok nmX2 (by decide) rfl hlen kw_379 rfl rfl rfl (dq tk_Courts_init_0 21 rfl) (fun H locs hw hlen => ?_)
  refine lv_aload_n hx hb (dq tk_Courts_init_0 22 rfl) rfl (lv_at hl 0 rfl) ?_
  refine lv_bipush (v := 90) hx hb (dq tk_Courts_init_0 23 rfl) (by decide) ?_
  refine k_newa hc hw (t := 0) (N' := 90) (ty := .int) (a0 := (90, .inl (fun _ => 0))) rfl kw_154 rfl rfl (fun _ => rfl) (by decide) (by decide) (by decide) (Nat.le_of_ble_eq_true rfl) (Nat.le_of_ble_eq_true rfl) (dq tk_Courts_init_0 24 rfl) (fun H hw => ?_)
  replace hw := hw.drop (rfl)
  refine k_put hc hnm hw (k := 6) (ty := (.array .int)) rfl inX2 tyX2_ok nmX2 (by decide) rfl hlen kw_381 rfl rfl rfl (dq tk_Courts_init_0 25 rfl) (fun H locs hw hlen => ?_)
  refine lv_aload_n hx hb (dq tk_Courts_init_0 26 rfl) rfl (lv_at hl 0 rfl) ?_
  refine lv_bipush (v := 30) hx hb (dq tk_Courts_init_0 27 rfl) (by decide) ?_
  refine k_newa hc hw (t := 0) (N' := 30) (ty := .int) (a0 := (30, .inl (fun _ => 0))) rfl kw_154 rfl rfl (fun _ => rfl) (by decide) (by decide) (by decide) (Nat.le_of_ble_eq_true rfl) (Nat.le_of_ble_eq_true rfl) (dq tk_Courts_init_0 28 rfl) (fun H hw => ?_)
  replace hw := hw.drop (rfl)
  refine k_put hc hnm hw (k := 7) (ty := (.array .int)) rfl inX2 tyX2_ok nmX2 (by decide) rfl hlen kw_383 rfl rfl rfl (dq tk_Courts_init_0 29 rfl) (fun H locs hw hlen => ?_)
  refine lv_aload_n hx hb (dq tk_Courts_init_0 30 rfl) rfl (lv_at hl 0 rfl) ?_
  refine lv_bipush (v := 30) hx hb (dq tk_Courts_init_0 31 rfl) (by decide) ?_
  refine k_newa hc hw (t := 2) (N' := 30) (ty := .boolean) (a0 := (30, .inl (fun _ => 0))) rfl kw_302 rfl rfl (fun _ => rfl) (by decide) (by decide) (by decide) (Nat.le_of_ble_eq_true rfl) (Nat.le_of_ble_eq_true rfl) (dq tk_Courts_init_0 32 rfl) (fun H hw => ?_)
  replace hw := hw.drop (rfl)
  refine k_put hc hnm hw (k := 8) (ty := (.array .boolean)) rfl inX2 tyX2_ok nmX2 (by decide) rfl hlen kw_385 rfl rfl rfl (dq tk_Courts_init_0 33 rfl) (fun H locs hw hlen => ?_)
  refine lv_aload_n hx hb (dq tk_Courts_init_0 34 rfl) rfl (lv_at hl 0 rfl) ?_
  refine k_get hc hw (k := 3) (v := .ref (Z.1 + 80 + 3)) List.mem_cons_self rfl inX2 (by decide) rfl kw_376 (dq tk_Courts_init_0 35 rfl) ?_
  refine lv_iconst (v := (-1)) hx hb (dq tk_Courts_init_0 36 rfl) (by decide) ?_
  replace hw := hw.perm (List.Perm.swap _ _ _)
  refine k_fill hc (k := 3) (by decide) hw kw_371 ⟨Nat.le_of_ble_eq_true rfl, Nat.le_of_ble_eq_true rfl⟩ ⟨Nat.le_of_ble_eq_true rfl, Nat.le_of_ble_eq_true rfl⟩ hl.1 (Nat.le_of_ble_eq_true rfl) (dq tk_Courts_init_0 37 rfl) (fun H locs hw => ?_)
  replace hw := hw.drop (rfl)
  replace hw := hw.drop (rfl)
  exact k_end hc hw hr (dq tk_Courts_init_0 38 rfl)
set_option maxHeartbeats 8000000 in
set_option maxRecDepth 20000 in
theorem c0_Act {o i : Nat} (hi : i < 17) (ho : o = 90 + 6 * i) : Ck l Z y_Act_init prog_2_method_1_code 1 { frames := 1, cells := 5, slots := 680, locals := 60 } [] τ0 o 0 [.null, .int 0, .null, .int 0, .int 0, .int 0, .int 0, .null, .int 0, .null, .null, .int 0, .int 0, .int 0, .int 0] 6 := by
  refine k_met (by decide) rfl (Nat.le_of_ble_eq_true rfl) (fun p e s m args below meth c ls hc hN hnm hr hw hl => ?_)
  have hx := hc.hx
  have hb := hc.hb
  have hlen : ([.null, .int 0, .null, .int 0, .int 0, .int 0, .int 0, .null, .int 0, .null, .null, .int 0, .int 0, .int 0, .int 0] : List Value).length = 15 := rfl
  refine lv_aload_n hx hb (dq tk_Act_init_0 0 rfl) rfl (lv_at hl 0 rfl) ?_
  refine W.objInit hx hb hc.ho (hc.ht _ kw_414) (hc.ht _ kw_32) (hc.ht _ kw_obj) rfl (by show ls.size = c.maxLocals; rw [hl.1]; exact hc.1.2.2.1.symm) rfl (dq tk_Act_init_0 1 rfl) (Nat.le_of_ble_eq_true rfl) (Nat.le_of_ble_eq_true rfl) ?_
  refine W.eq (g2 := F0 m 4 ls []) rfl ?_
  refine lv_aload_n hx hb (dq tk_Act_init_0 2 rfl) rfl (lv_at hl 0 rfl) ?_
  refine lv_sipush (v := 600) hx hb (dq tk_Act_init_0 3 rfl) (by decide) ?_
  refine k_newa hc hw (t := 0) (N' := 600) (ty := .int) (a0 := (600, .inl (fun _ => 0))) rfl kw_154 rfl rfl (fun _ => rfl) (by decide) (by decide) (by decide) (Nat.le_of_ble_eq_true rfl) (Nat.le_of_ble_eq_true rfl) (dq tk_Act_init_0 4 rfl) (fun H hw => ?_)
  replace hw := hw.drop (by rw [(wd_act (id := o + 1) (r := 1) hi (by decide) (by omega)).2]; rfl)
  refine k_put hc hnm hw (k := 0) (ty := (.array .int)) rfl inX0 tyX0_ok nmX0 (by decide) rfl hlen kw_415 rfl rfl rfl (dq tk_Act_init_0 5 rfl) (fun H locs hw hlen => ?_)
  refine lv_aload_n hx hb (dq tk_Act_init_0 6 rfl) rfl (lv_at hl 0 rfl) ?_
  refine lv_bipush (v := 8) hx hb (dq tk_Act_init_0 7 rfl) (by decide) ?_
  refine k_newa hc hw (t := 0) (N' := 8) (ty := .int) (a0 := (8, .inl (fun _ => 0))) rfl kw_154 rfl rfl (fun _ => rfl) (by decide) (by decide) (by decide) (Nat.le_of_ble_eq_true rfl) (Nat.le_of_ble_eq_true rfl) (dq tk_Act_init_0 8 rfl) (fun H hw => ?_)
  replace hw := hw.drop (by rw [(wd_act (id := o + 2) (r := 2) hi (by decide) (by omega)).2]; rfl)
  refine k_put hc hnm hw (k := 2) (ty := (.array .int)) rfl inX0 tyX0_ok nmX0 (by decide) rfl hlen kw_418 rfl rfl rfl (dq tk_Act_init_0 9 rfl) (fun H locs hw hlen => ?_)
  refine lv_aload_n hx hb (dq tk_Act_init_0 10 rfl) rfl (lv_at hl 0 rfl) ?_
  refine lv_bipush (v := 24) hx hb (dq tk_Act_init_0 11 rfl) (by decide) ?_
  refine k_newa hc hw (t := 0) (N' := 24) (ty := .int) (a0 := (24, .inl (fun _ => 0))) rfl kw_154 rfl rfl (fun _ => rfl) (by decide) (by decide) (by decide) (Nat.le_of_ble_eq_true rfl) (Nat.le_of_ble_eq_true rfl) (dq tk_Act_init_0 12 rfl) (fun H hw => ?_)
  replace hw := hw.drop (by rw [(wd_act (id := o + 3) (r := 3) hi (by decide) (by omega)).2]; rfl)
  refine k_put hc hnm hw (k := 7) (ty := (.array .int)) rfl inX0 tyX0_ok nmX0 (by decide) rfl hlen kw_433 rfl rfl rfl (dq tk_Act_init_0 13 rfl) (fun H locs hw hlen => ?_)
  refine lv_aload_n hx hb (dq tk_Act_init_0 14 rfl) rfl (lv_at hl 0 rfl) ?_
  refine lv_bipush (v := 24) hx hb (dq tk_Act_init_0 15 rfl) (by decide) ?_
  refine k_newa hc hw (t := 0) (N' := 24) (ty := .int) (a0 := (24, .inl (fun _ => 0))) rfl kw_154 rfl rfl (fun _ => rfl) (by decide) (by decide) (by decide) (Nat.le_of_ble_eq_true rfl) (Nat.le_of_ble_eq_true rfl) (dq tk_Act_init_0 16 rfl) (fun H hw => ?_)
  replace hw := hw.drop (by rw [(wd_act (id := o + 4) (r := 4) hi (by decide) (by omega)).2]; rfl)
  refine k_put hc hnm hw (k := 9) (ty := (.array .int)) rfl inX0 tyX0_ok nmX0 (by decide) rfl hlen kw_437 rfl rfl rfl (dq tk_Act_init_0 17 rfl) (fun H locs hw hlen => ?_)
  refine lv_aload_n hx hb (dq tk_Act_init_0 18 rfl) rfl (lv_at hl 0 rfl) ?_
  refine lv_bipush (v := 24) hx hb (dq tk_Act_init_0 19 rfl) (by decide) ?_
  refine k_newa hc hw (t := 0) (N' := 24) (ty := .int) (a0 := (24, .inl (fun _ => 0))) rfl kw_154 rfl rfl (fun _ => rfl) (by decide) (by decide) (by decide) (Nat.le_of_ble_eq_true rfl) (Nat.le_of_ble_eq_true rfl) (dq tk_Act_init_0 20 rfl) (fun H hw => ?_)
  replace hw := hw.drop (by rw [(wd_act (id := o + 5) (r := 5) hi (by decide) (by omega)).2]; rfl)
  refine k_put hc hnm hw (k := 10) (ty := (.array .int)) rfl inX0 tyX0_ok nmX0 (by decide) rfl hlen kw_439 rfl rfl rfl (dq tk_Act_init_0 21 rfl) (fun H locs hw hlen => ?_)
  replace hw := hw.drop (by rw [(wd_act (id := o + 0) (r := 0) hi (by decide) (by omega)).2]; exact congrArg Sum.inr (congrArg (Prod.mk 0) (li_cons (show Value.ref (Z.1 + o + 1) = Value.ref (Z.1 + (91 + 6 * i)) from congrArg Value.ref (show @Eq Nat (Z.1 + o + 1) (Z.1 + (91 + 6 * i)) by omega)) (li_cons rfl (li_cons (show Value.ref (Z.1 + o + 2) = Value.ref (Z.1 + (92 + 6 * i)) from congrArg Value.ref (show @Eq Nat (Z.1 + o + 2) (Z.1 + (92 + 6 * i)) by omega)) (li_cons rfl (li_cons rfl (li_cons rfl (li_cons rfl (li_cons (show Value.ref (Z.1 + o + 3) = Value.ref (Z.1 + (93 + 6 * i)) from congrArg Value.ref (show @Eq Nat (Z.1 + o + 3) (Z.1 + (93 + 6 * i)) by omega)) (li_cons rfl (li_cons (show Value.ref (Z.1 + o + 4) = Value.ref (Z.1 + (94 + 6 * i)) from congrArg Value.ref (show @Eq Nat (Z.1 + o + 4) (Z.1 + (94 + 6 * i)) by omega)) (li_cons (show Value.ref (Z.1 + o + 5) = Value.ref (Z.1 + (95 + 6 * i)) from congrArg Value.ref (show @Eq Nat (Z.1 + o + 5) (Z.1 + (95 + 6 * i)) by omega)) (li_cons rfl (li_cons rfl (li_cons rfl (li_cons rfl rfl)))))))))))))))))
  exact k_end hc hw hr (dq tk_Act_init_0 22 rfl)
set_option maxHeartbeats 8000000 in
set_option maxRecDepth 20000 in
theorem c0_Law {o v : Nat} (hv : v < 2) (ho : o = 197 + 187 * v) : Ck l Z y_Law_init prog_7_method_1_code 2 { frames := 1, cells := 81, slots := 2151, locals := 60 } [.ref (Z.1 + 32)] τ0 o 5 [.null, .int 0, .null, .null, .null, .null, .null, .null, .null, .null, .null, .null, .null] 82 := by
  refine k_met (by decide) rfl (Nat.le_of_ble_eq_true rfl) (fun p e s m args below meth c ls hc hN hnm hr hw hl => ?_)
  have hx := hc.hx
  have hb := hc.hb
  have hlen : ([.null, .int 0, .null, .null, .null, .null, .null, .null, .null, .null, .null, .null, .null] : List Value).length = 13 := rfl
  refine lv_aload_n hx hb (dq tk_Law_init_0 0 rfl) rfl (lv_at hl 0 rfl) ?_
  refine W.objInit hx hb hc.ho (hc.ht _ kw_493) (hc.ht _ kw_32) (hc.ht _ kw_obj) rfl (by show ls.size = c.maxLocals; rw [hl.1]; exact hc.1.2.2.1.symm) rfl (dq tk_Law_init_0 1 rfl) (Nat.le_of_ble_eq_true rfl) (Nat.le_of_ble_eq_true rfl) ?_
  refine W.eq (g2 := F0 m 4 ls []) rfl ?_
  refine lv_aload_n hx hb (dq tk_Law_init_0 2 rfl) rfl (lv_at hl 0 rfl) ?_
  refine lv_iconst (v := (-1)) hx hb (dq tk_Law_init_0 3 rfl) (by decide) ?_
  refine k_put hc hnm hw (k := 1) (ty := .int) rfl inX5 tyX5_ok nmX5 (by decide) rfl hlen kw_496 rfl rfl rfl (dq tk_Law_init_0 4 rfl) (fun H locs hw hlen => ?_)
  refine lv_aload_n hx hb (dq tk_Law_init_0 5 rfl) rfl (lv_at hl 0 rfl) ?_
  refine lv_sipush (v := 936) hx hb (dq tk_Law_init_0 6 rfl) (by decide) ?_
  refine k_newa hc hw (t := 1) (N' := 936) (ty := .byte) (a0 := (936, .inl (fun _ => 0))) rfl kw_80 rfl rfl (fun _ => rfl) (by decide) (by decide) (by decide) (Nat.le_of_ble_eq_true rfl) (Nat.le_of_ble_eq_true rfl) (dq tk_Law_init_0 7 rfl) (fun H hw => ?_)
  replace hw := hw.drop (by rw [(wd_view (id := o + 1) (r := 6) hv (by decide) (by omega)).2]; rfl)
  refine k_put hc hnm hw (k := 2) (ty := (.array .byte)) rfl inX5 tyX5_ok nmX5 (by decide) rfl hlen kw_498 rfl rfl rfl (dq tk_Law_init_0 8 rfl) (fun H locs hw hlen => ?_)
  refine lv_aload_n hx hb (dq tk_Law_init_0 9 rfl) rfl (lv_at hl 0 rfl) ?_
  refine lv_bipush (v := 35) hx hb (dq tk_Law_init_0 10 rfl) (by decide) ?_
  refine lv_bipush (v := 8) hx hb (dq tk_Law_init_0 11 rfl) (by decide) ?_
  refine k_mna hc hw (N' := 35) (K' := 8) kw_494 (arrayOver_any hN.2.2.2.1) kw_154 rfl rfl (by decide) (by decide) (by decide) (by decide) (by decide) (by decide) (Nat.le_of_ble_eq_true rfl) (Nat.le_of_ble_eq_true rfl) (dq tk_Law_init_0 12 rfl) (mdesc (o := o) (n := 2) (N := 35) (b := 0) (base := 200 + 187 * v) (by rw [(wd_view (id := o + 2) (r := 7) hv (by decide) (by omega)).2]; rfl) (by omega)) (fun j hj => by rw [show o + (2 + 1 + j) = 200 + 187 * v + 1 * j by omega, (wd_par hv hj).2]; rfl) (fun H hw => ?_)
  refine k_put hc hnm hw (k := 3) (ty := (.array (.array .int))) rfl inX5 tyX5_ok nmX5 (by decide) rfl hlen kw_499 rfl rfl rfl (dq tk_Law_init_0 13 rfl) (fun H locs hw hlen => ?_)
  refine lv_aload_n hx hb (dq tk_Law_init_0 14 rfl) rfl (lv_at hl 0 rfl) ?_
  refine lv_bipush (v := 35) hx hb (dq tk_Law_init_0 15 rfl) (by decide) ?_
  refine lv_bipush (v := 17) hx hb (dq tk_Law_init_0 16 rfl) (by decide) ?_
  refine k_mna hc hw (N' := 35) (K' := 17) kw_494 (arrayOver_any hN.2.2.2.1) kw_154 rfl rfl (by decide) (by decide) (by decide) (by decide) (by decide) (by decide) (Nat.le_of_ble_eq_true rfl) (Nat.le_of_ble_eq_true rfl) (dq tk_Law_init_0 17 rfl) (mdesc (o := o) (n := 38) (N := 35) (b := 0) (base := 236 + 187 * v) (by rw [(wd_view (id := o + 38) (r := 43) hv (by decide) (by omega)).2]; rfl) (by omega)) (fun j hj => by rw [show o + (38 + 1 + j) = 236 + 187 * v + 1 * j by omega, (wd_inf hv hj).2]; rfl) (fun H hw => ?_)
  refine k_put hc hnm hw (k := 4) (ty := (.array (.array .int))) rfl inX5 tyX5_ok nmX5 (by decide) rfl hlen kw_500 rfl rfl rfl (dq tk_Law_init_0 18 rfl) (fun H locs hw hlen => ?_)
  refine lv_aload_n hx hb (dq tk_Law_init_0 19 rfl) rfl (lv_at hl 0 rfl) ?_
  refine lv_bipush (v := 35) hx hb (dq tk_Law_init_0 20 rfl) (by decide) ?_
  refine k_newa hc hw (t := 0) (N' := 35) (ty := .int) (a0 := (35, .inl (fun _ => 0))) rfl kw_154 rfl rfl (fun _ => rfl) (by decide) (by decide) (by decide) (Nat.le_of_ble_eq_true rfl) (Nat.le_of_ble_eq_true rfl) (dq tk_Law_init_0 21 rfl) (fun H hw => ?_)
  replace hw := hw.drop (by rw [(wd_view (id := o + 74) (r := 79) hv (by decide) (by omega)).2]; rfl)
  refine k_put hc hnm hw (k := 5) (ty := (.array .int)) rfl inX5 tyX5_ok nmX5 (by decide) rfl hlen kw_501 rfl rfl rfl (dq tk_Law_init_0 22 rfl) (fun H locs hw hlen => ?_)
  refine lv_aload_n hx hb (dq tk_Law_init_0 23 rfl) rfl (lv_at hl 0 rfl) ?_
  refine lv_bipush (v := 35) hx hb (dq tk_Law_init_0 24 rfl) (by decide) ?_
  refine k_newa hc hw (t := 0) (N' := 35) (ty := .int) (a0 := (35, .inl (fun _ => 0))) rfl kw_154 rfl rfl (fun _ => rfl) (by decide) (by decide) (by decide) (Nat.le_of_ble_eq_true rfl) (Nat.le_of_ble_eq_true rfl) (dq tk_Law_init_0 25 rfl) (fun H hw => ?_)
  replace hw := hw.drop (by rw [(wd_view (id := o + 75) (r := 80) hv (by decide) (by omega)).2]; rfl)
  refine k_put hc hnm hw (k := 6) (ty := (.array .int)) rfl inX5 tyX5_ok nmX5 (by decide) rfl hlen kw_502 rfl rfl rfl (dq tk_Law_init_0 26 rfl) (fun H locs hw hlen => ?_)
  refine lv_aload_n hx hb (dq tk_Law_init_0 27 rfl) rfl (lv_at hl 0 rfl) ?_
  refine lv_bipush (v := 35) hx hb (dq tk_Law_init_0 28 rfl) (by decide) ?_
  refine k_newa hc hw (t := 0) (N' := 35) (ty := .int) (a0 := (35, .inl (fun _ => 0))) rfl kw_154 rfl rfl (fun _ => rfl) (by decide) (by decide) (by decide) (Nat.le_of_ble_eq_true rfl) (Nat.le_of_ble_eq_true rfl) (dq tk_Law_init_0 29 rfl) (fun H hw => ?_)
  replace hw := hw.drop (by rw [(wd_view (id := o + 76) (r := 81) hv (by decide) (by omega)).2]; rfl)
  refine k_put hc hnm hw (k := 7) (ty := (.array .int)) rfl inX5 tyX5_ok nmX5 (by decide) rfl hlen kw_503 rfl rfl rfl (dq tk_Law_init_0 30 rfl) (fun H locs hw hlen => ?_)
  refine lv_aload_n hx hb (dq tk_Law_init_0 31 rfl) rfl (lv_at hl 0 rfl) ?_
  refine lv_bipush (v := 35) hx hb (dq tk_Law_init_0 32 rfl) (by decide) ?_
  refine k_newa hc hw (t := 0) (N' := 35) (ty := .int) (a0 := (35, .inl (fun _ => 0))) rfl kw_154 rfl rfl (fun _ => rfl) (by decide) (by decide) (by decide) (Nat.le_of_ble_eq_true rfl) (Nat.le_of_ble_eq_true rfl) (dq tk_Law_init_0 33 rfl) (fun H hw => ?_)
  replace hw := hw.drop (by rw [(wd_view (id := o + 77) (r := 82) hv (by decide) (by omega)).2]; rfl)
  refine k_put hc hnm hw (k := 8) (ty := (.array .int)) rfl inX5 tyX5_ok nmX5 (by decide) rfl hlen kw_504 rfl rfl rfl (dq tk_Law_init_0 34 rfl) (fun H locs hw hlen => ?_)
  refine lv_aload_n hx hb (dq tk_Law_init_0 35 rfl) rfl (lv_at hl 0 rfl) ?_
  refine lv_bipush (v := 35) hx hb (dq tk_Law_init_0 36 rfl) (by decide) ?_
  refine k_newa hc hw (t := 0) (N' := 35) (ty := .int) (a0 := (35, .inl (fun _ => 0))) rfl kw_154 rfl rfl (fun _ => rfl) (by decide) (by decide) (by decide) (Nat.le_of_ble_eq_true rfl) (Nat.le_of_ble_eq_true rfl) (dq tk_Law_init_0 37 rfl) (fun H hw => ?_)
  replace hw := hw.drop (by rw [(wd_view (id := o + 78) (r := 83) hv (by decide) (by omega)).2]; rfl)
  refine k_put hc hnm hw (k := 9) (ty := (.array .int)) rfl inX5 tyX5_ok nmX5 (by decide) rfl hlen kw_505 rfl rfl rfl (dq tk_Law_init_0 38 rfl) (fun H locs hw hlen => ?_)
  refine lv_aload_n hx hb (dq tk_Law_init_0 39 rfl) rfl (lv_at hl 0 rfl) ?_
  refine lv_bipush (v := 35) hx hb (dq tk_Law_init_0 40 rfl) (by decide) ?_
  refine k_newa hc hw (t := 0) (N' := 35) (ty := .int) (a0 := (35, .inl (fun _ => 0))) rfl kw_154 rfl rfl (fun _ => rfl) (by decide) (by decide) (by decide) (Nat.le_of_ble_eq_true rfl) (Nat.le_of_ble_eq_true rfl) (dq tk_Law_init_0 41 rfl) (fun H hw => ?_)
  replace hw := hw.drop (by rw [(wd_view (id := o + 79) (r := 84) hv (by decide) (by omega)).2]; rfl)
  refine k_put hc hnm hw (k := 10) (ty := (.array .int)) rfl inX5 tyX5_ok nmX5 (by decide) rfl hlen kw_506 rfl rfl rfl (dq tk_Law_init_0 42 rfl) (fun H locs hw hlen => ?_)
  refine lv_aload_n hx hb (dq tk_Law_init_0 43 rfl) rfl (lv_at hl 0 rfl) ?_
  refine lv_bipush (v := 20) hx hb (dq tk_Law_init_0 44 rfl) (by decide) ?_
  refine k_newa hc hw (t := 3) (N' := 20) (ty := .long) (a0 := (20, .inr (.inl (fun _ => 0)))) rfl kw_539 rfl rfl (fun _ => rfl) (by decide) (by decide) (by decide) (Nat.le_of_ble_eq_true rfl) (Nat.le_of_ble_eq_true rfl) (dq tk_Law_init_0 45 rfl) (fun H hw => ?_)
  replace hw := hw.drop (by rw [(wd_view (id := o + 80) (r := 85) hv (by decide) (by omega)).2]; rfl)
  refine k_put hc hnm hw (k := 11) (ty := (.array .long)) rfl inX5 tyX5_ok nmX5 (by decide) rfl hlen kw_507 rfl rfl rfl (dq tk_Law_init_0 46 rfl) (fun H locs hw hlen => ?_)
  refine lv_aload_n hx hb (dq tk_Law_init_0 47 rfl) rfl (lv_at hl 0 rfl) ?_
  refine lv_bipush (v := 40) hx hb (dq tk_Law_init_0 48 rfl) (by decide) ?_
  refine k_newa hc hw (t := 3) (N' := 40) (ty := .long) (a0 := (40, .inr (.inl (fun _ => 0)))) rfl kw_539 rfl rfl (fun _ => rfl) (by decide) (by decide) (by decide) (Nat.le_of_ble_eq_true rfl) (Nat.le_of_ble_eq_true rfl) (dq tk_Law_init_0 49 rfl) (fun H hw => ?_)
  replace hw := hw.drop (by rw [(wd_view (id := o + 81) (r := 86) hv (by decide) (by omega)).2]; rfl)
  refine k_put hc hnm hw (k := 12) (ty := (.array .long)) rfl inX5 tyX5_ok nmX5 (by decide) rfl hlen kw_511 rfl rfl rfl (dq tk_Law_init_0 50 rfl) (fun H locs hw hlen => ?_)
  refine lv_aload_n hx hb (dq tk_Law_init_0 51 rfl) rfl (lv_at hl 0 rfl) ?_
  refine lv_aload_n hx hb (dq tk_Law_init_0 52 rfl) rfl (lv_at hl 1 rfl) ?_
  refine k_put hc hnm hw (k := 0) (ty := (.array (.object "LabourExchange$Act"))) rfl inX5 tyX5_ok nmX5 (by decide) rfl hlen kw_495 rfl rfl rfl (dq tk_Law_init_0 53 rfl) (fun H locs hw hlen => ?_)
  replace hw := hw.drop (by rw [(wd_view (id := o + 0) (r := 5) hv (by decide) (by omega)).2]; exact congrArg Sum.inr (congrArg (Prod.mk 5) (li_cons rfl (li_cons rfl (li_cons (show Value.ref (Z.1 + o + 1) = Value.ref (Z.1 + (198 + 187 * v)) from congrArg Value.ref (show @Eq Nat (Z.1 + o + 1) (Z.1 + (198 + 187 * v)) by omega)) (li_cons (show Value.ref (Z.1 + o + 2) = Value.ref (Z.1 + (199 + 187 * v)) from congrArg Value.ref (show @Eq Nat (Z.1 + o + 2) (Z.1 + (199 + 187 * v)) by omega)) (li_cons (show Value.ref (Z.1 + o + 38) = Value.ref (Z.1 + (235 + 187 * v)) from congrArg Value.ref (show @Eq Nat (Z.1 + o + 38) (Z.1 + (235 + 187 * v)) by omega)) (li_cons (show Value.ref (Z.1 + o + 74) = Value.ref (Z.1 + (271 + 187 * v)) from congrArg Value.ref (show @Eq Nat (Z.1 + o + 74) (Z.1 + (271 + 187 * v)) by omega)) (li_cons (show Value.ref (Z.1 + o + 75) = Value.ref (Z.1 + (272 + 187 * v)) from congrArg Value.ref (show @Eq Nat (Z.1 + o + 75) (Z.1 + (272 + 187 * v)) by omega)) (li_cons (show Value.ref (Z.1 + o + 76) = Value.ref (Z.1 + (273 + 187 * v)) from congrArg Value.ref (show @Eq Nat (Z.1 + o + 76) (Z.1 + (273 + 187 * v)) by omega)) (li_cons (show Value.ref (Z.1 + o + 77) = Value.ref (Z.1 + (274 + 187 * v)) from congrArg Value.ref (show @Eq Nat (Z.1 + o + 77) (Z.1 + (274 + 187 * v)) by omega)) (li_cons (show Value.ref (Z.1 + o + 78) = Value.ref (Z.1 + (275 + 187 * v)) from congrArg Value.ref (show @Eq Nat (Z.1 + o + 78) (Z.1 + (275 + 187 * v)) by omega)) (li_cons (show Value.ref (Z.1 + o + 79) = Value.ref (Z.1 + (276 + 187 * v)) from congrArg Value.ref (show @Eq Nat (Z.1 + o + 79) (Z.1 + (276 + 187 * v)) by omega)) (li_cons (show Value.ref (Z.1 + o + 80) = Value.ref (Z.1 + (277 + 187 * v)) from congrArg Value.ref (show @Eq Nat (Z.1 + o + 80) (Z.1 + (277 + 187 * v)) by omega)) (li_cons (show Value.ref (Z.1 + o + 81) = Value.ref (Z.1 + (278 + 187 * v)) from congrArg Value.ref (show @Eq Nat (Z.1 + o + 81) (Z.1 + (278 + 187 * v)) by omega)) rfl)))))))))))))))
  exact k_end hc hw hr (dq tk_Law_init_0 54 rfl)
set_option maxHeartbeats 8000000 in
set_option maxRecDepth 20000 in
theorem c0_Life {o v q : Nat} (hv : v < 2) (hp : q < 20) (ho : o = 279 + 187 * v + 5 * q) : Ck l Z y_Life_init prog_8_method_1_code 5 { frames := 1, cells := 4, slots := 1388, locals := 60 } [.int (nI q), .ref (Z.1 + 3), .ref (Z.1 + 33), .ref (Z.1 + (197 + 187 * v))] τ0 o 6 [.int 0, .null, .null, .null, .null, .null, .null, .null, .int 0, .int 0, .int 0, .int 0, .int 0, .int 0, .int 0, .int 0, .int 0, .int 0, .int 0, .int 0, .int 0] 5 := by
  refine k_met (by decide) rfl (Nat.le_of_ble_eq_true rfl) (fun p e s m args below meth c ls hc hN hnm hr hw hl => ?_)
  have hx := hc.hx
  have hb := hc.hb
  have hlen : ([.int 0, .null, .null, .null, .null, .null, .null, .null, .int 0, .int 0, .int 0, .int 0, .int 0, .int 0, .int 0, .int 0, .int 0, .int 0, .int 0, .int 0, .int 0] : List Value).length = 21 := rfl
  refine lv_aload_n hx hb (dq tk_Life_init_0 0 rfl) rfl (lv_at hl 0 rfl) ?_
  refine W.objInit hx hb hc.ho (hc.ht _ kw_544) (hc.ht _ kw_32) (hc.ht _ kw_obj) rfl (by show ls.size = c.maxLocals; rw [hl.1]; exact hc.1.2.2.1.symm) rfl (dq tk_Life_init_0 1 rfl) (Nat.le_of_ble_eq_true rfl) (Nat.le_of_ble_eq_true rfl) ?_
  refine W.eq (g2 := F0 m 4 ls []) rfl ?_
  refine lv_aload_n hx hb (dq tk_Life_init_0 2 rfl) rfl (lv_at hl 0 rfl) ?_
  refine lv_sipush (v := 624) hx hb (dq tk_Life_init_0 3 rfl) (by decide) ?_
  refine k_newa hc hw (t := 0) (N' := 624) (ty := .int) (a0 := (624, .inl (fun _ => 0))) rfl kw_154 rfl rfl (fun _ => rfl) (by decide) (by decide) (by decide) (Nat.le_of_ble_eq_true rfl) (Nat.le_of_ble_eq_true rfl) (dq tk_Life_init_0 4 rfl) (fun H hw => ?_)
  replace hw := hw.drop (by rw [(wd_life (id := o + 1) (p := q) (r := 1) hv hp (by decide) (by omega)).2]; rfl)
  refine k_put hc hnm hw (k := 4) (ty := (.array .int)) rfl inX6 tyX6_ok nmX6 (by decide) rfl hlen kw_551 rfl rfl rfl (dq tk_Life_init_0 5 rfl) (fun H locs hw hlen => ?_)
  refine lv_aload_n hx hb (dq tk_Life_init_0 6 rfl) rfl (lv_at hl 0 rfl) ?_
  refine lv_sipush (v := 605) hx hb (dq tk_Life_init_0 7 rfl) (by decide) ?_
  refine k_newa hc hw (t := 0) (N' := 605) (ty := .int) (a0 := (605, .inl (fun _ => 0))) rfl kw_154 rfl rfl (fun _ => rfl) (by decide) (by decide) (by decide) (Nat.le_of_ble_eq_true rfl) (Nat.le_of_ble_eq_true rfl) (dq tk_Life_init_0 8 rfl) (fun H hw => ?_)
  replace hw := hw.drop (by rw [(wd_life (id := o + 2) (p := q) (r := 2) hv hp (by decide) (by omega)).2]; rfl)
  refine k_put hc hnm hw (k := 5) (ty := (.array .int)) rfl inX6 tyX6_ok nmX6 (by decide) rfl hlen kw_552 rfl rfl rfl (dq tk_Life_init_0 9 rfl) (fun H locs hw hlen => ?_)
  refine lv_aload_n hx hb (dq tk_Life_init_0 10 rfl) rfl (lv_at hl 0 rfl) ?_
  refine lv_sipush (v := 156) hx hb (dq tk_Life_init_0 11 rfl) (by decide) ?_
  refine k_newa hc hw (t := 1) (N' := 156) (ty := .byte) (a0 := (156, .inl (fun _ => 0))) rfl kw_80 rfl rfl (fun _ => rfl) (by decide) (by decide) (by decide) (Nat.le_of_ble_eq_true rfl) (Nat.le_of_ble_eq_true rfl) (dq tk_Life_init_0 12 rfl) (fun H hw => ?_)
  replace hw := hw.drop (by rw [(wd_life (id := o + 3) (p := q) (r := 3) hv hp (by decide) (by omega)).2]; rfl)
  refine k_put hc hnm hw (k := 6) (ty := (.array .byte)) rfl inX6 tyX6_ok nmX6 (by decide) rfl hlen kw_554 rfl rfl rfl (dq tk_Life_init_0 13 rfl) (fun H locs hw hlen => ?_)
  refine lv_aload_n hx hb (dq tk_Life_init_0 14 rfl) rfl (lv_at hl 0 rfl) ?_
  refine lv_iconst (v := 3) hx hb (dq tk_Life_init_0 15 rfl) (by decide) ?_
  refine k_newa hc hw (t := 0) (N' := 3) (ty := .int) (a0 := (3, .inl (fun _ => 0))) rfl kw_154 rfl rfl (fun _ => rfl) (by decide) (by decide) (by decide) (Nat.le_of_ble_eq_true rfl) (Nat.le_of_ble_eq_true rfl) (dq tk_Life_init_0 16 rfl) (fun H hw => ?_)
  replace hw := hw.drop (by rw [(wd_life (id := o + 4) (p := q) (r := 4) hv hp (by decide) (by omega)).2]; rfl)
  refine k_put hc hnm hw (k := 7) (ty := (.array .int)) rfl inX6 tyX6_ok nmX6 (by decide) rfl hlen kw_556 rfl rfl rfl (dq tk_Life_init_0 17 rfl) (fun H locs hw hlen => ?_)
  refine lv_aload_n hx hb (dq tk_Life_init_0 18 rfl) rfl (lv_at hl 0 rfl) ?_
  refine lv_iconst (v := (-1)) hx hb (dq tk_Life_init_0 19 rfl) (by decide) ?_
  refine k_put hc hnm hw (k := 8) (ty := .int) rfl inX6 tyX6_ok nmX6 (by decide) rfl hlen kw_558 rfl rfl rfl (dq tk_Life_init_0 20 rfl) (fun H locs hw hlen => ?_)
  refine lv_aload_n hx hb (dq tk_Life_init_0 21 rfl) rfl (lv_at hl 0 rfl) ?_
  refine lv_iload_n hx hb (dq tk_Life_init_0 22 rfl) rfl (lv_at hl 1 rfl) ?_
  refine k_put hc hnm hw (k := 0) (ty := .int) rfl inX6 tyX6_ok nmX6 (by decide) rfl hlen kw_545 rfl rfl rfl (dq tk_Life_init_0 23 rfl) (fun H locs hw hlen => ?_)
  refine lv_aload_n hx hb (dq tk_Life_init_0 24 rfl) rfl (lv_at hl 0 rfl) ?_
  refine lv_aload_n hx hb (dq tk_Life_init_0 25 rfl) rfl (lv_at hl 2 rfl) ?_
  refine k_put hc hnm hw (k := 1) (ty := (.object "LabourExchange$Land")) rfl inX6 tyX6_ok nmX6 (by decide) rfl hlen kw_547 rfl rfl rfl (dq tk_Life_init_0 26 rfl) (fun H locs hw hlen => ?_)
  refine lv_aload_n hx hb (dq tk_Life_init_0 27 rfl) rfl (lv_at hl 0 rfl) ?_
  refine lv_aload_n hx hb (dq tk_Life_init_0 28 rfl) rfl (lv_at hl 3 rfl) ?_
  refine k_put hc hnm hw (k := 2) (ty := (.object "LabourExchange$Market")) rfl inX6 tyX6_ok nmX6 (by decide) rfl hlen kw_548 rfl rfl rfl (dq tk_Life_init_0 29 rfl) (fun H locs hw hlen => ?_)
  refine lv_aload_n hx hb (dq tk_Life_init_0 30 rfl) rfl (lv_at hl 0 rfl) ?_
  refine lv_aload hx hb (dq tk_Life_init_0 31 rfl) (lv_at hl 4 rfl) ?_
  refine k_put hc hnm hw (k := 3) (ty := (.object "LabourExchange$Law")) rfl inX6 tyX6_ok nmX6 (by decide) rfl hlen kw_549 rfl rfl rfl (dq tk_Life_init_0 32 rfl) (fun H locs hw hlen => ?_)
  replace hw := hw.drop (by rw [(wd_life (id := o + 0) (p := q) (r := 0) hv hp (by decide) (by omega)).2]; exact congrArg Sum.inr (congrArg (Prod.mk 6) (li_cons rfl (li_cons rfl (li_cons rfl (li_cons rfl (li_cons (show Value.ref (Z.1 + o + 1) = Value.ref (Z.1 + (280 + 187 * v + 5 * q)) from congrArg Value.ref (show @Eq Nat (Z.1 + o + 1) (Z.1 + (280 + 187 * v + 5 * q)) by omega)) (li_cons (show Value.ref (Z.1 + o + 2) = Value.ref (Z.1 + (281 + 187 * v + 5 * q)) from congrArg Value.ref (show @Eq Nat (Z.1 + o + 2) (Z.1 + (281 + 187 * v + 5 * q)) by omega)) (li_cons (show Value.ref (Z.1 + o + 3) = Value.ref (Z.1 + (282 + 187 * v + 5 * q)) from congrArg Value.ref (show @Eq Nat (Z.1 + o + 3) (Z.1 + (282 + 187 * v + 5 * q)) by omega)) (li_cons (show Value.ref (Z.1 + o + 4) = Value.ref (Z.1 + (283 + 187 * v + 5 * q)) from congrArg Value.ref (show @Eq Nat (Z.1 + o + 4) (Z.1 + (283 + 187 * v + 5 * q)) by omega)) (li_cons rfl (li_cons rfl (li_cons rfl (li_cons rfl (li_cons rfl (li_cons rfl (li_cons rfl (li_cons rfl (li_cons rfl (li_cons rfl (li_cons rfl (li_cons rfl (li_cons rfl rfl)))))))))))))))))))))))
  exact k_end hc hw hr (dq tk_Life_init_0 33 rfl)
end CTW
