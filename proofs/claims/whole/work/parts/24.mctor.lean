section CTW
variable {p : Program} {l : Launch} {e : Env} {R : Room} {s : State} {m : MethodId} {args : Array Value} {below : List Frame} {meth : Method} {c : Code} {H : Heap} {locs : List Loc} {cells slots : Nat} {Q : State → Prop}
variable {Z : ZT}
set_option maxHeartbeats 8000000 in
set_option maxRecDepth 20000 in
theorem c0_M : Ck l Z y_M_init prog_14_method_1_code 1 { frames := 1, cells := 107, slots := 83376, locals := 60 } [] τ0 566 12 [.null, .null, .null, .int 0, .int 0, .int 0, .int 0, .int 0, .null, .null, .null, .null, .null, .null, .null, .int 0, .int 0, .int 0, .int 0, .null, .null, .null, .null, .null, .null, .null, .null, .null, .null, .null, .null, .null, .null, .null, .null, .null, .null, .null, .null, .null, .null, .null, .null, .null, .null, .null, .int 0, .int 0, .int 0, .int 0, .int 0, .int 0, .int 0, .int 0, .int 0, .int 0, .int 0, .int 0, .int 0, .null, .null, .null, .int 0, .null, .null, .int 0, .null, .int 0, .int 0, .int 0, .int 0, .int 0, .int 0, .int 0, .null, .null, .null, .null, .null, .null, .null, .null, .null, .null, .null, .int 0, .int 0, .null, .null, .null, .null, .null, .null, .null, .null, .null, .null, .null, .null, .null, .null, .null, .null, .null, .null, .null, .null, .null, .null, .null, .null, .long 0, .long 0, .long 0, .int 0, .int 0, .int 0, .null, .null, .null, .null, .null, .null, .null, .null, .null, .null, .null, .null, .null, .null, .null, .int 0, .null, .null, .null, .int 0, .int 0, .null, .null, .null, .null, .null, .null, .null, .null, .int 0, .null, .null, .null] 108 := by
  refine k_met (by decide) rfl (Nat.le_of_ble_eq_true rfl) (fun p e s m args below meth c ls hc hN hnm hr hw hl => ?_)
  have hx := hc.hx
  have hb := hc.hb
  have hlen : ([.null, .null, .null, .int 0, .int 0, .int 0, .int 0, .int 0, .null, .null, .null, .null, .null, .null, .null, .int 0, .int 0, .int 0, .int 0, .null, .null, .null, .null, .null, .null, .null, .null, .null, .null, .null, .null, .null, .null, .null, .null, .null, .null, .null, .null, .null, .null, .null, .null, .null, .null, .null, .int 0, .int 0, .int 0, .int 0, .int 0, .int 0, .int 0, .int 0, .int 0, .int 0, .int 0, .int 0, .int 0, .null, .null, .null, .int 0, .null, .null, .int 0, .null, .int 0, .int 0, .int 0, .int 0, .int 0, .int 0, .int 0, .null, .null, .null, .null, .null, .null, .null, .null, .null, .null, .null, .int 0, .int 0, .null, .null, .null, .null, .null, .null, .null, .null, .null, .null, .null, .null, .null, .null, .null, .null, .null, .null, .null, .null, .null, .null, .null, .null, .long 0, .long 0, .long 0, .int 0, .int 0, .int 0, .null, .null, .null, .null, .null, .null, .null, .null, .null, .null, .null, .null, .null, .null, .null, .int 0, .null, .null, .null, .int 0, .int 0, .null, .null, .null, .null, .null, .null, .null, .null, .int 0, .null, .null, .null] : List Value).length = 150 := rfl
  refine lv_aload_n hx hb (dq tk_M_init_0 0 rfl) rfl (lv_at hl 0 rfl) ?_
  refine W.objInit hx hb hc.ho (hc.ht _ kw_1610) (hc.ht _ kw_32) (hc.ht _ kw_obj) rfl (by show ls.size = c.maxLocals; rw [hl.1]; exact hc.1.2.2.1.symm) rfl (dq tk_M_init_0 1 rfl) (Nat.le_of_ble_eq_true rfl) (Nat.le_of_ble_eq_true rfl) ?_
  refine W.eq (g2 := F0 m 4 ls []) rfl ?_
  refine lv_aload_n hx hb (dq tk_M_init_0 2 rfl) rfl (lv_at hl 0 rfl) ?_
  refine lv_bipush (v := 8) hx hb (dq tk_M_init_0 3 rfl) (by decide) ?_
  refine k_anew hc hw (t := 7) (N' := 8) kw_1611 hN.2.2.1 rfl (by decide) (by decide) (by decide) (Nat.le_of_ble_eq_true rfl) (Nat.le_of_ble_eq_true rfl) (dq tk_M_init_0 4 rfl) (fun H hw => ?_)
  refine lv_dup hx hb (dq tk_M_init_0 5 rfl) rfl ?_
  refine lv_iconst (v := 0) hx hb (dq tk_M_init_0 6 rfl) (by decide) ?_
  refine x_ldcS hc (idx := 11) (k := 0) (tx := "wait") (by decide +kernel) (dq tk_M_init_0 7 rfl) ?_
  refine k_aast hc hw (t := 7) rfl (k_anyS hc hw (by decide)) (show ¬ ((0 : Int32) < 0 ∨ 8 ≤ Int32.toNatClampNeg 0) by decide) (dq tk_M_init_0 8 rfl) (fun H locs hw => ?_)
  refine lv_dup hx hb (dq tk_M_init_0 9 rfl) rfl ?_
  refine lv_iconst (v := 1) hx hb (dq tk_M_init_0 10 rfl) (by decide) ?_
  refine x_ldcS hc (idx := 13) (k := 1) (tx := "gap") (by decide +kernel) (dq tk_M_init_0 11 rfl) ?_
  refine k_aast hc hw (t := 7) rfl (k_anyS hc hw (by decide)) (show ¬ ((1 : Int32) < 0 ∨ 8 ≤ Int32.toNatClampNeg 1) by decide) (dq tk_M_init_0 12 rfl) (fun H locs hw => ?_)
  refine lv_dup hx hb (dq tk_M_init_0 13 rfl) rfl ?_
  refine lv_iconst (v := 2) hx hb (dq tk_M_init_0 14 rfl) (by decide) ?_
  refine x_ldcS hc (idx := 15) (k := 2) (tx := "rate") (by decide +kernel) (dq tk_M_init_0 15 rfl) ?_
  refine k_aast hc hw (t := 7) rfl (k_anyS hc hw (by decide)) (show ¬ ((2 : Int32) < 0 ∨ 8 ≤ Int32.toNatClampNeg 2) by decide) (dq tk_M_init_0 16 rfl) (fun H locs hw => ?_)
  refine lv_dup hx hb (dq tk_M_init_0 17 rfl) rfl ?_
  refine lv_iconst (v := 3) hx hb (dq tk_M_init_0 18 rfl) (by decide) ?_
  refine x_ldcS hc (idx := 17) (k := 3) (tx := "days") (by decide +kernel) (dq tk_M_init_0 19 rfl) ?_
  refine k_aast hc hw (t := 7) rfl (k_anyS hc hw (by decide)) (show ¬ ((3 : Int32) < 0 ∨ 8 ≤ Int32.toNatClampNeg 3) by decide) (dq tk_M_init_0 20 rfl) (fun H locs hw => ?_)
  refine lv_dup hx hb (dq tk_M_init_0 21 rfl) rfl ?_
  refine lv_iconst (v := 4) hx hb (dq tk_M_init_0 22 rfl) (by decide) ?_
  refine x_ldcS hc (idx := 19) (k := 4) (tx := "per") (by decide +kernel) (dq tk_M_init_0 23 rfl) ?_
  refine k_aast hc hw (t := 7) rfl (k_anyS hc hw (by decide)) (show ¬ ((4 : Int32) < 0 ∨ 8 ≤ Int32.toNatClampNeg 4) by decide) (dq tk_M_init_0 24 rfl) (fun H locs hw => ?_)
  refine lv_dup hx hb (dq tk_M_init_0 25 rfl) rfl ?_
  refine lv_iconst (v := 5) hx hb (dq tk_M_init_0 26 rfl) (by decide) ?_
  refine x_ldcS hc (idx := 21) (k := 5) (tx := "extra") (by decide +kernel) (dq tk_M_init_0 27 rfl) ?_
  refine k_aast hc hw (t := 7) rfl (k_anyS hc hw (by decide)) (show ¬ ((5 : Int32) < 0 ∨ 8 ≤ Int32.toNatClampNeg 5) by decide) (dq tk_M_init_0 28 rfl) (fun H locs hw => ?_)
  refine lv_dup hx hb (dq tk_M_init_0 29 rfl) rfl ?_
  refine lv_bipush (v := 6) hx hb (dq tk_M_init_0 30 rfl) (by decide) ?_
  refine x_ldcS hc (idx := 23) (k := 6) (tx := "stamp") (by decide +kernel) (dq tk_M_init_0 31 rfl) ?_
  refine k_aast hc hw (t := 7) rfl (k_anyS hc hw (by decide)) (show ¬ ((6 : Int32) < 0 ∨ 8 ≤ Int32.toNatClampNeg 6) by decide) (dq tk_M_init_0 32 rfl) (fun H locs hw => ?_)
  refine lv_dup hx hb (dq tk_M_init_0 33 rfl) rfl ?_
  refine lv_bipush (v := 7) hx hb (dq tk_M_init_0 34 rfl) (by decide) ?_
  refine x_ldcS hc (idx := 25) (k := 7) (tx := "court") (by decide +kernel) (dq tk_M_init_0 35 rfl) ?_
  refine k_aast hc hw (t := 7) rfl (k_anyS hc hw (by decide)) (show ¬ ((7 : Int32) < 0 ∨ 8 ≤ Int32.toNatClampNeg 7) by decide) (dq tk_M_init_0 36 rfl) (fun H locs hw => ?_)
  replace hw := hw.as (g := fun i => some (Z.2.2.2 (0 + i))) (fun i hi => by rcases (show i = 0 ∨ i = 1 ∨ i = 2 ∨ i = 3 ∨ i = 4 ∨ i = 5 ∨ i = 6 ∨ i = 7 by omega) with rfl | rfl | rfl | rfl | rfl | rfl | rfl | rfl <;> rfl)
  replace hw := hw.drop (rfl)
  refine k_put hc hnm hw (k := 0) (ty := (.array (.object "java/lang/String"))) rfl inX12 tyX12_ok nmX12 (by decide) rfl hlen kw_1634 rfl rfl rfl (dq tk_M_init_0 37 rfl) (fun H locs hw hlen => ?_)
  refine lv_aload_n hx hb (dq tk_M_init_0 38 rfl) rfl (lv_at hl 0 rfl) ?_
  refine lv_bipush (v := 12) hx hb (dq tk_M_init_0 39 rfl) (by decide) ?_
  refine k_anew hc hw (t := 7) (N' := 12) kw_1611 hN.2.2.1 rfl (by decide) (by decide) (by decide) (Nat.le_of_ble_eq_true rfl) (Nat.le_of_ble_eq_true rfl) (dq tk_M_init_0 40 rfl) (fun H hw => ?_)
  refine lv_dup hx hb (dq tk_M_init_0 41 rfl) rfl ?_
  refine lv_iconst (v := 0) hx hb (dq tk_M_init_0 42 rfl) (by decide) ?_
  refine x_ldcS hc (idx := 31) (k := 8) (tx := "age") (by decide +kernel) (dq tk_M_init_0 43 rfl) ?_
  refine k_aast hc hw (t := 7) rfl (k_anyS hc hw (by decide)) (show ¬ ((0 : Int32) < 0 ∨ 12 ≤ Int32.toNatClampNeg 0) by decide) (dq tk_M_init_0 44 rfl) (fun H locs hw => ?_)
  refine lv_dup hx hb (dq tk_M_init_0 45 rfl) rfl ?_
  refine lv_iconst (v := 1) hx hb (dq tk_M_init_0 46 rfl) (by decide) ?_
  refine x_ldcS hc (idx := 33) (k := 9) (tx := "trade") (by decide +kernel) (dq tk_M_init_0 47 rfl) ?_
  refine k_aast hc hw (t := 7) rfl (k_anyS hc hw (by decide)) (show ¬ ((1 : Int32) < 0 ∨ 12 ≤ Int32.toNatClampNeg 1) by decide) (dq tk_M_init_0 48 rfl) (fun H locs hw => ?_)
  refine lv_dup hx hb (dq tk_M_init_0 49 rfl) rfl ?_
  refine lv_iconst (v := 2) hx hb (dq tk_M_init_0 50 rfl) (by decide) ?_
  refine x_ldcS hc (idx := 35) (k := 10) (tx := "usual") (by decide +kernel) (dq tk_M_init_0 51 rfl) ?_
  refine k_aast hc hw (t := 7) rfl (k_anyS hc hw (by decide)) (show ¬ ((2 : Int32) < 0 ∨ 12 ≤ Int32.toNatClampNeg 2) by decide) (dq tk_M_init_0 52 rfl) (fun H locs hw => ?_)
  refine lv_dup hx hb (dq tk_M_init_0 53 rfl) rfl ?_
  refine lv_iconst (v := 3) hx hb (dq tk_M_init_0 54 rfl) (by decide) ?_
  refine x_ldcS hc (idx := 37) (k := 11) (tx := "out") (by decide +kernel) (dq tk_M_init_0 55 rfl) ?_
  refine k_aast hc hw (t := 7) rfl (k_anyS hc hw (by decide)) (show ¬ ((3 : Int32) < 0 ∨ 12 ≤ Int32.toNatClampNeg 3) by decide) (dq tk_M_init_0 56 rfl) (fun H locs hw => ?_)
  refine lv_dup hx hb (dq tk_M_init_0 57 rfl) rfl ?_
  refine lv_iconst (v := 4) hx hb (dq tk_M_init_0 58 rfl) (by decide) ?_
  refine x_ldcS hc (idx := 39) (k := 12) (tx := "paid") (by decide +kernel) (dq tk_M_init_0 59 rfl) ?_
  refine k_aast hc hw (t := 7) rfl (k_anyS hc hw (by decide)) (show ¬ ((4 : Int32) < 0 ∨ 12 ≤ Int32.toNatClampNeg 4) by decide) (dq tk_M_init_1 0 rfl) (fun H locs hw => ?_)
  refine lv_dup hx hb (dq tk_M_init_1 1 rfl) rfl ?_
  refine lv_iconst (v := 5) hx hb (dq tk_M_init_1 2 rfl) (by decide) ?_
  refine x_ldcS hc (idx := 41) (k := 13) (tx := "stamps") (by decide +kernel) (dq tk_M_init_1 3 rfl) ?_
  refine k_aast hc hw (t := 7) rfl (k_anyS hc hw (by decide)) (show ¬ ((5 : Int32) < 0 ∨ 12 ≤ Int32.toNatClampNeg 5) by decide) (dq tk_M_init_1 4 rfl) (fun H locs hw => ?_)
  refine lv_dup hx hb (dq tk_M_init_1 5 rfl) rfl ?_
  refine lv_bipush (v := 6) hx hb (dq tk_M_init_1 6 rfl) (by decide) ?_
  refine x_ldcS hc (idx := 43) (k := 14) (tx := "unknown") (by decide +kernel) (dq tk_M_init_1 7 rfl) ?_
  refine k_aast hc hw (t := 7) rfl (k_anyS hc hw (by decide)) (show ¬ ((6 : Int32) < 0 ∨ 12 ≤ Int32.toNatClampNeg 6) by decide) (dq tk_M_init_1 8 rfl) (fun H locs hw => ?_)
  refine lv_dup hx hb (dq tk_M_init_1 9 rfl) rfl ?_
  refine lv_bipush (v := 7) hx hb (dq tk_M_init_1 10 rfl) (by decide) ?_
  refine x_ldcS hc (idx := 45) (k := 15) (tx := "means") (by decide +kernel) (dq tk_M_init_1 11 rfl) ?_
  refine k_aast hc hw (t := 7) rfl (k_anyS hc hw (by decide)) (show ¬ ((7 : Int32) < 0 ∨ 12 ≤ Int32.toNatClampNeg 7) by decide) (dq tk_M_init_1 12 rfl) (fun H locs hw => ?_)
  refine lv_dup hx hb (dq tk_M_init_1 13 rfl) rfl ?_
  refine lv_bipush (v := 8) hx hb (dq tk_M_init_1 14 rfl) (by decide) ?_
  refine x_ldcS hc (idx := 47) (k := 16) (tx := "reason") (by decide +kernel) (dq tk_M_init_1 15 rfl) ?_
  refine k_aast hc hw (t := 7) rfl (k_anyS hc hw (by decide)) (show ¬ ((8 : Int32) < 0 ∨ 12 ≤ Int32.toNatClampNeg 8) by decide) (dq tk_M_init_1 16 rfl) (fun H locs hw => ?_)
  refine lv_dup hx hb (dq tk_M_init_1 17 rfl) rfl ?_
  refine lv_bipush (v := 9) hx hb (dq tk_M_init_1 18 rfl) (by decide) ?_
  refine x_ldcS hc (idx := 49) (k := 17) (tx := "miles") (by decide +kernel) (dq tk_M_init_1 19 rfl) ?_
  refine k_aast hc hw (t := 7) rfl (k_anyS hc hw (by decide)) (show ¬ ((9 : Int32) < 0 ∨ 12 ≤ Int32.toNatClampNeg 9) by decide) (dq tk_M_init_1 20 rfl) (fun H locs hw => ?_)
  refine lv_dup hx hb (dq tk_M_init_1 21 rfl) rfl ?_
  refine lv_bipush (v := 10) hx hb (dq tk_M_init_1 22 rfl) (by decide) ?_
  refine x_ldcS hc (idx := 51) (k := 18) (tx := "wage") (by decide +kernel) (dq tk_M_init_1 23 rfl) ?_
  refine k_aast hc hw (t := 7) rfl (k_anyS hc hw (by decide)) (show ¬ ((10 : Int32) < 0 ∨ 12 ≤ Int32.toNatClampNeg 10) by decide) (dq tk_M_init_1 24 rfl) (fun H locs hw => ?_)
  refine lv_dup hx hb (dq tk_M_init_1 25 rfl) rfl ?_
  refine lv_bipush (v := 11) hx hb (dq tk_M_init_1 26 rfl) (by decide) ?_
  refine x_ldcS hc (idx := 53) (k := 19) (tx := "same") (by decide +kernel) (dq tk_M_init_1 27 rfl) ?_
  refine k_aast hc hw (t := 7) rfl (k_anyS hc hw (by decide)) (show ¬ ((11 : Int32) < 0 ∨ 12 ≤ Int32.toNatClampNeg 11) by decide) (dq tk_M_init_1 28 rfl) (fun H locs hw => ?_)
  replace hw := hw.as (g := fun i => some (Z.2.2.2 (8 + i))) (fun i hi => by rcases (show i = 0 ∨ i = 1 ∨ i = 2 ∨ i = 3 ∨ i = 4 ∨ i = 5 ∨ i = 6 ∨ i = 7 ∨ i = 8 ∨ i = 9 ∨ i = 10 ∨ i = 11 by omega) with rfl | rfl | rfl | rfl | rfl | rfl | rfl | rfl | rfl | rfl | rfl | rfl <;> rfl)
  replace hw := hw.drop (rfl)
  refine k_put hc hnm hw (k := 1) (ty := (.array (.object "java/lang/String"))) rfl inX12 tyX12_ok nmX12 (by decide) rfl hlen kw_1635 rfl rfl rfl (dq tk_M_init_1 29 rfl) (fun H locs hw hlen => ?_)
  refine lv_aload_n hx hb (dq tk_M_init_1 30 rfl) rfl (lv_at hl 0 rfl) ?_
  refine lv_bipush (v := 8) hx hb (dq tk_M_init_1 31 rfl) (by decide) ?_
  refine k_newa hc hw (t := 0) (N' := 8) (ty := .int) (a0 := (8, .inl (fun _ => 0))) rfl kw_154 rfl rfl (fun _ => rfl) (by decide) (by decide) (by decide) (Nat.le_of_ble_eq_true rfl) (Nat.le_of_ble_eq_true rfl) (dq tk_M_init_1 32 rfl) (fun H hw => ?_)
  refine lv_dup hx hb (dq tk_M_init_1 33 rfl) rfl ?_
  refine lv_iconst (v := 0) hx hb (dq tk_M_init_1 34 rfl) (by decide) ?_
  refine lv_iconst (v := 3) hx hb (dq tk_M_init_1 35 rfl) (by decide) ?_
  refine k_ast hc hw (t := 0) rfl (show ¬ ((0 : Int32) < 0 ∨ 8 ≤ Int32.toNatClampNeg 0) by decide) (dq tk_M_init_1 36 rfl) (fun H locs hw => ?_)
  refine lv_dup hx hb (dq tk_M_init_1 37 rfl) rfl ?_
  refine lv_iconst (v := 1) hx hb (dq tk_M_init_1 38 rfl) (by decide) ?_
  refine lv_bipush (v := 18) hx hb (dq tk_M_init_1 39 rfl) (by decide) ?_
  refine k_ast hc hw (t := 0) rfl (show ¬ ((1 : Int32) < 0 ∨ 8 ≤ Int32.toNatClampNeg 1) by decide) (dq tk_M_init_1 40 rfl) (fun H locs hw => ?_)
  refine lv_dup hx hb (dq tk_M_init_1 41 rfl) rfl ?_
  refine lv_iconst (v := 2) hx hb (dq tk_M_init_1 42 rfl) (by decide) ?_
  refine lv_bipush (v := 10) hx hb (dq tk_M_init_1 43 rfl) (by decide) ?_
  refine k_ast hc hw (t := 0) rfl (show ¬ ((2 : Int32) < 0 ∨ 8 ≤ Int32.toNatClampNeg 2) by decide) (dq tk_M_init_1 44 rfl) (fun H locs hw => ?_)
  refine lv_dup hx hb (dq tk_M_init_1 45 rfl) rfl ?_
  refine lv_iconst (v := 3) hx hb (dq tk_M_init_1 46 rfl) (by decide) ?_
  refine lv_bipush (v := 60) hx hb (dq tk_M_init_1 47 rfl) (by decide) ?_
  refine k_ast hc hw (t := 0) rfl (show ¬ ((3 : Int32) < 0 ∨ 8 ≤ Int32.toNatClampNeg 3) by decide) (dq tk_M_init_1 48 rfl) (fun H locs hw => ?_)
  refine lv_dup hx hb (dq tk_M_init_1 49 rfl) rfl ?_
  refine lv_iconst (v := 4) hx hb (dq tk_M_init_1 50 rfl) (by decide) ?_
  refine lv_iconst (v := 3) hx hb (dq tk_M_init_1 51 rfl) (by decide) ?_
  refine k_ast hc hw (t := 0) rfl (show ¬ ((4 : Int32) < 0 ∨ 8 ≤ Int32.toNatClampNeg 4) by decide) (dq tk_M_init_1 52 rfl) (fun H locs hw => ?_)
  refine lv_dup hx hb (dq tk_M_init_1 53 rfl) rfl ?_
  refine lv_iconst (v := 5) hx hb (dq tk_M_init_1 54 rfl) (by decide) ?_
  refine lv_iconst (v := 0) hx hb (dq tk_M_init_1 55 rfl) (by decide) ?_
  refine k_ast hc hw (t := 0) rfl (show ¬ ((5 : Int32) < 0 ∨ 8 ≤ Int32.toNatClampNeg 5) by decide) (dq tk_M_init_1 56 rfl) (fun H locs hw => ?_)
  refine lv_dup hx hb (dq tk_M_init_1 57 rfl) rfl ?_
  refine lv_bipush (v := 6) hx hb (dq tk_M_init_1 58 rfl) (by decide) ?_
  refine lv_iconst (v := 2) hx hb (dq tk_M_init_1 59 rfl) (by decide) ?_
  refine k_ast hc hw (t := 0) rfl (show ¬ ((6 : Int32) < 0 ∨ 8 ≤ Int32.toNatClampNeg 6) by decide) (dq tk_M_init_2 0 rfl) (fun H locs hw => ?_)
  refine lv_dup hx hb (dq tk_M_init_2 1 rfl) rfl ?_
  refine lv_bipush (v := 7) hx hb (dq tk_M_init_2 2 rfl) (by decide) ?_
  refine lv_bipush (v := 12) hx hb (dq tk_M_init_2 3 rfl) (by decide) ?_
  refine k_ast hc hw (t := 0) rfl (show ¬ ((7 : Int32) < 0 ∨ 8 ≤ Int32.toNatClampNeg 7) by decide) (dq tk_M_init_2 4 rfl) (fun H locs hw => ?_)
  replace hw := hw.drop (rfl)
  refine k_put hc hnm hw (k := 2) (ty := (.array .int)) rfl inX12 tyX12_ok nmX12 (by decide) rfl hlen kw_1636 rfl rfl rfl (dq tk_M_init_2 5 rfl) (fun H locs hw hlen => ?_)
  refine lv_aload_n hx hb (dq tk_M_init_2 6 rfl) rfl (lv_at hl 0 rfl) ?_
  refine lv_sipush (v := 312) hx hb (dq tk_M_init_2 7 rfl) (by decide) ?_
  refine k_put hc hnm hw (k := 4) (ty := .int) rfl inX12 tyX12_ok nmX12 (by decide) rfl hlen kw_1638 rfl rfl rfl (dq tk_M_init_2 8 rfl) (fun H locs hw hlen => ?_)
  refine lv_aload_n hx hb (dq tk_M_init_2 9 rfl) rfl (lv_at hl 0 rfl) ?_
  refine lv_iconst (v := (-1)) hx hb (dq tk_M_init_2 10 rfl) (by decide) ?_
  refine k_put hc hnm hw (k := 5) (ty := .int) rfl inX12 tyX12_ok nmX12 (by decide) rfl hlen kw_1639 rfl rfl rfl (dq tk_M_init_2 11 rfl) (fun H locs hw hlen => ?_)
  refine lv_aload_n hx hb (dq tk_M_init_2 12 rfl) rfl (lv_at hl 0 rfl) ?_
  refine lv_bipush (v := 8) hx hb (dq tk_M_init_2 13 rfl) (by decide) ?_
  refine k_newa hc hw (t := 0) (N' := 8) (ty := .int) (a0 := (8, .inl (fun _ => 0))) rfl kw_154 rfl rfl (fun _ => rfl) (by decide) (by decide) (by decide) (Nat.le_of_ble_eq_true rfl) (Nat.le_of_ble_eq_true rfl) (dq tk_M_init_2 14 rfl) (fun H hw => ?_)
  replace hw := hw.drop (rfl)
  refine k_put hc hnm hw (k := 8) (ty := (.array .int)) rfl inX12 tyX12_ok nmX12 (by decide) rfl hlen kw_1642 rfl rfl rfl (dq tk_M_init_2 15 rfl) (fun H locs hw hlen => ?_)
  refine lv_aload_n hx hb (dq tk_M_init_2 16 rfl) rfl (lv_at hl 0 rfl) ?_
  refine lv_bipush (v := 8) hx hb (dq tk_M_init_2 17 rfl) (by decide) ?_
  refine k_newa hc hw (t := 0) (N' := 8) (ty := .int) (a0 := (8, .inl (fun _ => 0))) rfl kw_154 rfl rfl (fun _ => rfl) (by decide) (by decide) (by decide) (Nat.le_of_ble_eq_true rfl) (Nat.le_of_ble_eq_true rfl) (dq tk_M_init_2 18 rfl) (fun H hw => ?_)
  replace hw := hw.drop (rfl)
  refine k_put hc hnm hw (k := 9) (ty := (.array .int)) rfl inX12 tyX12_ok nmX12 (by decide) rfl hlen kw_1643 rfl rfl rfl (dq tk_M_init_2 19 rfl) (fun H locs hw hlen => ?_)
  refine lv_aload_n hx hb (dq tk_M_init_2 20 rfl) rfl (lv_at hl 0 rfl) ?_
  refine lv_bipush (v := 20) hx hb (dq tk_M_init_2 21 rfl) (by decide) ?_
  refine k_newa hc hw (t := 0) (N' := 20) (ty := .int) (a0 := (20, .inl (fun _ => 0))) rfl kw_154 rfl rfl (fun _ => rfl) (by decide) (by decide) (by decide) (Nat.le_of_ble_eq_true rfl) (Nat.le_of_ble_eq_true rfl) (dq tk_M_init_2 22 rfl) (fun H hw => ?_)
  replace hw := hw.drop (rfl)
  refine k_put hc hnm hw (k := 10) (ty := (.array .int)) rfl inX12 tyX12_ok nmX12 (by decide) rfl hlen kw_1644 rfl rfl rfl (dq tk_M_init_2 23 rfl) (fun H locs hw hlen => ?_)
  replace hw : Kw Z τ0 566 [(0, .inr (12, [.ref (Z.1 + 566 + 1), .ref (Z.1 + 566 + 2), .ref (Z.1 + 566 + 3), .int 0, .int 312, .int (-1), .int 0, .int 0, .ref (Z.1 + 566 + 4), .ref (Z.1 + 566 + 5), .ref (Z.1 + 566 + 6), .null, .null, .null, .null, .int 0, .int 0, .int 0, .int 0, .null, .null, .null, .null, .null, .null, .null, .null, .null, .null, .null, .null, .null, .null, .null, .null, .null, .null, .null, .null, .null, .null, .null, .null, .null, .null, .null, .int 0, .int 0, .int 0, .int 0, .int 0, .int 0, .int 0, .int 0, .int 0, .int 0, .int 0, .int 0, .int 0, .null, .null, .null, .int 0, .null, .null, .int 0, .null, .int 0, .int 0, .int 0, .int 0, .int 0, .int 0, .int 0, .null, .null, .null, .null, .null, .null, .null, .null, .null, .null, .null, .int 0, .int 0, .null, .null, .null, .null, .null, .null, .null, .null, .null, .null, .null, .null, .null, .null, .null, .null, .null, .null, .null, .null, .null, .null, .null, .null, .long 0, .long 0, .long 0, .int 0, .int 0, .int 0, .null, .null, .null, .null, .null, .null, .null, .null, .null, .null, .null, .null, .null, .null, .null, .int 0, .null, .null, .null, .int 0, .int 0, .null, .null, .null, .null, .null, .null, .null, .null, .int 0, .null, .null, .null]))] 7 s H locs := hw
  replace hlen : ([.ref (Z.1 + 566 + 1), .ref (Z.1 + 566 + 2), .ref (Z.1 + 566 + 3), .int 0, .int 312, .int (-1), .int 0, .int 0, .ref (Z.1 + 566 + 4), .ref (Z.1 + 566 + 5), .ref (Z.1 + 566 + 6), .null, .null, .null, .null, .int 0, .int 0, .int 0, .int 0, .null, .null, .null, .null, .null, .null, .null, .null, .null, .null, .null, .null, .null, .null, .null, .null, .null, .null, .null, .null, .null, .null, .null, .null, .null, .null, .null, .int 0, .int 0, .int 0, .int 0, .int 0, .int 0, .int 0, .int 0, .int 0, .int 0, .int 0, .int 0, .int 0, .null, .null, .null, .int 0, .null, .null, .int 0, .null, .int 0, .int 0, .int 0, .int 0, .int 0, .int 0, .int 0, .null, .null, .null, .null, .null, .null, .null, .null, .null, .null, .null, .int 0, .int 0, .null, .null, .null, .null, .null, .null, .null, .null, .null, .null, .null, .null, .null, .null, .null, .null, .null, .null, .null, .null, .null, .null, .null, .null, .long 0, .long 0, .long 0, .int 0, .int 0, .int 0, .null, .null, .null, .null, .null, .null, .null, .null, .null, .null, .null, .null, .null, .null, .null, .int 0, .null, .null, .null, .int 0, .int 0, .null, .null, .null, .null, .null, .null, .null, .null, .int 0, .null, .null, .null] : List Value).length = 150 := rfl
  refine lv_aload_n hx hb (dq tk_M_init_2 24 rfl) rfl (lv_at hl 0 rfl) ?_
  refine lv_bipush (v := 20) hx hb (dq tk_M_init_2 25 rfl) (by decide) ?_
  refine k_newa hc hw (t := 0) (N' := 20) (ty := .int) (a0 := (20, .inl (fun _ => 0))) rfl kw_154 rfl rfl (fun _ => rfl) (by decide) (by decide) (by decide) (Nat.le_of_ble_eq_true rfl) (Nat.le_of_ble_eq_true rfl) (dq tk_M_init_2 26 rfl) (fun H hw => ?_)
  replace hw := hw.drop (rfl)
  refine k_put hc hnm hw (k := 11) (ty := (.array .int)) rfl inX12 tyX12_ok nmX12 (by decide) rfl hlen kw_1645 rfl rfl rfl (dq tk_M_init_2 27 rfl) (fun H locs hw hlen => ?_)
  refine lv_aload_n hx hb (dq tk_M_init_2 28 rfl) rfl (lv_at hl 0 rfl) ?_
  refine lv_bipush (v := 20) hx hb (dq tk_M_init_2 29 rfl) (by decide) ?_
  refine k_newa hc hw (t := 0) (N' := 20) (ty := .int) (a0 := (20, .inl (fun _ => 0))) rfl kw_154 rfl rfl (fun _ => rfl) (by decide) (by decide) (by decide) (Nat.le_of_ble_eq_true rfl) (Nat.le_of_ble_eq_true rfl) (dq tk_M_init_2 30 rfl) (fun H hw => ?_)
  replace hw := hw.drop (rfl)
  refine k_put hc hnm hw (k := 12) (ty := (.array .int)) rfl inX12 tyX12_ok nmX12 (by decide) rfl hlen kw_1646 rfl rfl rfl (dq tk_M_init_2 31 rfl) (fun H locs hw hlen => ?_)
  refine lv_aload_n hx hb (dq tk_M_init_2 32 rfl) rfl (lv_at hl 0 rfl) ?_
  refine lv_bipush (v := 20) hx hb (dq tk_M_init_2 33 rfl) (by decide) ?_
  refine k_newa hc hw (t := 0) (N' := 20) (ty := .int) (a0 := (20, .inl (fun _ => 0))) rfl kw_154 rfl rfl (fun _ => rfl) (by decide) (by decide) (by decide) (Nat.le_of_ble_eq_true rfl) (Nat.le_of_ble_eq_true rfl) (dq tk_M_init_2 34 rfl) (fun H hw => ?_)
  replace hw := hw.drop (rfl)
  refine k_put hc hnm hw (k := 13) (ty := (.array .int)) rfl inX12 tyX12_ok nmX12 (by decide) rfl hlen kw_1647 rfl rfl rfl (dq tk_M_init_2 35 rfl) (fun H locs hw hlen => ?_)
  refine lv_aload_n hx hb (dq tk_M_init_2 36 rfl) rfl (lv_at hl 0 rfl) ?_
  refine lv_bipush (v := 20) hx hb (dq tk_M_init_2 37 rfl) (by decide) ?_
  refine k_newa hc hw (t := 0) (N' := 20) (ty := .int) (a0 := (20, .inl (fun _ => 0))) rfl kw_154 rfl rfl (fun _ => rfl) (by decide) (by decide) (by decide) (Nat.le_of_ble_eq_true rfl) (Nat.le_of_ble_eq_true rfl) (dq tk_M_init_2 38 rfl) (fun H hw => ?_)
  replace hw := hw.drop (rfl)
  refine k_put hc hnm hw (k := 14) (ty := (.array .int)) rfl inX12 tyX12_ok nmX12 (by decide) rfl hlen kw_1648 rfl rfl rfl (dq tk_M_init_2 39 rfl) (fun H locs hw hlen => ?_)
  refine lv_aload_n hx hb (dq tk_M_init_2 40 rfl) rfl (lv_at hl 0 rfl) ?_
  refine lv_bipush (v := 60) hx hb (dq tk_M_init_2 41 rfl) (by decide) ?_
  refine k_newa hc hw (t := 0) (N' := 60) (ty := .int) (a0 := (60, .inl (fun _ => 0))) rfl kw_154 rfl rfl (fun _ => rfl) (by decide) (by decide) (by decide) (Nat.le_of_ble_eq_true rfl) (Nat.le_of_ble_eq_true rfl) (dq tk_M_init_2 42 rfl) (fun H hw => ?_)
  replace hw := hw.drop (rfl)
  refine k_put hc hnm hw (k := 19) (ty := (.array .int)) rfl inX12 tyX12_ok nmX12 (by decide) rfl hlen kw_1653 rfl rfl rfl (dq tk_M_init_2 43 rfl) (fun H locs hw hlen => ?_)
  refine lv_aload_n hx hb (dq tk_M_init_2 44 rfl) rfl (lv_at hl 0 rfl) ?_
  refine lv_bipush (v := 60) hx hb (dq tk_M_init_2 45 rfl) (by decide) ?_
  refine k_newa hc hw (t := 0) (N' := 60) (ty := .int) (a0 := (60, .inl (fun _ => 0))) rfl kw_154 rfl rfl (fun _ => rfl) (by decide) (by decide) (by decide) (Nat.le_of_ble_eq_true rfl) (Nat.le_of_ble_eq_true rfl) (dq tk_M_init_2 46 rfl) (fun H hw => ?_)
  replace hw := hw.drop (rfl)
  refine k_put hc hnm hw (k := 20) (ty := (.array .int)) rfl inX12 tyX12_ok nmX12 (by decide) rfl hlen kw_1654 rfl rfl rfl (dq tk_M_init_2 47 rfl) (fun H locs hw hlen => ?_)
  refine lv_aload_n hx hb (dq tk_M_init_2 48 rfl) rfl (lv_at hl 0 rfl) ?_
  refine lv_bipush (v := 60) hx hb (dq tk_M_init_2 49 rfl) (by decide) ?_
  refine k_newa hc hw (t := 0) (N' := 60) (ty := .int) (a0 := (60, .inl (fun _ => 0))) rfl kw_154 rfl rfl (fun _ => rfl) (by decide) (by decide) (by decide) (Nat.le_of_ble_eq_true rfl) (Nat.le_of_ble_eq_true rfl) (dq tk_M_init_2 50 rfl) (fun H hw => ?_)
  replace hw := hw.drop (rfl)
  refine k_put hc hnm hw (k := 21) (ty := (.array .int)) rfl inX12 tyX12_ok nmX12 (by decide) rfl hlen kw_1655 rfl rfl rfl (dq tk_M_init_2 51 rfl) (fun H locs hw hlen => ?_)
  refine lv_aload_n hx hb (dq tk_M_init_2 52 rfl) rfl (lv_at hl 0 rfl) ?_
  refine lv_bipush (v := 60) hx hb (dq tk_M_init_2 53 rfl) (by decide) ?_
  refine k_newa hc hw (t := 0) (N' := 60) (ty := .int) (a0 := (60, .inl (fun _ => 0))) rfl kw_154 rfl rfl (fun _ => rfl) (by decide) (by decide) (by decide) (Nat.le_of_ble_eq_true rfl) (Nat.le_of_ble_eq_true rfl) (dq tk_M_init_2 54 rfl) (fun H hw => ?_)
  replace hw := hw.drop (rfl)
  refine k_put hc hnm hw (k := 22) (ty := (.array .int)) rfl inX12 tyX12_ok nmX12 (by decide) rfl hlen kw_1656 rfl rfl rfl (dq tk_M_init_2 55 rfl) (fun H locs hw hlen => ?_)
  replace hw : Kw Z τ0 566 [(0, .inr (12, [.ref (Z.1 + 566 + 1), .ref (Z.1 + 566 + 2), .ref (Z.1 + 566 + 3), .int 0, .int 312, .int (-1), .int 0, .int 0, .ref (Z.1 + 566 + 4), .ref (Z.1 + 566 + 5), .ref (Z.1 + 566 + 6), .ref (Z.1 + 566 + 7), .ref (Z.1 + 566 + 8), .ref (Z.1 + 566 + 9), .ref (Z.1 + 566 + 10), .int 0, .int 0, .int 0, .int 0, .ref (Z.1 + 566 + 11), .ref (Z.1 + 566 + 12), .ref (Z.1 + 566 + 13), .ref (Z.1 + 566 + 14), .null, .null, .null, .null, .null, .null, .null, .null, .null, .null, .null, .null, .null, .null, .null, .null, .null, .null, .null, .null, .null, .null, .null, .int 0, .int 0, .int 0, .int 0, .int 0, .int 0, .int 0, .int 0, .int 0, .int 0, .int 0, .int 0, .int 0, .null, .null, .null, .int 0, .null, .null, .int 0, .null, .int 0, .int 0, .int 0, .int 0, .int 0, .int 0, .int 0, .null, .null, .null, .null, .null, .null, .null, .null, .null, .null, .null, .int 0, .int 0, .null, .null, .null, .null, .null, .null, .null, .null, .null, .null, .null, .null, .null, .null, .null, .null, .null, .null, .null, .null, .null, .null, .null, .null, .long 0, .long 0, .long 0, .int 0, .int 0, .int 0, .null, .null, .null, .null, .null, .null, .null, .null, .null, .null, .null, .null, .null, .null, .null, .int 0, .null, .null, .null, .int 0, .int 0, .null, .null, .null, .null, .null, .null, .null, .null, .int 0, .null, .null, .null]))] 15 s H locs := hw
  replace hlen : ([.ref (Z.1 + 566 + 1), .ref (Z.1 + 566 + 2), .ref (Z.1 + 566 + 3), .int 0, .int 312, .int (-1), .int 0, .int 0, .ref (Z.1 + 566 + 4), .ref (Z.1 + 566 + 5), .ref (Z.1 + 566 + 6), .ref (Z.1 + 566 + 7), .ref (Z.1 + 566 + 8), .ref (Z.1 + 566 + 9), .ref (Z.1 + 566 + 10), .int 0, .int 0, .int 0, .int 0, .ref (Z.1 + 566 + 11), .ref (Z.1 + 566 + 12), .ref (Z.1 + 566 + 13), .ref (Z.1 + 566 + 14), .null, .null, .null, .null, .null, .null, .null, .null, .null, .null, .null, .null, .null, .null, .null, .null, .null, .null, .null, .null, .null, .null, .null, .int 0, .int 0, .int 0, .int 0, .int 0, .int 0, .int 0, .int 0, .int 0, .int 0, .int 0, .int 0, .int 0, .null, .null, .null, .int 0, .null, .null, .int 0, .null, .int 0, .int 0, .int 0, .int 0, .int 0, .int 0, .int 0, .null, .null, .null, .null, .null, .null, .null, .null, .null, .null, .null, .int 0, .int 0, .null, .null, .null, .null, .null, .null, .null, .null, .null, .null, .null, .null, .null, .null, .null, .null, .null, .null, .null, .null, .null, .null, .null, .null, .long 0, .long 0, .long 0, .int 0, .int 0, .int 0, .null, .null, .null, .null, .null, .null, .null, .null, .null, .null, .null, .null, .null, .null, .null, .int 0, .null, .null, .null, .int 0, .int 0, .null, .null, .null, .null, .null, .null, .null, .null, .int 0, .null, .null, .null] : List Value).length = 150 := rfl
  refine lv_aload_n hx hb (dq tk_M_init_2 56 rfl) rfl (lv_at hl 0 rfl) ?_
  refine lv_sipush (v := 3120) hx hb (dq tk_M_init_2 57 rfl) (by decide) ?_
  refine k_newa hc hw (t := 0) (N' := 3120) (ty := .int) (a0 := (3120, .inl (fun _ => 0))) rfl kw_154 rfl rfl (fun _ => rfl) (by decide) (by decide) (by decide) (Nat.le_of_ble_eq_true rfl) (Nat.le_of_ble_eq_true rfl) (dq tk_M_init_2 58 rfl) (fun H hw => ?_)
  replace hw := hw.drop (rfl)
  refine k_put hc hnm hw (k := 23) (ty := (.array .int)) rfl inX12 tyX12_ok nmX12 (by decide) rfl hlen kw_1657 rfl rfl rfl (dq tk_M_init_2 59 rfl) (fun H locs hw hlen => ?_)
  refine lv_aload_n hx hb (dq tk_M_init_3 0 rfl) rfl (lv_at hl 0 rfl) ?_
  refine lv_bipush (v := 100) hx hb (dq tk_M_init_3 1 rfl) (by decide) ?_
  refine k_newa hc hw (t := 0) (N' := 100) (ty := .int) (a0 := (100, .inl (fun _ => 0))) rfl kw_154 rfl rfl (fun _ => rfl) (by decide) (by decide) (by decide) (Nat.le_of_ble_eq_true rfl) (Nat.le_of_ble_eq_true rfl) (dq tk_M_init_3 2 rfl) (fun H hw => ?_)
  replace hw := hw.drop (rfl)
  refine k_put hc hnm hw (k := 24) (ty := (.array .int)) rfl inX12 tyX12_ok nmX12 (by decide) rfl hlen kw_1658 rfl rfl rfl (dq tk_M_init_3 3 rfl) (fun H locs hw hlen => ?_)
  refine lv_aload_n hx hb (dq tk_M_init_3 4 rfl) rfl (lv_at hl 0 rfl) ?_
  refine lv_bipush (v := 100) hx hb (dq tk_M_init_3 5 rfl) (by decide) ?_
  refine k_newa hc hw (t := 0) (N' := 100) (ty := .int) (a0 := (100, .inl (fun _ => 0))) rfl kw_154 rfl rfl (fun _ => rfl) (by decide) (by decide) (by decide) (Nat.le_of_ble_eq_true rfl) (Nat.le_of_ble_eq_true rfl) (dq tk_M_init_3 6 rfl) (fun H hw => ?_)
  replace hw := hw.drop (rfl)
  refine k_put hc hnm hw (k := 25) (ty := (.array .int)) rfl inX12 tyX12_ok nmX12 (by decide) rfl hlen kw_1659 rfl rfl rfl (dq tk_M_init_3 7 rfl) (fun H locs hw hlen => ?_)
  refine lv_aload_n hx hb (dq tk_M_init_3 8 rfl) rfl (lv_at hl 0 rfl) ?_
  refine lv_bipush (v := 100) hx hb (dq tk_M_init_3 9 rfl) (by decide) ?_
  refine k_newa hc hw (t := 0) (N' := 100) (ty := .int) (a0 := (100, .inl (fun _ => 0))) rfl kw_154 rfl rfl (fun _ => rfl) (by decide) (by decide) (by decide) (Nat.le_of_ble_eq_true rfl) (Nat.le_of_ble_eq_true rfl) (dq tk_M_init_3 10 rfl) (fun H hw => ?_)
  replace hw := hw.drop (rfl)
  refine k_put hc hnm hw (k := 26) (ty := (.array .int)) rfl inX12 tyX12_ok nmX12 (by decide) rfl hlen kw_1660 rfl rfl rfl (dq tk_M_init_3 11 rfl) (fun H locs hw hlen => ?_)
  refine lv_aload_n hx hb (dq tk_M_init_3 12 rfl) rfl (lv_at hl 0 rfl) ?_
  refine lv_bipush (v := 100) hx hb (dq tk_M_init_3 13 rfl) (by decide) ?_
  refine k_newa hc hw (t := 0) (N' := 100) (ty := .int) (a0 := (100, .inl (fun _ => 0))) rfl kw_154 rfl rfl (fun _ => rfl) (by decide) (by decide) (by decide) (Nat.le_of_ble_eq_true rfl) (Nat.le_of_ble_eq_true rfl) (dq tk_M_init_3 14 rfl) (fun H hw => ?_)
  replace hw := hw.drop (rfl)
  refine k_put hc hnm hw (k := 27) (ty := (.array .int)) rfl inX12 tyX12_ok nmX12 (by decide) rfl hlen kw_1661 rfl rfl rfl (dq tk_M_init_3 15 rfl) (fun H locs hw hlen => ?_)
  refine lv_aload_n hx hb (dq tk_M_init_3 16 rfl) rfl (lv_at hl 0 rfl) ?_
  refine lv_sipush (v := 160) hx hb (dq tk_M_init_3 17 rfl) (by decide) ?_
  refine k_newa hc hw (t := 0) (N' := 160) (ty := .int) (a0 := (160, .inl (fun _ => 0))) rfl kw_154 rfl rfl (fun _ => rfl) (by decide) (by decide) (by decide) (Nat.le_of_ble_eq_true rfl) (Nat.le_of_ble_eq_true rfl) (dq tk_M_init_3 18 rfl) (fun H hw => ?_)
  replace hw := hw.drop (rfl)
  refine k_put hc hnm hw (k := 28) (ty := (.array .int)) rfl inX12 tyX12_ok nmX12 (by decide) rfl hlen kw_1662 rfl rfl rfl (dq tk_M_init_3 19 rfl) (fun H locs hw hlen => ?_)
  refine lv_aload_n hx hb (dq tk_M_init_3 20 rfl) rfl (lv_at hl 0 rfl) ?_
  refine lv_sipush (v := 160) hx hb (dq tk_M_init_3 21 rfl) (by decide) ?_
  refine k_newa hc hw (t := 0) (N' := 160) (ty := .int) (a0 := (160, .inl (fun _ => 0))) rfl kw_154 rfl rfl (fun _ => rfl) (by decide) (by decide) (by decide) (Nat.le_of_ble_eq_true rfl) (Nat.le_of_ble_eq_true rfl) (dq tk_M_init_3 22 rfl) (fun H hw => ?_)
  replace hw := hw.drop (rfl)
  refine k_put hc hnm hw (k := 29) (ty := (.array .int)) rfl inX12 tyX12_ok nmX12 (by decide) rfl hlen kw_1663 rfl rfl rfl (dq tk_M_init_3 23 rfl) (fun H locs hw hlen => ?_)
  refine lv_aload_n hx hb (dq tk_M_init_3 24 rfl) rfl (lv_at hl 0 rfl) ?_
  refine lv_sipush (v := 160) hx hb (dq tk_M_init_3 25 rfl) (by decide) ?_
  refine k_newa hc hw (t := 0) (N' := 160) (ty := .int) (a0 := (160, .inl (fun _ => 0))) rfl kw_154 rfl rfl (fun _ => rfl) (by decide) (by decide) (by decide) (Nat.le_of_ble_eq_true rfl) (Nat.le_of_ble_eq_true rfl) (dq tk_M_init_3 26 rfl) (fun H hw => ?_)
  replace hw := hw.drop (rfl)
  refine k_put hc hnm hw (k := 30) (ty := (.array .int)) rfl inX12 tyX12_ok nmX12 (by decide) rfl hlen kw_1664 rfl rfl rfl (dq tk_M_init_3 27 rfl) (fun H locs hw hlen => ?_)
  replace hw : Kw Z τ0 566 [(0, .inr (12, [.ref (Z.1 + 566 + 1), .ref (Z.1 + 566 + 2), .ref (Z.1 + 566 + 3), .int 0, .int 312, .int (-1), .int 0, .int 0, .ref (Z.1 + 566 + 4), .ref (Z.1 + 566 + 5), .ref (Z.1 + 566 + 6), .ref (Z.1 + 566 + 7), .ref (Z.1 + 566 + 8), .ref (Z.1 + 566 + 9), .ref (Z.1 + 566 + 10), .int 0, .int 0, .int 0, .int 0, .ref (Z.1 + 566 + 11), .ref (Z.1 + 566 + 12), .ref (Z.1 + 566 + 13), .ref (Z.1 + 566 + 14), .ref (Z.1 + 566 + 15), .ref (Z.1 + 566 + 16), .ref (Z.1 + 566 + 17), .ref (Z.1 + 566 + 18), .ref (Z.1 + 566 + 19), .ref (Z.1 + 566 + 20), .ref (Z.1 + 566 + 21), .ref (Z.1 + 566 + 22), .null, .null, .null, .null, .null, .null, .null, .null, .null, .null, .null, .null, .null, .null, .null, .int 0, .int 0, .int 0, .int 0, .int 0, .int 0, .int 0, .int 0, .int 0, .int 0, .int 0, .int 0, .int 0, .null, .null, .null, .int 0, .null, .null, .int 0, .null, .int 0, .int 0, .int 0, .int 0, .int 0, .int 0, .int 0, .null, .null, .null, .null, .null, .null, .null, .null, .null, .null, .null, .int 0, .int 0, .null, .null, .null, .null, .null, .null, .null, .null, .null, .null, .null, .null, .null, .null, .null, .null, .null, .null, .null, .null, .null, .null, .null, .null, .long 0, .long 0, .long 0, .int 0, .int 0, .int 0, .null, .null, .null, .null, .null, .null, .null, .null, .null, .null, .null, .null, .null, .null, .null, .int 0, .null, .null, .null, .int 0, .int 0, .null, .null, .null, .null, .null, .null, .null, .null, .int 0, .null, .null, .null]))] 23 s H locs := hw
  replace hlen : ([.ref (Z.1 + 566 + 1), .ref (Z.1 + 566 + 2), .ref (Z.1 + 566 + 3), .int 0, .int 312, .int (-1), .int 0, .int 0, .ref (Z.1 + 566 + 4), .ref (Z.1 + 566 + 5), .ref (Z.1 + 566 + 6), .ref (Z.1 + 566 + 7), .ref (Z.1 + 566 + 8), .ref (Z.1 + 566 + 9), .ref (Z.1 + 566 + 10), .int 0, .int 0, .int 0, .int 0, .ref (Z.1 + 566 + 11), .ref (Z.1 + 566 + 12), .ref (Z.1 + 566 + 13), .ref (Z.1 + 566 + 14), .ref (Z.1 + 566 + 15), .ref (Z.1 + 566 + 16), .ref (Z.1 + 566 + 17), .ref (Z.1 + 566 + 18), .ref (Z.1 + 566 + 19), .ref (Z.1 + 566 + 20), .ref (Z.1 + 566 + 21), .ref (Z.1 + 566 + 22), .null, .null, .null, .null, .null, .null, .null, .null, .null, .null, .null, .null, .null, .null, .null, .int 0, .int 0, .int 0, .int 0, .int 0, .int 0, .int 0, .int 0, .int 0, .int 0, .int 0, .int 0, .int 0, .null, .null, .null, .int 0, .null, .null, .int 0, .null, .int 0, .int 0, .int 0, .int 0, .int 0, .int 0, .int 0, .null, .null, .null, .null, .null, .null, .null, .null, .null, .null, .null, .int 0, .int 0, .null, .null, .null, .null, .null, .null, .null, .null, .null, .null, .null, .null, .null, .null, .null, .null, .null, .null, .null, .null, .null, .null, .null, .null, .long 0, .long 0, .long 0, .int 0, .int 0, .int 0, .null, .null, .null, .null, .null, .null, .null, .null, .null, .null, .null, .null, .null, .null, .null, .int 0, .null, .null, .null, .int 0, .int 0, .null, .null, .null, .null, .null, .null, .null, .null, .int 0, .null, .null, .null] : List Value).length = 150 := rfl
  refine lv_aload_n hx hb (dq tk_M_init_3 28 rfl) rfl (lv_at hl 0 rfl) ?_
  refine lv_sipush (v := 160) hx hb (dq tk_M_init_3 29 rfl) (by decide) ?_
  refine k_newa hc hw (t := 0) (N' := 160) (ty := .int) (a0 := (160, .inl (fun _ => 0))) rfl kw_154 rfl rfl (fun _ => rfl) (by decide) (by decide) (by decide) (Nat.le_of_ble_eq_true rfl) (Nat.le_of_ble_eq_true rfl) (dq tk_M_init_3 30 rfl) (fun H hw => ?_)
  replace hw := hw.drop (rfl)
  refine k_put hc hnm hw (k := 31) (ty := (.array .int)) rfl inX12 tyX12_ok nmX12 (by decide) rfl hlen kw_1665 rfl rfl rfl (dq tk_M_init_3 31 rfl) (fun H locs hw hlen => ?_)
  refine lv_aload_n hx hb (dq tk_M_init_3 32 rfl) rfl (lv_at hl 0 rfl) ?_
  refine lv_sipush (v := 160) hx hb (dq tk_M_init_3 33 rfl) (by decide) ?_
  refine k_newa hc hw (t := 0) (N' := 160) (ty := .int) (a0 := (160, .inl (fun _ => 0))) rfl kw_154 rfl rfl (fun _ => rfl) (by decide) (by decide) (by decide) (Nat.le_of_ble_eq_true rfl) (Nat.le_of_ble_eq_true rfl) (dq tk_M_init_3 34 rfl) (fun H hw => ?_)
  replace hw := hw.drop (rfl)
  refine k_put hc hnm hw (k := 32) (ty := (.array .int)) rfl inX12 tyX12_ok nmX12 (by decide) rfl hlen kw_1666 rfl rfl rfl (dq tk_M_init_3 35 rfl) (fun H locs hw hlen => ?_)
  refine lv_aload_n hx hb (dq tk_M_init_3 36 rfl) rfl (lv_at hl 0 rfl) ?_
  refine lv_sipush (v := 160) hx hb (dq tk_M_init_3 37 rfl) (by decide) ?_
  refine k_newa hc hw (t := 0) (N' := 160) (ty := .int) (a0 := (160, .inl (fun _ => 0))) rfl kw_154 rfl rfl (fun _ => rfl) (by decide) (by decide) (by decide) (Nat.le_of_ble_eq_true rfl) (Nat.le_of_ble_eq_true rfl) (dq tk_M_init_3 38 rfl) (fun H hw => ?_)
  replace hw := hw.drop (rfl)
  refine k_put hc hnm hw (k := 33) (ty := (.array .int)) rfl inX12 tyX12_ok nmX12 (by decide) rfl hlen kw_1667 rfl rfl rfl (dq tk_M_init_3 39 rfl) (fun H locs hw hlen => ?_)
  refine lv_aload_n hx hb (dq tk_M_init_3 40 rfl) rfl (lv_at hl 0 rfl) ?_
  refine lv_bipush (v := 17) hx hb (dq tk_M_init_3 41 rfl) (by decide) ?_
  refine k_newa hc hw (t := 0) (N' := 17) (ty := .int) (a0 := (17, .inl (fun _ => 0))) rfl kw_154 rfl rfl (fun _ => rfl) (by decide) (by decide) (by decide) (Nat.le_of_ble_eq_true rfl) (Nat.le_of_ble_eq_true rfl) (dq tk_M_init_3 42 rfl) (fun H hw => ?_)
  replace hw := hw.drop (rfl)
  refine k_put hc hnm hw (k := 34) (ty := (.array .int)) rfl inX12 tyX12_ok nmX12 (by decide) rfl hlen kw_1668 rfl rfl rfl (dq tk_M_init_3 43 rfl) (fun H locs hw hlen => ?_)
  refine lv_aload_n hx hb (dq tk_M_init_3 44 rfl) rfl (lv_at hl 0 rfl) ?_
  refine lv_bipush (v := 17) hx hb (dq tk_M_init_3 45 rfl) (by decide) ?_
  refine k_newa hc hw (t := 0) (N' := 17) (ty := .int) (a0 := (17, .inl (fun _ => 0))) rfl kw_154 rfl rfl (fun _ => rfl) (by decide) (by decide) (by decide) (Nat.le_of_ble_eq_true rfl) (Nat.le_of_ble_eq_true rfl) (dq tk_M_init_3 46 rfl) (fun H hw => ?_)
  replace hw := hw.drop (rfl)
  refine k_put hc hnm hw (k := 35) (ty := (.array .int)) rfl inX12 tyX12_ok nmX12 (by decide) rfl hlen kw_1669 rfl rfl rfl (dq tk_M_init_3 47 rfl) (fun H locs hw hlen => ?_)
  refine lv_aload_n hx hb (dq tk_M_init_3 48 rfl) rfl (lv_at hl 0 rfl) ?_
  refine lv_bipush (v := 17) hx hb (dq tk_M_init_3 49 rfl) (by decide) ?_
  refine k_newa hc hw (t := 0) (N' := 17) (ty := .int) (a0 := (17, .inl (fun _ => 0))) rfl kw_154 rfl rfl (fun _ => rfl) (by decide) (by decide) (by decide) (Nat.le_of_ble_eq_true rfl) (Nat.le_of_ble_eq_true rfl) (dq tk_M_init_3 50 rfl) (fun H hw => ?_)
  replace hw := hw.drop (rfl)
  refine k_put hc hnm hw (k := 36) (ty := (.array .int)) rfl inX12 tyX12_ok nmX12 (by decide) rfl hlen kw_1670 rfl rfl rfl (dq tk_M_init_3 51 rfl) (fun H locs hw hlen => ?_)
  refine lv_aload_n hx hb (dq tk_M_init_3 52 rfl) rfl (lv_at hl 0 rfl) ?_
  refine lv_bipush (v := 17) hx hb (dq tk_M_init_3 53 rfl) (by decide) ?_
  refine k_newa hc hw (t := 0) (N' := 17) (ty := .int) (a0 := (17, .inl (fun _ => 0))) rfl kw_154 rfl rfl (fun _ => rfl) (by decide) (by decide) (by decide) (Nat.le_of_ble_eq_true rfl) (Nat.le_of_ble_eq_true rfl) (dq tk_M_init_3 54 rfl) (fun H hw => ?_)
  replace hw := hw.drop (rfl)
  refine k_put hc hnm hw (k := 37) (ty := (.array .int)) rfl inX12 tyX12_ok nmX12 (by decide) rfl hlen kw_1671 rfl rfl rfl (dq tk_M_init_3 55 rfl) (fun H locs hw hlen => ?_)
  refine lv_aload_n hx hb (dq tk_M_init_3 56 rfl) rfl (lv_at hl 0 rfl) ?_
  refine lv_sipush (v := 408) hx hb (dq tk_M_init_3 57 rfl) (by decide) ?_
  refine k_newa hc hw (t := 0) (N' := 408) (ty := .int) (a0 := (408, .inl (fun _ => 0))) rfl kw_154 rfl rfl (fun _ => rfl) (by decide) (by decide) (by decide) (Nat.le_of_ble_eq_true rfl) (Nat.le_of_ble_eq_true rfl) (dq tk_M_init_3 58 rfl) (fun H hw => ?_)
  replace hw := hw.drop (rfl)
  refine k_put hc hnm hw (k := 38) (ty := (.array .int)) rfl inX12 tyX12_ok nmX12 (by decide) rfl hlen kw_1672 rfl rfl rfl (dq tk_M_init_3 59 rfl) (fun H locs hw hlen => ?_)
  replace hw : Kw Z τ0 566 [(0, .inr (12, [.ref (Z.1 + 566 + 1), .ref (Z.1 + 566 + 2), .ref (Z.1 + 566 + 3), .int 0, .int 312, .int (-1), .int 0, .int 0, .ref (Z.1 + 566 + 4), .ref (Z.1 + 566 + 5), .ref (Z.1 + 566 + 6), .ref (Z.1 + 566 + 7), .ref (Z.1 + 566 + 8), .ref (Z.1 + 566 + 9), .ref (Z.1 + 566 + 10), .int 0, .int 0, .int 0, .int 0, .ref (Z.1 + 566 + 11), .ref (Z.1 + 566 + 12), .ref (Z.1 + 566 + 13), .ref (Z.1 + 566 + 14), .ref (Z.1 + 566 + 15), .ref (Z.1 + 566 + 16), .ref (Z.1 + 566 + 17), .ref (Z.1 + 566 + 18), .ref (Z.1 + 566 + 19), .ref (Z.1 + 566 + 20), .ref (Z.1 + 566 + 21), .ref (Z.1 + 566 + 22), .ref (Z.1 + 566 + 23), .ref (Z.1 + 566 + 24), .ref (Z.1 + 566 + 25), .ref (Z.1 + 566 + 26), .ref (Z.1 + 566 + 27), .ref (Z.1 + 566 + 28), .ref (Z.1 + 566 + 29), .ref (Z.1 + 566 + 30), .null, .null, .null, .null, .null, .null, .null, .int 0, .int 0, .int 0, .int 0, .int 0, .int 0, .int 0, .int 0, .int 0, .int 0, .int 0, .int 0, .int 0, .null, .null, .null, .int 0, .null, .null, .int 0, .null, .int 0, .int 0, .int 0, .int 0, .int 0, .int 0, .int 0, .null, .null, .null, .null, .null, .null, .null, .null, .null, .null, .null, .int 0, .int 0, .null, .null, .null, .null, .null, .null, .null, .null, .null, .null, .null, .null, .null, .null, .null, .null, .null, .null, .null, .null, .null, .null, .null, .null, .long 0, .long 0, .long 0, .int 0, .int 0, .int 0, .null, .null, .null, .null, .null, .null, .null, .null, .null, .null, .null, .null, .null, .null, .null, .int 0, .null, .null, .null, .int 0, .int 0, .null, .null, .null, .null, .null, .null, .null, .null, .int 0, .null, .null, .null]))] 31 s H locs := hw
  replace hlen : ([.ref (Z.1 + 566 + 1), .ref (Z.1 + 566 + 2), .ref (Z.1 + 566 + 3), .int 0, .int 312, .int (-1), .int 0, .int 0, .ref (Z.1 + 566 + 4), .ref (Z.1 + 566 + 5), .ref (Z.1 + 566 + 6), .ref (Z.1 + 566 + 7), .ref (Z.1 + 566 + 8), .ref (Z.1 + 566 + 9), .ref (Z.1 + 566 + 10), .int 0, .int 0, .int 0, .int 0, .ref (Z.1 + 566 + 11), .ref (Z.1 + 566 + 12), .ref (Z.1 + 566 + 13), .ref (Z.1 + 566 + 14), .ref (Z.1 + 566 + 15), .ref (Z.1 + 566 + 16), .ref (Z.1 + 566 + 17), .ref (Z.1 + 566 + 18), .ref (Z.1 + 566 + 19), .ref (Z.1 + 566 + 20), .ref (Z.1 + 566 + 21), .ref (Z.1 + 566 + 22), .ref (Z.1 + 566 + 23), .ref (Z.1 + 566 + 24), .ref (Z.1 + 566 + 25), .ref (Z.1 + 566 + 26), .ref (Z.1 + 566 + 27), .ref (Z.1 + 566 + 28), .ref (Z.1 + 566 + 29), .ref (Z.1 + 566 + 30), .null, .null, .null, .null, .null, .null, .null, .int 0, .int 0, .int 0, .int 0, .int 0, .int 0, .int 0, .int 0, .int 0, .int 0, .int 0, .int 0, .int 0, .null, .null, .null, .int 0, .null, .null, .int 0, .null, .int 0, .int 0, .int 0, .int 0, .int 0, .int 0, .int 0, .null, .null, .null, .null, .null, .null, .null, .null, .null, .null, .null, .int 0, .int 0, .null, .null, .null, .null, .null, .null, .null, .null, .null, .null, .null, .null, .null, .null, .null, .null, .null, .null, .null, .null, .null, .null, .null, .null, .long 0, .long 0, .long 0, .int 0, .int 0, .int 0, .null, .null, .null, .null, .null, .null, .null, .null, .null, .null, .null, .null, .null, .null, .null, .int 0, .null, .null, .null, .int 0, .int 0, .null, .null, .null, .null, .null, .null, .null, .null, .int 0, .null, .null, .null] : List Value).length = 150 := rfl
  refine lv_aload_n hx hb (dq tk_M_init_4 0 rfl) rfl (lv_at hl 0 rfl) ?_
  refine lv_sipush (v := 408) hx hb (dq tk_M_init_4 1 rfl) (by decide) ?_
  refine k_newa hc hw (t := 0) (N' := 408) (ty := .int) (a0 := (408, .inl (fun _ => 0))) rfl kw_154 rfl rfl (fun _ => rfl) (by decide) (by decide) (by decide) (Nat.le_of_ble_eq_true rfl) (Nat.le_of_ble_eq_true rfl) (dq tk_M_init_4 2 rfl) (fun H hw => ?_)
  replace hw := hw.drop (rfl)
  refine k_put hc hnm hw (k := 39) (ty := (.array .int)) rfl inX12 tyX12_ok nmX12 (by decide) rfl hlen kw_1673 rfl rfl rfl (dq tk_M_init_4 3 rfl) (fun H locs hw hlen => ?_)
  refine lv_aload_n hx hb (dq tk_M_init_4 4 rfl) rfl (lv_at hl 0 rfl) ?_
  refine lv_sipush (v := 408) hx hb (dq tk_M_init_4 5 rfl) (by decide) ?_
  refine k_newa hc hw (t := 0) (N' := 408) (ty := .int) (a0 := (408, .inl (fun _ => 0))) rfl kw_154 rfl rfl (fun _ => rfl) (by decide) (by decide) (by decide) (Nat.le_of_ble_eq_true rfl) (Nat.le_of_ble_eq_true rfl) (dq tk_M_init_4 6 rfl) (fun H hw => ?_)
  replace hw := hw.drop (rfl)
  refine k_put hc hnm hw (k := 40) (ty := (.array .int)) rfl inX12 tyX12_ok nmX12 (by decide) rfl hlen kw_1674 rfl rfl rfl (dq tk_M_init_4 7 rfl) (fun H locs hw hlen => ?_)
  refine lv_aload_n hx hb (dq tk_M_init_4 8 rfl) rfl (lv_at hl 0 rfl) ?_
  refine lv_sipush (v := 408) hx hb (dq tk_M_init_4 9 rfl) (by decide) ?_
  refine k_newa hc hw (t := 0) (N' := 408) (ty := .int) (a0 := (408, .inl (fun _ => 0))) rfl kw_154 rfl rfl (fun _ => rfl) (by decide) (by decide) (by decide) (Nat.le_of_ble_eq_true rfl) (Nat.le_of_ble_eq_true rfl) (dq tk_M_init_4 10 rfl) (fun H hw => ?_)
  replace hw := hw.drop (rfl)
  refine k_put hc hnm hw (k := 41) (ty := (.array .int)) rfl inX12 tyX12_ok nmX12 (by decide) rfl hlen kw_1675 rfl rfl rfl (dq tk_M_init_4 11 rfl) (fun H locs hw hlen => ?_)
  refine lv_aload_n hx hb (dq tk_M_init_4 12 rfl) rfl (lv_at hl 0 rfl) ?_
  refine lv_sipush (v := 408) hx hb (dq tk_M_init_4 13 rfl) (by decide) ?_
  refine k_newa hc hw (t := 0) (N' := 408) (ty := .int) (a0 := (408, .inl (fun _ => 0))) rfl kw_154 rfl rfl (fun _ => rfl) (by decide) (by decide) (by decide) (Nat.le_of_ble_eq_true rfl) (Nat.le_of_ble_eq_true rfl) (dq tk_M_init_4 14 rfl) (fun H hw => ?_)
  replace hw := hw.drop (rfl)
  refine k_put hc hnm hw (k := 42) (ty := (.array .int)) rfl inX12 tyX12_ok nmX12 (by decide) rfl hlen kw_1676 rfl rfl rfl (dq tk_M_init_4 15 rfl) (fun H locs hw hlen => ?_)
  refine lv_aload_n hx hb (dq tk_M_init_4 16 rfl) rfl (lv_at hl 0 rfl) ?_
  refine lv_sipush (v := 408) hx hb (dq tk_M_init_4 17 rfl) (by decide) ?_
  refine k_newa hc hw (t := 0) (N' := 408) (ty := .int) (a0 := (408, .inl (fun _ => 0))) rfl kw_154 rfl rfl (fun _ => rfl) (by decide) (by decide) (by decide) (Nat.le_of_ble_eq_true rfl) (Nat.le_of_ble_eq_true rfl) (dq tk_M_init_4 18 rfl) (fun H hw => ?_)
  replace hw := hw.drop (rfl)
  refine k_put hc hnm hw (k := 43) (ty := (.array .int)) rfl inX12 tyX12_ok nmX12 (by decide) rfl hlen kw_1677 rfl rfl rfl (dq tk_M_init_4 19 rfl) (fun H locs hw hlen => ?_)
  refine lv_aload_n hx hb (dq tk_M_init_4 20 rfl) rfl (lv_at hl 0 rfl) ?_
  refine lv_sipush (v := 17000) hx hb (dq tk_M_init_4 21 rfl) (by decide) ?_
  refine k_newa hc hw (t := 0) (N' := 17000) (ty := .int) (a0 := (17000, .inl (fun _ => 0))) rfl kw_154 rfl rfl (fun _ => rfl) (by decide) (by decide) (by decide) (Nat.le_of_ble_eq_true rfl) (Nat.le_of_ble_eq_true rfl) (dq tk_M_init_4 22 rfl) (fun H hw => ?_)
  replace hw := hw.drop (rfl)
  refine k_put hc hnm hw (k := 44) (ty := (.array .int)) rfl inX12 tyX12_ok nmX12 (by decide) rfl hlen kw_1678 rfl rfl rfl (dq tk_M_init_4 23 rfl) (fun H locs hw hlen => ?_)
  refine lv_aload_n hx hb (dq tk_M_init_4 24 rfl) rfl (lv_at hl 0 rfl) ?_
  refine lv_sipush (v := 600) hx hb (dq tk_M_init_4 25 rfl) (by decide) ?_
  refine k_newa hc hw (t := 0) (N' := 600) (ty := .int) (a0 := (600, .inl (fun _ => 0))) rfl kw_154 rfl rfl (fun _ => rfl) (by decide) (by decide) (by decide) (Nat.le_of_ble_eq_true rfl) (Nat.le_of_ble_eq_true rfl) (dq tk_M_init_4 26 rfl) (fun H hw => ?_)
  replace hw := hw.drop (rfl)
  refine k_put hc hnm hw (k := 45) (ty := (.array .int)) rfl inX12 tyX12_ok nmX12 (by decide) rfl hlen kw_1679 rfl rfl rfl (dq tk_M_init_4 27 rfl) (fun H locs hw hlen => ?_)
  refine lv_aload_n hx hb (dq tk_M_init_4 28 rfl) rfl (lv_at hl 0 rfl) ?_
  refine lv_iconst (v := (-1)) hx hb (dq tk_M_init_4 29 rfl) (by decide) ?_
  refine k_put hc hnm hw (k := 56) (ty := .int) rfl inX12 tyX12_ok nmX12 (by decide) rfl hlen kw_1690 rfl rfl rfl (dq tk_M_init_4 30 rfl) (fun H locs hw hlen => ?_)
  replace hw : Kw Z τ0 566 [(0, .inr (12, [.ref (Z.1 + 566 + 1), .ref (Z.1 + 566 + 2), .ref (Z.1 + 566 + 3), .int 0, .int 312, .int (-1), .int 0, .int 0, .ref (Z.1 + 566 + 4), .ref (Z.1 + 566 + 5), .ref (Z.1 + 566 + 6), .ref (Z.1 + 566 + 7), .ref (Z.1 + 566 + 8), .ref (Z.1 + 566 + 9), .ref (Z.1 + 566 + 10), .int 0, .int 0, .int 0, .int 0, .ref (Z.1 + 566 + 11), .ref (Z.1 + 566 + 12), .ref (Z.1 + 566 + 13), .ref (Z.1 + 566 + 14), .ref (Z.1 + 566 + 15), .ref (Z.1 + 566 + 16), .ref (Z.1 + 566 + 17), .ref (Z.1 + 566 + 18), .ref (Z.1 + 566 + 19), .ref (Z.1 + 566 + 20), .ref (Z.1 + 566 + 21), .ref (Z.1 + 566 + 22), .ref (Z.1 + 566 + 23), .ref (Z.1 + 566 + 24), .ref (Z.1 + 566 + 25), .ref (Z.1 + 566 + 26), .ref (Z.1 + 566 + 27), .ref (Z.1 + 566 + 28), .ref (Z.1 + 566 + 29), .ref (Z.1 + 566 + 30), .ref (Z.1 + 566 + 31), .ref (Z.1 + 566 + 32), .ref (Z.1 + 566 + 33), .ref (Z.1 + 566 + 34), .ref (Z.1 + 566 + 35), .ref (Z.1 + 566 + 36), .ref (Z.1 + 566 + 37), .int 0, .int 0, .int 0, .int 0, .int 0, .int 0, .int 0, .int 0, .int 0, .int 0, .int (-1), .int 0, .int 0, .null, .null, .null, .int 0, .null, .null, .int 0, .null, .int 0, .int 0, .int 0, .int 0, .int 0, .int 0, .int 0, .null, .null, .null, .null, .null, .null, .null, .null, .null, .null, .null, .int 0, .int 0, .null, .null, .null, .null, .null, .null, .null, .null, .null, .null, .null, .null, .null, .null, .null, .null, .null, .null, .null, .null, .null, .null, .null, .null, .long 0, .long 0, .long 0, .int 0, .int 0, .int 0, .null, .null, .null, .null, .null, .null, .null, .null, .null, .null, .null, .null, .null, .null, .null, .int 0, .null, .null, .null, .int 0, .int 0, .null, .null, .null, .null, .null, .null, .null, .null, .int 0, .null, .null, .null]))] 38 s H locs := hw
  replace hlen : ([.ref (Z.1 + 566 + 1), .ref (Z.1 + 566 + 2), .ref (Z.1 + 566 + 3), .int 0, .int 312, .int (-1), .int 0, .int 0, .ref (Z.1 + 566 + 4), .ref (Z.1 + 566 + 5), .ref (Z.1 + 566 + 6), .ref (Z.1 + 566 + 7), .ref (Z.1 + 566 + 8), .ref (Z.1 + 566 + 9), .ref (Z.1 + 566 + 10), .int 0, .int 0, .int 0, .int 0, .ref (Z.1 + 566 + 11), .ref (Z.1 + 566 + 12), .ref (Z.1 + 566 + 13), .ref (Z.1 + 566 + 14), .ref (Z.1 + 566 + 15), .ref (Z.1 + 566 + 16), .ref (Z.1 + 566 + 17), .ref (Z.1 + 566 + 18), .ref (Z.1 + 566 + 19), .ref (Z.1 + 566 + 20), .ref (Z.1 + 566 + 21), .ref (Z.1 + 566 + 22), .ref (Z.1 + 566 + 23), .ref (Z.1 + 566 + 24), .ref (Z.1 + 566 + 25), .ref (Z.1 + 566 + 26), .ref (Z.1 + 566 + 27), .ref (Z.1 + 566 + 28), .ref (Z.1 + 566 + 29), .ref (Z.1 + 566 + 30), .ref (Z.1 + 566 + 31), .ref (Z.1 + 566 + 32), .ref (Z.1 + 566 + 33), .ref (Z.1 + 566 + 34), .ref (Z.1 + 566 + 35), .ref (Z.1 + 566 + 36), .ref (Z.1 + 566 + 37), .int 0, .int 0, .int 0, .int 0, .int 0, .int 0, .int 0, .int 0, .int 0, .int 0, .int (-1), .int 0, .int 0, .null, .null, .null, .int 0, .null, .null, .int 0, .null, .int 0, .int 0, .int 0, .int 0, .int 0, .int 0, .int 0, .null, .null, .null, .null, .null, .null, .null, .null, .null, .null, .null, .int 0, .int 0, .null, .null, .null, .null, .null, .null, .null, .null, .null, .null, .null, .null, .null, .null, .null, .null, .null, .null, .null, .null, .null, .null, .null, .null, .long 0, .long 0, .long 0, .int 0, .int 0, .int 0, .null, .null, .null, .null, .null, .null, .null, .null, .null, .null, .null, .null, .null, .null, .null, .int 0, .null, .null, .null, .int 0, .int 0, .null, .null, .null, .null, .null, .null, .null, .null, .int 0, .null, .null, .null] : List Value).length = 150 := rfl
  refine lv_aload_n hx hb (dq tk_M_init_4 31 rfl) rfl (lv_at hl 0 rfl) ?_
  refine lv_bipush (v := 60) hx hb (dq tk_M_init_4 32 rfl) (by decide) ?_
  refine k_newa hc hw (t := 0) (N' := 60) (ty := .int) (a0 := (60, .inl (fun _ => 0))) rfl kw_154 rfl rfl (fun _ => rfl) (by decide) (by decide) (by decide) (Nat.le_of_ble_eq_true rfl) (Nat.le_of_ble_eq_true rfl) (dq tk_M_init_4 33 rfl) (fun H hw => ?_)
  replace hw := hw.drop (rfl)
  refine k_put hc hnm hw (k := 59) (ty := (.array .int)) rfl inX12 tyX12_ok nmX12 (by decide) rfl hlen kw_1693 rfl rfl rfl (dq tk_M_init_4 34 rfl) (fun H locs hw hlen => ?_)
  refine lv_aload_n hx hb (dq tk_M_init_4 35 rfl) rfl (lv_at hl 0 rfl) ?_
  refine lv_sipush (v := 3120) hx hb (dq tk_M_init_4 36 rfl) (by decide) ?_
  refine k_newa hc hw (t := 0) (N' := 3120) (ty := .int) (a0 := (3120, .inl (fun _ => 0))) rfl kw_154 rfl rfl (fun _ => rfl) (by decide) (by decide) (by decide) (Nat.le_of_ble_eq_true rfl) (Nat.le_of_ble_eq_true rfl) (dq tk_M_init_4 37 rfl) (fun H hw => ?_)
  replace hw := hw.drop (rfl)
  refine k_put hc hnm hw (k := 60) (ty := (.array .int)) rfl inX12 tyX12_ok nmX12 (by decide) rfl hlen kw_1694 rfl rfl rfl (dq tk_M_init_4 38 rfl) (fun H locs hw hlen => ?_)
  refine lv_aload_n hx hb (dq tk_M_init_4 39 rfl) rfl (lv_at hl 0 rfl) ?_
  refine lv_bipush (v := 17) hx hb (dq tk_M_init_4 40 rfl) (by decide) ?_
  refine k_newa hc hw (t := 0) (N' := 17) (ty := .int) (a0 := (17, .inl (fun _ => 0))) rfl kw_154 rfl rfl (fun _ => rfl) (by decide) (by decide) (by decide) (Nat.le_of_ble_eq_true rfl) (Nat.le_of_ble_eq_true rfl) (dq tk_M_init_4 41 rfl) (fun H hw => ?_)
  replace hw := hw.drop (rfl)
  refine k_put hc hnm hw (k := 61) (ty := (.array .int)) rfl inX12 tyX12_ok nmX12 (by decide) rfl hlen kw_1695 rfl rfl rfl (dq tk_M_init_4 42 rfl) (fun H locs hw hlen => ?_)
  refine lv_aload_n hx hb (dq tk_M_init_4 43 rfl) rfl (lv_at hl 0 rfl) ?_
  refine lv_bipush (v := 7) hx hb (dq tk_M_init_4 44 rfl) (by decide) ?_
  refine k_newa hc hw (t := 0) (N' := 7) (ty := .int) (a0 := (7, .inl (fun _ => 0))) rfl kw_154 rfl rfl (fun _ => rfl) (by decide) (by decide) (by decide) (Nat.le_of_ble_eq_true rfl) (Nat.le_of_ble_eq_true rfl) (dq tk_M_init_4 45 rfl) (fun H hw => ?_)
  replace hw := hw.drop (rfl)
  refine k_put hc hnm hw (k := 63) (ty := (.array .int)) rfl inX12 tyX12_ok nmX12 (by decide) rfl hlen kw_1697 rfl rfl rfl (dq tk_M_init_4 46 rfl) (fun H locs hw hlen => ?_)
  refine lv_aload_n hx hb (dq tk_M_init_4 47 rfl) rfl (lv_at hl 0 rfl) ?_
  refine lv_bipush (v := 8) hx hb (dq tk_M_init_4 48 rfl) (by decide) ?_
  refine k_newa hc hw (t := 0) (N' := 8) (ty := .int) (a0 := (8, .inl (fun _ => 0))) rfl kw_154 rfl rfl (fun _ => rfl) (by decide) (by decide) (by decide) (Nat.le_of_ble_eq_true rfl) (Nat.le_of_ble_eq_true rfl) (dq tk_M_init_4 49 rfl) (fun H hw => ?_)
  replace hw := hw.drop (rfl)
  refine k_put hc hnm hw (k := 64) (ty := (.array .int)) rfl inX12 tyX12_ok nmX12 (by decide) rfl hlen kw_1698 rfl rfl rfl (dq tk_M_init_4 50 rfl) (fun H locs hw hlen => ?_)
  refine lv_aload_n hx hb (dq tk_M_init_4 51 rfl) rfl (lv_at hl 0 rfl) ?_
  refine lv_sipush (v := 200) hx hb (dq tk_M_init_4 52 rfl) (by decide) ?_
  refine k_newa hc hw (t := 3) (N' := 200) (ty := .long) (a0 := (200, .inr (.inl (fun _ => 0)))) rfl kw_539 rfl rfl (fun _ => rfl) (by decide) (by decide) (by decide) (Nat.le_of_ble_eq_true rfl) (Nat.le_of_ble_eq_true rfl) (dq tk_M_init_4 53 rfl) (fun H hw => ?_)
  replace hw := hw.drop (rfl)
  refine k_put hc hnm hw (k := 66) (ty := (.array .long)) rfl inX12 tyX12_ok nmX12 (by decide) rfl hlen kw_1700 rfl rfl rfl (dq tk_M_init_4 54 rfl) (fun H locs hw hlen => ?_)
  refine lv_aload_n hx hb (dq tk_M_init_4 55 rfl) rfl (lv_at hl 0 rfl) ?_
  refine lv_iconst (v := (-1)) hx hb (dq tk_M_init_4 56 rfl) (by decide) ?_
  refine k_put hc hnm hw (k := 73) (ty := .int) rfl inX12 tyX12_ok nmX12 (by decide) rfl hlen kw_1707 rfl rfl rfl (dq tk_M_init_4 57 rfl) (fun H locs hw hlen => ?_)
  refine lv_aload_n hx hb (dq tk_M_init_4 58 rfl) rfl (lv_at hl 0 rfl) ?_
  refine lv_bipush (v := 20) hx hb (dq tk_M_init_4 59 rfl) (by decide) ?_
  refine k_newa hc hw (t := 2) (N' := 20) (ty := .boolean) (a0 := (20, .inl (fun _ => 0))) rfl kw_302 rfl rfl (fun _ => rfl) (by decide) (by decide) (by decide) (Nat.le_of_ble_eq_true rfl) (Nat.le_of_ble_eq_true rfl) (dq tk_M_init_5 0 rfl) (fun H hw => ?_)
  replace hw := hw.drop (rfl)
  refine k_put hc hnm hw (k := 74) (ty := (.array .boolean)) rfl inX12 tyX12_ok nmX12 (by decide) rfl hlen kw_1708 rfl rfl rfl (dq tk_M_init_5 1 rfl) (fun H locs hw hlen => ?_)
  replace hw : Kw Z τ0 566 [(0, .inr (12, [.ref (Z.1 + 566 + 1), .ref (Z.1 + 566 + 2), .ref (Z.1 + 566 + 3), .int 0, .int 312, .int (-1), .int 0, .int 0, .ref (Z.1 + 566 + 4), .ref (Z.1 + 566 + 5), .ref (Z.1 + 566 + 6), .ref (Z.1 + 566 + 7), .ref (Z.1 + 566 + 8), .ref (Z.1 + 566 + 9), .ref (Z.1 + 566 + 10), .int 0, .int 0, .int 0, .int 0, .ref (Z.1 + 566 + 11), .ref (Z.1 + 566 + 12), .ref (Z.1 + 566 + 13), .ref (Z.1 + 566 + 14), .ref (Z.1 + 566 + 15), .ref (Z.1 + 566 + 16), .ref (Z.1 + 566 + 17), .ref (Z.1 + 566 + 18), .ref (Z.1 + 566 + 19), .ref (Z.1 + 566 + 20), .ref (Z.1 + 566 + 21), .ref (Z.1 + 566 + 22), .ref (Z.1 + 566 + 23), .ref (Z.1 + 566 + 24), .ref (Z.1 + 566 + 25), .ref (Z.1 + 566 + 26), .ref (Z.1 + 566 + 27), .ref (Z.1 + 566 + 28), .ref (Z.1 + 566 + 29), .ref (Z.1 + 566 + 30), .ref (Z.1 + 566 + 31), .ref (Z.1 + 566 + 32), .ref (Z.1 + 566 + 33), .ref (Z.1 + 566 + 34), .ref (Z.1 + 566 + 35), .ref (Z.1 + 566 + 36), .ref (Z.1 + 566 + 37), .int 0, .int 0, .int 0, .int 0, .int 0, .int 0, .int 0, .int 0, .int 0, .int 0, .int (-1), .int 0, .int 0, .ref (Z.1 + 566 + 38), .ref (Z.1 + 566 + 39), .ref (Z.1 + 566 + 40), .int 0, .ref (Z.1 + 566 + 41), .ref (Z.1 + 566 + 42), .int 0, .ref (Z.1 + 566 + 43), .int 0, .int 0, .int 0, .int 0, .int 0, .int 0, .int (-1), .ref (Z.1 + 566 + 44), .null, .null, .null, .null, .null, .null, .null, .null, .null, .null, .int 0, .int 0, .null, .null, .null, .null, .null, .null, .null, .null, .null, .null, .null, .null, .null, .null, .null, .null, .null, .null, .null, .null, .null, .null, .null, .null, .long 0, .long 0, .long 0, .int 0, .int 0, .int 0, .null, .null, .null, .null, .null, .null, .null, .null, .null, .null, .null, .null, .null, .null, .null, .int 0, .null, .null, .null, .int 0, .int 0, .null, .null, .null, .null, .null, .null, .null, .null, .int 0, .null, .null, .null]))] 45 s H locs := hw
  replace hlen : ([.ref (Z.1 + 566 + 1), .ref (Z.1 + 566 + 2), .ref (Z.1 + 566 + 3), .int 0, .int 312, .int (-1), .int 0, .int 0, .ref (Z.1 + 566 + 4), .ref (Z.1 + 566 + 5), .ref (Z.1 + 566 + 6), .ref (Z.1 + 566 + 7), .ref (Z.1 + 566 + 8), .ref (Z.1 + 566 + 9), .ref (Z.1 + 566 + 10), .int 0, .int 0, .int 0, .int 0, .ref (Z.1 + 566 + 11), .ref (Z.1 + 566 + 12), .ref (Z.1 + 566 + 13), .ref (Z.1 + 566 + 14), .ref (Z.1 + 566 + 15), .ref (Z.1 + 566 + 16), .ref (Z.1 + 566 + 17), .ref (Z.1 + 566 + 18), .ref (Z.1 + 566 + 19), .ref (Z.1 + 566 + 20), .ref (Z.1 + 566 + 21), .ref (Z.1 + 566 + 22), .ref (Z.1 + 566 + 23), .ref (Z.1 + 566 + 24), .ref (Z.1 + 566 + 25), .ref (Z.1 + 566 + 26), .ref (Z.1 + 566 + 27), .ref (Z.1 + 566 + 28), .ref (Z.1 + 566 + 29), .ref (Z.1 + 566 + 30), .ref (Z.1 + 566 + 31), .ref (Z.1 + 566 + 32), .ref (Z.1 + 566 + 33), .ref (Z.1 + 566 + 34), .ref (Z.1 + 566 + 35), .ref (Z.1 + 566 + 36), .ref (Z.1 + 566 + 37), .int 0, .int 0, .int 0, .int 0, .int 0, .int 0, .int 0, .int 0, .int 0, .int 0, .int (-1), .int 0, .int 0, .ref (Z.1 + 566 + 38), .ref (Z.1 + 566 + 39), .ref (Z.1 + 566 + 40), .int 0, .ref (Z.1 + 566 + 41), .ref (Z.1 + 566 + 42), .int 0, .ref (Z.1 + 566 + 43), .int 0, .int 0, .int 0, .int 0, .int 0, .int 0, .int (-1), .ref (Z.1 + 566 + 44), .null, .null, .null, .null, .null, .null, .null, .null, .null, .null, .int 0, .int 0, .null, .null, .null, .null, .null, .null, .null, .null, .null, .null, .null, .null, .null, .null, .null, .null, .null, .null, .null, .null, .null, .null, .null, .null, .long 0, .long 0, .long 0, .int 0, .int 0, .int 0, .null, .null, .null, .null, .null, .null, .null, .null, .null, .null, .null, .null, .null, .null, .null, .int 0, .null, .null, .null, .int 0, .int 0, .null, .null, .null, .null, .null, .null, .null, .null, .int 0, .null, .null, .null] : List Value).length = 150 := rfl
  refine lv_aload_n hx hb (dq tk_M_init_5 2 rfl) rfl (lv_at hl 0 rfl) ?_
  refine lv_bipush (v := 20) hx hb (dq tk_M_init_5 3 rfl) (by decide) ?_
  refine k_newa hc hw (t := 2) (N' := 20) (ty := .boolean) (a0 := (20, .inl (fun _ => 0))) rfl kw_302 rfl rfl (fun _ => rfl) (by decide) (by decide) (by decide) (Nat.le_of_ble_eq_true rfl) (Nat.le_of_ble_eq_true rfl) (dq tk_M_init_5 4 rfl) (fun H hw => ?_)
  replace hw := hw.drop (rfl)
  refine k_put hc hnm hw (k := 75) (ty := (.array .boolean)) rfl inX12 tyX12_ok nmX12 (by decide) rfl hlen kw_1709 rfl rfl rfl (dq tk_M_init_5 5 rfl) (fun H locs hw hlen => ?_)
  refine lv_aload_n hx hb (dq tk_M_init_5 6 rfl) rfl (lv_at hl 0 rfl) ?_
  refine lv_sipush (v := 160) hx hb (dq tk_M_init_5 7 rfl) (by decide) ?_
  refine k_newa hc hw (t := 2) (N' := 160) (ty := .boolean) (a0 := (160, .inl (fun _ => 0))) rfl kw_302 rfl rfl (fun _ => rfl) (by decide) (by decide) (by decide) (Nat.le_of_ble_eq_true rfl) (Nat.le_of_ble_eq_true rfl) (dq tk_M_init_5 8 rfl) (fun H hw => ?_)
  replace hw := hw.drop (rfl)
  refine k_put hc hnm hw (k := 76) (ty := (.array .boolean)) rfl inX12 tyX12_ok nmX12 (by decide) rfl hlen kw_1710 rfl rfl rfl (dq tk_M_init_5 9 rfl) (fun H locs hw hlen => ?_)
  refine lv_aload_n hx hb (dq tk_M_init_5 10 rfl) rfl (lv_at hl 0 rfl) ?_
  refine lv_sipush (v := 160) hx hb (dq tk_M_init_5 11 rfl) (by decide) ?_
  refine k_newa hc hw (t := 2) (N' := 160) (ty := .boolean) (a0 := (160, .inl (fun _ => 0))) rfl kw_302 rfl rfl (fun _ => rfl) (by decide) (by decide) (by decide) (Nat.le_of_ble_eq_true rfl) (Nat.le_of_ble_eq_true rfl) (dq tk_M_init_5 12 rfl) (fun H hw => ?_)
  replace hw := hw.drop (rfl)
  refine k_put hc hnm hw (k := 77) (ty := (.array .boolean)) rfl inX12 tyX12_ok nmX12 (by decide) rfl hlen kw_1711 rfl rfl rfl (dq tk_M_init_5 13 rfl) (fun H locs hw hlen => ?_)
  refine lv_aload_n hx hb (dq tk_M_init_5 14 rfl) rfl (lv_at hl 0 rfl) ?_
  refine lv_bipush (v := 20) hx hb (dq tk_M_init_5 15 rfl) (by decide) ?_
  refine k_newa hc hw (t := 0) (N' := 20) (ty := .int) (a0 := (20, .inl (fun _ => 0))) rfl kw_154 rfl rfl (fun _ => rfl) (by decide) (by decide) (by decide) (Nat.le_of_ble_eq_true rfl) (Nat.le_of_ble_eq_true rfl) (dq tk_M_init_5 16 rfl) (fun H hw => ?_)
  replace hw := hw.drop (rfl)
  refine k_put hc hnm hw (k := 78) (ty := (.array .int)) rfl inX12 tyX12_ok nmX12 (by decide) rfl hlen kw_1712 rfl rfl rfl (dq tk_M_init_5 17 rfl) (fun H locs hw hlen => ?_)
  refine lv_aload_n hx hb (dq tk_M_init_5 18 rfl) rfl (lv_at hl 0 rfl) ?_
  refine lv_bipush (v := 20) hx hb (dq tk_M_init_5 19 rfl) (by decide) ?_
  refine k_newa hc hw (t := 0) (N' := 20) (ty := .int) (a0 := (20, .inl (fun _ => 0))) rfl kw_154 rfl rfl (fun _ => rfl) (by decide) (by decide) (by decide) (Nat.le_of_ble_eq_true rfl) (Nat.le_of_ble_eq_true rfl) (dq tk_M_init_5 20 rfl) (fun H hw => ?_)
  replace hw := hw.drop (rfl)
  refine k_put hc hnm hw (k := 79) (ty := (.array .int)) rfl inX12 tyX12_ok nmX12 (by decide) rfl hlen kw_1713 rfl rfl rfl (dq tk_M_init_5 21 rfl) (fun H locs hw hlen => ?_)
  refine lv_aload_n hx hb (dq tk_M_init_5 22 rfl) rfl (lv_at hl 0 rfl) ?_
  refine lv_bipush (v := 20) hx hb (dq tk_M_init_5 23 rfl) (by decide) ?_
  refine k_newa hc hw (t := 0) (N' := 20) (ty := .int) (a0 := (20, .inl (fun _ => 0))) rfl kw_154 rfl rfl (fun _ => rfl) (by decide) (by decide) (by decide) (Nat.le_of_ble_eq_true rfl) (Nat.le_of_ble_eq_true rfl) (dq tk_M_init_5 24 rfl) (fun H hw => ?_)
  replace hw := hw.drop (rfl)
  refine k_put hc hnm hw (k := 80) (ty := (.array .int)) rfl inX12 tyX12_ok nmX12 (by decide) rfl hlen kw_1714 rfl rfl rfl (dq tk_M_init_5 25 rfl) (fun H locs hw hlen => ?_)
  refine lv_aload_n hx hb (dq tk_M_init_5 26 rfl) rfl (lv_at hl 0 rfl) ?_
  refine lv_bipush (v := 20) hx hb (dq tk_M_init_5 27 rfl) (by decide) ?_
  refine k_newa hc hw (t := 0) (N' := 20) (ty := .int) (a0 := (20, .inl (fun _ => 0))) rfl kw_154 rfl rfl (fun _ => rfl) (by decide) (by decide) (by decide) (Nat.le_of_ble_eq_true rfl) (Nat.le_of_ble_eq_true rfl) (dq tk_M_init_5 28 rfl) (fun H hw => ?_)
  replace hw := hw.drop (rfl)
  refine k_put hc hnm hw (k := 81) (ty := (.array .int)) rfl inX12 tyX12_ok nmX12 (by decide) rfl hlen kw_1715 rfl rfl rfl (dq tk_M_init_5 29 rfl) (fun H locs hw hlen => ?_)
  refine lv_aload_n hx hb (dq tk_M_init_5 30 rfl) rfl (lv_at hl 0 rfl) ?_
  refine lv_bipush (v := 20) hx hb (dq tk_M_init_5 31 rfl) (by decide) ?_
  refine k_newa hc hw (t := 0) (N' := 20) (ty := .int) (a0 := (20, .inl (fun _ => 0))) rfl kw_154 rfl rfl (fun _ => rfl) (by decide) (by decide) (by decide) (Nat.le_of_ble_eq_true rfl) (Nat.le_of_ble_eq_true rfl) (dq tk_M_init_5 32 rfl) (fun H hw => ?_)
  replace hw := hw.drop (rfl)
  refine k_put hc hnm hw (k := 82) (ty := (.array .int)) rfl inX12 tyX12_ok nmX12 (by decide) rfl hlen kw_1716 rfl rfl rfl (dq tk_M_init_5 33 rfl) (fun H locs hw hlen => ?_)
  replace hw : Kw Z τ0 566 [(0, .inr (12, [.ref (Z.1 + 566 + 1), .ref (Z.1 + 566 + 2), .ref (Z.1 + 566 + 3), .int 0, .int 312, .int (-1), .int 0, .int 0, .ref (Z.1 + 566 + 4), .ref (Z.1 + 566 + 5), .ref (Z.1 + 566 + 6), .ref (Z.1 + 566 + 7), .ref (Z.1 + 566 + 8), .ref (Z.1 + 566 + 9), .ref (Z.1 + 566 + 10), .int 0, .int 0, .int 0, .int 0, .ref (Z.1 + 566 + 11), .ref (Z.1 + 566 + 12), .ref (Z.1 + 566 + 13), .ref (Z.1 + 566 + 14), .ref (Z.1 + 566 + 15), .ref (Z.1 + 566 + 16), .ref (Z.1 + 566 + 17), .ref (Z.1 + 566 + 18), .ref (Z.1 + 566 + 19), .ref (Z.1 + 566 + 20), .ref (Z.1 + 566 + 21), .ref (Z.1 + 566 + 22), .ref (Z.1 + 566 + 23), .ref (Z.1 + 566 + 24), .ref (Z.1 + 566 + 25), .ref (Z.1 + 566 + 26), .ref (Z.1 + 566 + 27), .ref (Z.1 + 566 + 28), .ref (Z.1 + 566 + 29), .ref (Z.1 + 566 + 30), .ref (Z.1 + 566 + 31), .ref (Z.1 + 566 + 32), .ref (Z.1 + 566 + 33), .ref (Z.1 + 566 + 34), .ref (Z.1 + 566 + 35), .ref (Z.1 + 566 + 36), .ref (Z.1 + 566 + 37), .int 0, .int 0, .int 0, .int 0, .int 0, .int 0, .int 0, .int 0, .int 0, .int 0, .int (-1), .int 0, .int 0, .ref (Z.1 + 566 + 38), .ref (Z.1 + 566 + 39), .ref (Z.1 + 566 + 40), .int 0, .ref (Z.1 + 566 + 41), .ref (Z.1 + 566 + 42), .int 0, .ref (Z.1 + 566 + 43), .int 0, .int 0, .int 0, .int 0, .int 0, .int 0, .int (-1), .ref (Z.1 + 566 + 44), .ref (Z.1 + 566 + 45), .ref (Z.1 + 566 + 46), .ref (Z.1 + 566 + 47), .ref (Z.1 + 566 + 48), .ref (Z.1 + 566 + 49), .ref (Z.1 + 566 + 50), .ref (Z.1 + 566 + 51), .ref (Z.1 + 566 + 52), .null, .null, .int 0, .int 0, .null, .null, .null, .null, .null, .null, .null, .null, .null, .null, .null, .null, .null, .null, .null, .null, .null, .null, .null, .null, .null, .null, .null, .null, .long 0, .long 0, .long 0, .int 0, .int 0, .int 0, .null, .null, .null, .null, .null, .null, .null, .null, .null, .null, .null, .null, .null, .null, .null, .int 0, .null, .null, .null, .int 0, .int 0, .null, .null, .null, .null, .null, .null, .null, .null, .int 0, .null, .null, .null]))] 53 s H locs := hw
  replace hlen : ([.ref (Z.1 + 566 + 1), .ref (Z.1 + 566 + 2), .ref (Z.1 + 566 + 3), .int 0, .int 312, .int (-1), .int 0, .int 0, .ref (Z.1 + 566 + 4), .ref (Z.1 + 566 + 5), .ref (Z.1 + 566 + 6), .ref (Z.1 + 566 + 7), .ref (Z.1 + 566 + 8), .ref (Z.1 + 566 + 9), .ref (Z.1 + 566 + 10), .int 0, .int 0, .int 0, .int 0, .ref (Z.1 + 566 + 11), .ref (Z.1 + 566 + 12), .ref (Z.1 + 566 + 13), .ref (Z.1 + 566 + 14), .ref (Z.1 + 566 + 15), .ref (Z.1 + 566 + 16), .ref (Z.1 + 566 + 17), .ref (Z.1 + 566 + 18), .ref (Z.1 + 566 + 19), .ref (Z.1 + 566 + 20), .ref (Z.1 + 566 + 21), .ref (Z.1 + 566 + 22), .ref (Z.1 + 566 + 23), .ref (Z.1 + 566 + 24), .ref (Z.1 + 566 + 25), .ref (Z.1 + 566 + 26), .ref (Z.1 + 566 + 27), .ref (Z.1 + 566 + 28), .ref (Z.1 + 566 + 29), .ref (Z.1 + 566 + 30), .ref (Z.1 + 566 + 31), .ref (Z.1 + 566 + 32), .ref (Z.1 + 566 + 33), .ref (Z.1 + 566 + 34), .ref (Z.1 + 566 + 35), .ref (Z.1 + 566 + 36), .ref (Z.1 + 566 + 37), .int 0, .int 0, .int 0, .int 0, .int 0, .int 0, .int 0, .int 0, .int 0, .int 0, .int (-1), .int 0, .int 0, .ref (Z.1 + 566 + 38), .ref (Z.1 + 566 + 39), .ref (Z.1 + 566 + 40), .int 0, .ref (Z.1 + 566 + 41), .ref (Z.1 + 566 + 42), .int 0, .ref (Z.1 + 566 + 43), .int 0, .int 0, .int 0, .int 0, .int 0, .int 0, .int (-1), .ref (Z.1 + 566 + 44), .ref (Z.1 + 566 + 45), .ref (Z.1 + 566 + 46), .ref (Z.1 + 566 + 47), .ref (Z.1 + 566 + 48), .ref (Z.1 + 566 + 49), .ref (Z.1 + 566 + 50), .ref (Z.1 + 566 + 51), .ref (Z.1 + 566 + 52), .null, .null, .int 0, .int 0, .null, .null, .null, .null, .null, .null, .null, .null, .null, .null, .null, .null, .null, .null, .null, .null, .null, .null, .null, .null, .null, .null, .null, .null, .long 0, .long 0, .long 0, .int 0, .int 0, .int 0, .null, .null, .null, .null, .null, .null, .null, .null, .null, .null, .null, .null, .null, .null, .null, .int 0, .null, .null, .null, .int 0, .int 0, .null, .null, .null, .null, .null, .null, .null, .null, .int 0, .null, .null, .null] : List Value).length = 150 := rfl
  refine lv_aload_n hx hb (dq tk_M_init_5 34 rfl) rfl (lv_at hl 0 rfl) ?_
  refine lv_bipush (v := 20) hx hb (dq tk_M_init_5 35 rfl) (by decide) ?_
  refine k_newa hc hw (t := 0) (N' := 20) (ty := .int) (a0 := (20, .inl (fun _ => 0))) rfl kw_154 rfl rfl (fun _ => rfl) (by decide) (by decide) (by decide) (Nat.le_of_ble_eq_true rfl) (Nat.le_of_ble_eq_true rfl) (dq tk_M_init_5 36 rfl) (fun H hw => ?_)
  replace hw := hw.drop (rfl)
  refine k_put hc hnm hw (k := 83) (ty := (.array .int)) rfl inX12 tyX12_ok nmX12 (by decide) rfl hlen kw_1717 rfl rfl rfl (dq tk_M_init_5 37 rfl) (fun H locs hw hlen => ?_)
  refine lv_aload_n hx hb (dq tk_M_init_5 38 rfl) rfl (lv_at hl 0 rfl) ?_
  refine lv_bipush (v := 20) hx hb (dq tk_M_init_5 39 rfl) (by decide) ?_
  refine k_newa hc hw (t := 0) (N' := 20) (ty := .int) (a0 := (20, .inl (fun _ => 0))) rfl kw_154 rfl rfl (fun _ => rfl) (by decide) (by decide) (by decide) (Nat.le_of_ble_eq_true rfl) (Nat.le_of_ble_eq_true rfl) (dq tk_M_init_5 40 rfl) (fun H hw => ?_)
  replace hw := hw.drop (rfl)
  refine k_put hc hnm hw (k := 84) (ty := (.array .int)) rfl inX12 tyX12_ok nmX12 (by decide) rfl hlen kw_1718 rfl rfl rfl (dq tk_M_init_5 41 rfl) (fun H locs hw hlen => ?_)
  refine lv_aload_n hx hb (dq tk_M_init_5 42 rfl) rfl (lv_at hl 0 rfl) ?_
  refine lv_sipush (v := 160) hx hb (dq tk_M_init_5 43 rfl) (by decide) ?_
  refine k_newa hc hw (t := 0) (N' := 160) (ty := .int) (a0 := (160, .inl (fun _ => 0))) rfl kw_154 rfl rfl (fun _ => rfl) (by decide) (by decide) (by decide) (Nat.le_of_ble_eq_true rfl) (Nat.le_of_ble_eq_true rfl) (dq tk_M_init_5 44 rfl) (fun H hw => ?_)
  replace hw := hw.drop (rfl)
  refine k_put hc hnm hw (k := 87) (ty := (.array .int)) rfl inX12 tyX12_ok nmX12 (by decide) rfl hlen kw_1721 rfl rfl rfl (dq tk_M_init_5 45 rfl) (fun H locs hw hlen => ?_)
  refine lv_aload_n hx hb (dq tk_M_init_5 46 rfl) rfl (lv_at hl 0 rfl) ?_
  refine lv_sipush (v := 160) hx hb (dq tk_M_init_5 47 rfl) (by decide) ?_
  refine k_newa hc hw (t := 0) (N' := 160) (ty := .int) (a0 := (160, .inl (fun _ => 0))) rfl kw_154 rfl rfl (fun _ => rfl) (by decide) (by decide) (by decide) (Nat.le_of_ble_eq_true rfl) (Nat.le_of_ble_eq_true rfl) (dq tk_M_init_5 48 rfl) (fun H hw => ?_)
  replace hw := hw.drop (rfl)
  refine k_put hc hnm hw (k := 88) (ty := (.array .int)) rfl inX12 tyX12_ok nmX12 (by decide) rfl hlen kw_1722 rfl rfl rfl (dq tk_M_init_5 49 rfl) (fun H locs hw hlen => ?_)
  refine lv_aload_n hx hb (dq tk_M_init_5 50 rfl) rfl (lv_at hl 0 rfl) ?_
  refine lv_sipush (v := 160) hx hb (dq tk_M_init_5 51 rfl) (by decide) ?_
  refine k_newa hc hw (t := 0) (N' := 160) (ty := .int) (a0 := (160, .inl (fun _ => 0))) rfl kw_154 rfl rfl (fun _ => rfl) (by decide) (by decide) (by decide) (Nat.le_of_ble_eq_true rfl) (Nat.le_of_ble_eq_true rfl) (dq tk_M_init_5 52 rfl) (fun H hw => ?_)
  replace hw := hw.drop (rfl)
  refine k_put hc hnm hw (k := 89) (ty := (.array .int)) rfl inX12 tyX12_ok nmX12 (by decide) rfl hlen kw_1723 rfl rfl rfl (dq tk_M_init_5 53 rfl) (fun H locs hw hlen => ?_)
  refine lv_aload_n hx hb (dq tk_M_init_5 54 rfl) rfl (lv_at hl 0 rfl) ?_
  refine lv_sipush (v := 160) hx hb (dq tk_M_init_5 55 rfl) (by decide) ?_
  refine k_newa hc hw (t := 0) (N' := 160) (ty := .int) (a0 := (160, .inl (fun _ => 0))) rfl kw_154 rfl rfl (fun _ => rfl) (by decide) (by decide) (by decide) (Nat.le_of_ble_eq_true rfl) (Nat.le_of_ble_eq_true rfl) (dq tk_M_init_5 56 rfl) (fun H hw => ?_)
  replace hw := hw.drop (rfl)
  refine k_put hc hnm hw (k := 90) (ty := (.array .int)) rfl inX12 tyX12_ok nmX12 (by decide) rfl hlen kw_1724 rfl rfl rfl (dq tk_M_init_5 57 rfl) (fun H locs hw hlen => ?_)
  refine lv_aload_n hx hb (dq tk_M_init_5 58 rfl) rfl (lv_at hl 0 rfl) ?_
  refine lv_sipush (v := 160) hx hb (dq tk_M_init_5 59 rfl) (by decide) ?_
  refine k_newa hc hw (t := 0) (N' := 160) (ty := .int) (a0 := (160, .inl (fun _ => 0))) rfl kw_154 rfl rfl (fun _ => rfl) (by decide) (by decide) (by decide) (Nat.le_of_ble_eq_true rfl) (Nat.le_of_ble_eq_true rfl) (dq tk_M_init_6 0 rfl) (fun H hw => ?_)
  replace hw := hw.drop (rfl)
  refine k_put hc hnm hw (k := 91) (ty := (.array .int)) rfl inX12 tyX12_ok nmX12 (by decide) rfl hlen kw_1725 rfl rfl rfl (dq tk_M_init_6 1 rfl) (fun H locs hw hlen => ?_)
  refine lv_aload_n hx hb (dq tk_M_init_6 2 rfl) rfl (lv_at hl 0 rfl) ?_
  refine lv_sipush (v := 160) hx hb (dq tk_M_init_6 3 rfl) (by decide) ?_
  refine k_newa hc hw (t := 0) (N' := 160) (ty := .int) (a0 := (160, .inl (fun _ => 0))) rfl kw_154 rfl rfl (fun _ => rfl) (by decide) (by decide) (by decide) (Nat.le_of_ble_eq_true rfl) (Nat.le_of_ble_eq_true rfl) (dq tk_M_init_6 4 rfl) (fun H hw => ?_)
  replace hw := hw.drop (rfl)
  refine k_put hc hnm hw (k := 92) (ty := (.array .int)) rfl inX12 tyX12_ok nmX12 (by decide) rfl hlen kw_1726 rfl rfl rfl (dq tk_M_init_6 5 rfl) (fun H locs hw hlen => ?_)
  replace hw : Kw Z τ0 566 [(0, .inr (12, [.ref (Z.1 + 566 + 1), .ref (Z.1 + 566 + 2), .ref (Z.1 + 566 + 3), .int 0, .int 312, .int (-1), .int 0, .int 0, .ref (Z.1 + 566 + 4), .ref (Z.1 + 566 + 5), .ref (Z.1 + 566 + 6), .ref (Z.1 + 566 + 7), .ref (Z.1 + 566 + 8), .ref (Z.1 + 566 + 9), .ref (Z.1 + 566 + 10), .int 0, .int 0, .int 0, .int 0, .ref (Z.1 + 566 + 11), .ref (Z.1 + 566 + 12), .ref (Z.1 + 566 + 13), .ref (Z.1 + 566 + 14), .ref (Z.1 + 566 + 15), .ref (Z.1 + 566 + 16), .ref (Z.1 + 566 + 17), .ref (Z.1 + 566 + 18), .ref (Z.1 + 566 + 19), .ref (Z.1 + 566 + 20), .ref (Z.1 + 566 + 21), .ref (Z.1 + 566 + 22), .ref (Z.1 + 566 + 23), .ref (Z.1 + 566 + 24), .ref (Z.1 + 566 + 25), .ref (Z.1 + 566 + 26), .ref (Z.1 + 566 + 27), .ref (Z.1 + 566 + 28), .ref (Z.1 + 566 + 29), .ref (Z.1 + 566 + 30), .ref (Z.1 + 566 + 31), .ref (Z.1 + 566 + 32), .ref (Z.1 + 566 + 33), .ref (Z.1 + 566 + 34), .ref (Z.1 + 566 + 35), .ref (Z.1 + 566 + 36), .ref (Z.1 + 566 + 37), .int 0, .int 0, .int 0, .int 0, .int 0, .int 0, .int 0, .int 0, .int 0, .int 0, .int (-1), .int 0, .int 0, .ref (Z.1 + 566 + 38), .ref (Z.1 + 566 + 39), .ref (Z.1 + 566 + 40), .int 0, .ref (Z.1 + 566 + 41), .ref (Z.1 + 566 + 42), .int 0, .ref (Z.1 + 566 + 43), .int 0, .int 0, .int 0, .int 0, .int 0, .int 0, .int (-1), .ref (Z.1 + 566 + 44), .ref (Z.1 + 566 + 45), .ref (Z.1 + 566 + 46), .ref (Z.1 + 566 + 47), .ref (Z.1 + 566 + 48), .ref (Z.1 + 566 + 49), .ref (Z.1 + 566 + 50), .ref (Z.1 + 566 + 51), .ref (Z.1 + 566 + 52), .ref (Z.1 + 566 + 53), .ref (Z.1 + 566 + 54), .int 0, .int 0, .ref (Z.1 + 566 + 55), .ref (Z.1 + 566 + 56), .ref (Z.1 + 566 + 57), .ref (Z.1 + 566 + 58), .ref (Z.1 + 566 + 59), .ref (Z.1 + 566 + 60), .null, .null, .null, .null, .null, .null, .null, .null, .null, .null, .null, .null, .null, .null, .null, .null, .null, .null, .long 0, .long 0, .long 0, .int 0, .int 0, .int 0, .null, .null, .null, .null, .null, .null, .null, .null, .null, .null, .null, .null, .null, .null, .null, .int 0, .null, .null, .null, .int 0, .int 0, .null, .null, .null, .null, .null, .null, .null, .null, .int 0, .null, .null, .null]))] 61 s H locs := hw
  replace hlen : ([.ref (Z.1 + 566 + 1), .ref (Z.1 + 566 + 2), .ref (Z.1 + 566 + 3), .int 0, .int 312, .int (-1), .int 0, .int 0, .ref (Z.1 + 566 + 4), .ref (Z.1 + 566 + 5), .ref (Z.1 + 566 + 6), .ref (Z.1 + 566 + 7), .ref (Z.1 + 566 + 8), .ref (Z.1 + 566 + 9), .ref (Z.1 + 566 + 10), .int 0, .int 0, .int 0, .int 0, .ref (Z.1 + 566 + 11), .ref (Z.1 + 566 + 12), .ref (Z.1 + 566 + 13), .ref (Z.1 + 566 + 14), .ref (Z.1 + 566 + 15), .ref (Z.1 + 566 + 16), .ref (Z.1 + 566 + 17), .ref (Z.1 + 566 + 18), .ref (Z.1 + 566 + 19), .ref (Z.1 + 566 + 20), .ref (Z.1 + 566 + 21), .ref (Z.1 + 566 + 22), .ref (Z.1 + 566 + 23), .ref (Z.1 + 566 + 24), .ref (Z.1 + 566 + 25), .ref (Z.1 + 566 + 26), .ref (Z.1 + 566 + 27), .ref (Z.1 + 566 + 28), .ref (Z.1 + 566 + 29), .ref (Z.1 + 566 + 30), .ref (Z.1 + 566 + 31), .ref (Z.1 + 566 + 32), .ref (Z.1 + 566 + 33), .ref (Z.1 + 566 + 34), .ref (Z.1 + 566 + 35), .ref (Z.1 + 566 + 36), .ref (Z.1 + 566 + 37), .int 0, .int 0, .int 0, .int 0, .int 0, .int 0, .int 0, .int 0, .int 0, .int 0, .int (-1), .int 0, .int 0, .ref (Z.1 + 566 + 38), .ref (Z.1 + 566 + 39), .ref (Z.1 + 566 + 40), .int 0, .ref (Z.1 + 566 + 41), .ref (Z.1 + 566 + 42), .int 0, .ref (Z.1 + 566 + 43), .int 0, .int 0, .int 0, .int 0, .int 0, .int 0, .int (-1), .ref (Z.1 + 566 + 44), .ref (Z.1 + 566 + 45), .ref (Z.1 + 566 + 46), .ref (Z.1 + 566 + 47), .ref (Z.1 + 566 + 48), .ref (Z.1 + 566 + 49), .ref (Z.1 + 566 + 50), .ref (Z.1 + 566 + 51), .ref (Z.1 + 566 + 52), .ref (Z.1 + 566 + 53), .ref (Z.1 + 566 + 54), .int 0, .int 0, .ref (Z.1 + 566 + 55), .ref (Z.1 + 566 + 56), .ref (Z.1 + 566 + 57), .ref (Z.1 + 566 + 58), .ref (Z.1 + 566 + 59), .ref (Z.1 + 566 + 60), .null, .null, .null, .null, .null, .null, .null, .null, .null, .null, .null, .null, .null, .null, .null, .null, .null, .null, .long 0, .long 0, .long 0, .int 0, .int 0, .int 0, .null, .null, .null, .null, .null, .null, .null, .null, .null, .null, .null, .null, .null, .null, .null, .int 0, .null, .null, .null, .int 0, .int 0, .null, .null, .null, .null, .null, .null, .null, .null, .int 0, .null, .null, .null] : List Value).length = 150 := rfl
  refine lv_aload_n hx hb (dq tk_M_init_6 6 rfl) rfl (lv_at hl 0 rfl) ?_
  refine lv_sipush (v := 160) hx hb (dq tk_M_init_6 7 rfl) (by decide) ?_
  refine k_newa hc hw (t := 0) (N' := 160) (ty := .int) (a0 := (160, .inl (fun _ => 0))) rfl kw_154 rfl rfl (fun _ => rfl) (by decide) (by decide) (by decide) (Nat.le_of_ble_eq_true rfl) (Nat.le_of_ble_eq_true rfl) (dq tk_M_init_6 8 rfl) (fun H hw => ?_)
  replace hw := hw.drop (rfl)
  refine k_put hc hnm hw (k := 93) (ty := (.array .int)) rfl inX12 tyX12_ok nmX12 (by decide) rfl hlen kw_1727 rfl rfl rfl (dq tk_M_init_6 9 rfl) (fun H locs hw hlen => ?_)
  refine lv_aload_n hx hb (dq tk_M_init_6 10 rfl) rfl (lv_at hl 0 rfl) ?_
  refine lv_sipush (v := 160) hx hb (dq tk_M_init_6 11 rfl) (by decide) ?_
  refine k_newa hc hw (t := 0) (N' := 160) (ty := .int) (a0 := (160, .inl (fun _ => 0))) rfl kw_154 rfl rfl (fun _ => rfl) (by decide) (by decide) (by decide) (Nat.le_of_ble_eq_true rfl) (Nat.le_of_ble_eq_true rfl) (dq tk_M_init_6 12 rfl) (fun H hw => ?_)
  replace hw := hw.drop (rfl)
  refine k_put hc hnm hw (k := 94) (ty := (.array .int)) rfl inX12 tyX12_ok nmX12 (by decide) rfl hlen kw_1728 rfl rfl rfl (dq tk_M_init_6 13 rfl) (fun H locs hw hlen => ?_)
  refine lv_aload_n hx hb (dq tk_M_init_6 14 rfl) rfl (lv_at hl 0 rfl) ?_
  refine lv_sipush (v := 160) hx hb (dq tk_M_init_6 15 rfl) (by decide) ?_
  refine k_newa hc hw (t := 0) (N' := 160) (ty := .int) (a0 := (160, .inl (fun _ => 0))) rfl kw_154 rfl rfl (fun _ => rfl) (by decide) (by decide) (by decide) (Nat.le_of_ble_eq_true rfl) (Nat.le_of_ble_eq_true rfl) (dq tk_M_init_6 16 rfl) (fun H hw => ?_)
  replace hw := hw.drop (rfl)
  refine k_put hc hnm hw (k := 95) (ty := (.array .int)) rfl inX12 tyX12_ok nmX12 (by decide) rfl hlen kw_1729 rfl rfl rfl (dq tk_M_init_6 17 rfl) (fun H locs hw hlen => ?_)
  refine lv_aload_n hx hb (dq tk_M_init_6 18 rfl) rfl (lv_at hl 0 rfl) ?_
  refine lv_sipush (v := 160) hx hb (dq tk_M_init_6 19 rfl) (by decide) ?_
  refine k_newa hc hw (t := 0) (N' := 160) (ty := .int) (a0 := (160, .inl (fun _ => 0))) rfl kw_154 rfl rfl (fun _ => rfl) (by decide) (by decide) (by decide) (Nat.le_of_ble_eq_true rfl) (Nat.le_of_ble_eq_true rfl) (dq tk_M_init_6 20 rfl) (fun H hw => ?_)
  replace hw := hw.drop (rfl)
  refine k_put hc hnm hw (k := 96) (ty := (.array .int)) rfl inX12 tyX12_ok nmX12 (by decide) rfl hlen kw_1730 rfl rfl rfl (dq tk_M_init_6 21 rfl) (fun H locs hw hlen => ?_)
  refine lv_aload_n hx hb (dq tk_M_init_6 22 rfl) rfl (lv_at hl 0 rfl) ?_
  refine lv_sipush (v := 160) hx hb (dq tk_M_init_6 23 rfl) (by decide) ?_
  refine k_newa hc hw (t := 0) (N' := 160) (ty := .int) (a0 := (160, .inl (fun _ => 0))) rfl kw_154 rfl rfl (fun _ => rfl) (by decide) (by decide) (by decide) (Nat.le_of_ble_eq_true rfl) (Nat.le_of_ble_eq_true rfl) (dq tk_M_init_6 24 rfl) (fun H hw => ?_)
  replace hw := hw.drop (rfl)
  refine k_put hc hnm hw (k := 97) (ty := (.array .int)) rfl inX12 tyX12_ok nmX12 (by decide) rfl hlen kw_1731 rfl rfl rfl (dq tk_M_init_6 25 rfl) (fun H locs hw hlen => ?_)
  refine lv_aload_n hx hb (dq tk_M_init_6 26 rfl) rfl (lv_at hl 0 rfl) ?_
  refine lv_sipush (v := 160) hx hb (dq tk_M_init_6 27 rfl) (by decide) ?_
  refine k_newa hc hw (t := 0) (N' := 160) (ty := .int) (a0 := (160, .inl (fun _ => 0))) rfl kw_154 rfl rfl (fun _ => rfl) (by decide) (by decide) (by decide) (Nat.le_of_ble_eq_true rfl) (Nat.le_of_ble_eq_true rfl) (dq tk_M_init_6 28 rfl) (fun H hw => ?_)
  replace hw := hw.drop (rfl)
  refine k_put hc hnm hw (k := 98) (ty := (.array .int)) rfl inX12 tyX12_ok nmX12 (by decide) rfl hlen kw_1732 rfl rfl rfl (dq tk_M_init_6 29 rfl) (fun H locs hw hlen => ?_)
  refine lv_aload_n hx hb (dq tk_M_init_6 30 rfl) rfl (lv_at hl 0 rfl) ?_
  refine lv_sipush (v := 160) hx hb (dq tk_M_init_6 31 rfl) (by decide) ?_
  refine k_newa hc hw (t := 3) (N' := 160) (ty := .long) (a0 := (160, .inr (.inl (fun _ => 0)))) rfl kw_539 rfl rfl (fun _ => rfl) (by decide) (by decide) (by decide) (Nat.le_of_ble_eq_true rfl) (Nat.le_of_ble_eq_true rfl) (dq tk_M_init_6 32 rfl) (fun H hw => ?_)
  replace hw := hw.drop (rfl)
  refine k_put hc hnm hw (k := 99) (ty := (.array .long)) rfl inX12 tyX12_ok nmX12 (by decide) rfl hlen kw_1733 rfl rfl rfl (dq tk_M_init_6 33 rfl) (fun H locs hw hlen => ?_)
  refine lv_aload_n hx hb (dq tk_M_init_6 34 rfl) rfl (lv_at hl 0 rfl) ?_
  refine lv_sipush (v := 160) hx hb (dq tk_M_init_6 35 rfl) (by decide) ?_
  refine k_newa hc hw (t := 0) (N' := 160) (ty := .int) (a0 := (160, .inl (fun _ => 0))) rfl kw_154 rfl rfl (fun _ => rfl) (by decide) (by decide) (by decide) (Nat.le_of_ble_eq_true rfl) (Nat.le_of_ble_eq_true rfl) (dq tk_M_init_6 36 rfl) (fun H hw => ?_)
  replace hw := hw.drop (rfl)
  refine k_put hc hnm hw (k := 100) (ty := (.array .int)) rfl inX12 tyX12_ok nmX12 (by decide) rfl hlen kw_1734 rfl rfl rfl (dq tk_M_init_6 37 rfl) (fun H locs hw hlen => ?_)
  replace hw : Kw Z τ0 566 [(0, .inr (12, [.ref (Z.1 + 566 + 1), .ref (Z.1 + 566 + 2), .ref (Z.1 + 566 + 3), .int 0, .int 312, .int (-1), .int 0, .int 0, .ref (Z.1 + 566 + 4), .ref (Z.1 + 566 + 5), .ref (Z.1 + 566 + 6), .ref (Z.1 + 566 + 7), .ref (Z.1 + 566 + 8), .ref (Z.1 + 566 + 9), .ref (Z.1 + 566 + 10), .int 0, .int 0, .int 0, .int 0, .ref (Z.1 + 566 + 11), .ref (Z.1 + 566 + 12), .ref (Z.1 + 566 + 13), .ref (Z.1 + 566 + 14), .ref (Z.1 + 566 + 15), .ref (Z.1 + 566 + 16), .ref (Z.1 + 566 + 17), .ref (Z.1 + 566 + 18), .ref (Z.1 + 566 + 19), .ref (Z.1 + 566 + 20), .ref (Z.1 + 566 + 21), .ref (Z.1 + 566 + 22), .ref (Z.1 + 566 + 23), .ref (Z.1 + 566 + 24), .ref (Z.1 + 566 + 25), .ref (Z.1 + 566 + 26), .ref (Z.1 + 566 + 27), .ref (Z.1 + 566 + 28), .ref (Z.1 + 566 + 29), .ref (Z.1 + 566 + 30), .ref (Z.1 + 566 + 31), .ref (Z.1 + 566 + 32), .ref (Z.1 + 566 + 33), .ref (Z.1 + 566 + 34), .ref (Z.1 + 566 + 35), .ref (Z.1 + 566 + 36), .ref (Z.1 + 566 + 37), .int 0, .int 0, .int 0, .int 0, .int 0, .int 0, .int 0, .int 0, .int 0, .int 0, .int (-1), .int 0, .int 0, .ref (Z.1 + 566 + 38), .ref (Z.1 + 566 + 39), .ref (Z.1 + 566 + 40), .int 0, .ref (Z.1 + 566 + 41), .ref (Z.1 + 566 + 42), .int 0, .ref (Z.1 + 566 + 43), .int 0, .int 0, .int 0, .int 0, .int 0, .int 0, .int (-1), .ref (Z.1 + 566 + 44), .ref (Z.1 + 566 + 45), .ref (Z.1 + 566 + 46), .ref (Z.1 + 566 + 47), .ref (Z.1 + 566 + 48), .ref (Z.1 + 566 + 49), .ref (Z.1 + 566 + 50), .ref (Z.1 + 566 + 51), .ref (Z.1 + 566 + 52), .ref (Z.1 + 566 + 53), .ref (Z.1 + 566 + 54), .int 0, .int 0, .ref (Z.1 + 566 + 55), .ref (Z.1 + 566 + 56), .ref (Z.1 + 566 + 57), .ref (Z.1 + 566 + 58), .ref (Z.1 + 566 + 59), .ref (Z.1 + 566 + 60), .ref (Z.1 + 566 + 61), .ref (Z.1 + 566 + 62), .ref (Z.1 + 566 + 63), .ref (Z.1 + 566 + 64), .ref (Z.1 + 566 + 65), .ref (Z.1 + 566 + 66), .ref (Z.1 + 566 + 67), .ref (Z.1 + 566 + 68), .null, .null, .null, .null, .null, .null, .null, .null, .null, .null, .long 0, .long 0, .long 0, .int 0, .int 0, .int 0, .null, .null, .null, .null, .null, .null, .null, .null, .null, .null, .null, .null, .null, .null, .null, .int 0, .null, .null, .null, .int 0, .int 0, .null, .null, .null, .null, .null, .null, .null, .null, .int 0, .null, .null, .null]))] 69 s H locs := hw
  replace hlen : ([.ref (Z.1 + 566 + 1), .ref (Z.1 + 566 + 2), .ref (Z.1 + 566 + 3), .int 0, .int 312, .int (-1), .int 0, .int 0, .ref (Z.1 + 566 + 4), .ref (Z.1 + 566 + 5), .ref (Z.1 + 566 + 6), .ref (Z.1 + 566 + 7), .ref (Z.1 + 566 + 8), .ref (Z.1 + 566 + 9), .ref (Z.1 + 566 + 10), .int 0, .int 0, .int 0, .int 0, .ref (Z.1 + 566 + 11), .ref (Z.1 + 566 + 12), .ref (Z.1 + 566 + 13), .ref (Z.1 + 566 + 14), .ref (Z.1 + 566 + 15), .ref (Z.1 + 566 + 16), .ref (Z.1 + 566 + 17), .ref (Z.1 + 566 + 18), .ref (Z.1 + 566 + 19), .ref (Z.1 + 566 + 20), .ref (Z.1 + 566 + 21), .ref (Z.1 + 566 + 22), .ref (Z.1 + 566 + 23), .ref (Z.1 + 566 + 24), .ref (Z.1 + 566 + 25), .ref (Z.1 + 566 + 26), .ref (Z.1 + 566 + 27), .ref (Z.1 + 566 + 28), .ref (Z.1 + 566 + 29), .ref (Z.1 + 566 + 30), .ref (Z.1 + 566 + 31), .ref (Z.1 + 566 + 32), .ref (Z.1 + 566 + 33), .ref (Z.1 + 566 + 34), .ref (Z.1 + 566 + 35), .ref (Z.1 + 566 + 36), .ref (Z.1 + 566 + 37), .int 0, .int 0, .int 0, .int 0, .int 0, .int 0, .int 0, .int 0, .int 0, .int 0, .int (-1), .int 0, .int 0, .ref (Z.1 + 566 + 38), .ref (Z.1 + 566 + 39), .ref (Z.1 + 566 + 40), .int 0, .ref (Z.1 + 566 + 41), .ref (Z.1 + 566 + 42), .int 0, .ref (Z.1 + 566 + 43), .int 0, .int 0, .int 0, .int 0, .int 0, .int 0, .int (-1), .ref (Z.1 + 566 + 44), .ref (Z.1 + 566 + 45), .ref (Z.1 + 566 + 46), .ref (Z.1 + 566 + 47), .ref (Z.1 + 566 + 48), .ref (Z.1 + 566 + 49), .ref (Z.1 + 566 + 50), .ref (Z.1 + 566 + 51), .ref (Z.1 + 566 + 52), .ref (Z.1 + 566 + 53), .ref (Z.1 + 566 + 54), .int 0, .int 0, .ref (Z.1 + 566 + 55), .ref (Z.1 + 566 + 56), .ref (Z.1 + 566 + 57), .ref (Z.1 + 566 + 58), .ref (Z.1 + 566 + 59), .ref (Z.1 + 566 + 60), .ref (Z.1 + 566 + 61), .ref (Z.1 + 566 + 62), .ref (Z.1 + 566 + 63), .ref (Z.1 + 566 + 64), .ref (Z.1 + 566 + 65), .ref (Z.1 + 566 + 66), .ref (Z.1 + 566 + 67), .ref (Z.1 + 566 + 68), .null, .null, .null, .null, .null, .null, .null, .null, .null, .null, .long 0, .long 0, .long 0, .int 0, .int 0, .int 0, .null, .null, .null, .null, .null, .null, .null, .null, .null, .null, .null, .null, .null, .null, .null, .int 0, .null, .null, .null, .int 0, .int 0, .null, .null, .null, .null, .null, .null, .null, .null, .int 0, .null, .null, .null] : List Value).length = 150 := rfl
  refine lv_aload_n hx hb (dq tk_M_init_6 38 rfl) rfl (lv_at hl 0 rfl) ?_
  refine lv_sipush (v := 160) hx hb (dq tk_M_init_6 39 rfl) (by decide) ?_
  refine k_newa hc hw (t := 0) (N' := 160) (ty := .int) (a0 := (160, .inl (fun _ => 0))) rfl kw_154 rfl rfl (fun _ => rfl) (by decide) (by decide) (by decide) (Nat.le_of_ble_eq_true rfl) (Nat.le_of_ble_eq_true rfl) (dq tk_M_init_6 40 rfl) (fun H hw => ?_)
  replace hw := hw.drop (rfl)
  refine k_put hc hnm hw (k := 101) (ty := (.array .int)) rfl inX12 tyX12_ok nmX12 (by decide) rfl hlen kw_1735 rfl rfl rfl (dq tk_M_init_6 41 rfl) (fun H locs hw hlen => ?_)
  refine lv_aload_n hx hb (dq tk_M_init_6 42 rfl) rfl (lv_at hl 0 rfl) ?_
  refine lv_sipush (v := 160) hx hb (dq tk_M_init_6 43 rfl) (by decide) ?_
  refine k_newa hc hw (t := 0) (N' := 160) (ty := .int) (a0 := (160, .inl (fun _ => 0))) rfl kw_154 rfl rfl (fun _ => rfl) (by decide) (by decide) (by decide) (Nat.le_of_ble_eq_true rfl) (Nat.le_of_ble_eq_true rfl) (dq tk_M_init_6 44 rfl) (fun H hw => ?_)
  replace hw := hw.drop (rfl)
  refine k_put hc hnm hw (k := 102) (ty := (.array .int)) rfl inX12 tyX12_ok nmX12 (by decide) rfl hlen kw_1736 rfl rfl rfl (dq tk_M_init_6 45 rfl) (fun H locs hw hlen => ?_)
  refine lv_aload_n hx hb (dq tk_M_init_6 46 rfl) rfl (lv_at hl 0 rfl) ?_
  refine lv_sipush (v := 12480) hx hb (dq tk_M_init_6 47 rfl) (by decide) ?_
  refine k_newa hc hw (t := 0) (N' := 12480) (ty := .int) (a0 := (12480, .inl (fun _ => 0))) rfl kw_154 rfl rfl (fun _ => rfl) (by decide) (by decide) (by decide) (Nat.le_of_ble_eq_true rfl) (Nat.le_of_ble_eq_true rfl) (dq tk_M_init_6 48 rfl) (fun H hw => ?_)
  replace hw := hw.drop (rfl)
  refine k_put hc hnm hw (k := 103) (ty := (.array .int)) rfl inX12 tyX12_ok nmX12 (by decide) rfl hlen kw_1737 rfl rfl rfl (dq tk_M_init_6 49 rfl) (fun H locs hw hlen => ?_)
  refine lv_aload_n hx hb (dq tk_M_init_6 50 rfl) rfl (lv_at hl 0 rfl) ?_
  refine lv_sipush (v := 12480) hx hb (dq tk_M_init_6 51 rfl) (by decide) ?_
  refine k_newa hc hw (t := 0) (N' := 12480) (ty := .int) (a0 := (12480, .inl (fun _ => 0))) rfl kw_154 rfl rfl (fun _ => rfl) (by decide) (by decide) (by decide) (Nat.le_of_ble_eq_true rfl) (Nat.le_of_ble_eq_true rfl) (dq tk_M_init_6 52 rfl) (fun H hw => ?_)
  replace hw := hw.drop (rfl)
  refine k_put hc hnm hw (k := 104) (ty := (.array .int)) rfl inX12 tyX12_ok nmX12 (by decide) rfl hlen kw_1738 rfl rfl rfl (dq tk_M_init_6 53 rfl) (fun H locs hw hlen => ?_)
  refine lv_aload_n hx hb (dq tk_M_init_6 54 rfl) rfl (lv_at hl 0 rfl) ?_
  refine lv_sipush (v := 12480) hx hb (dq tk_M_init_6 55 rfl) (by decide) ?_
  refine k_newa hc hw (t := 0) (N' := 12480) (ty := .int) (a0 := (12480, .inl (fun _ => 0))) rfl kw_154 rfl rfl (fun _ => rfl) (by decide) (by decide) (by decide) (Nat.le_of_ble_eq_true rfl) (Nat.le_of_ble_eq_true rfl) (dq tk_M_init_6 56 rfl) (fun H hw => ?_)
  replace hw := hw.drop (rfl)
  refine k_put hc hnm hw (k := 105) (ty := (.array .int)) rfl inX12 tyX12_ok nmX12 (by decide) rfl hlen kw_1739 rfl rfl rfl (dq tk_M_init_6 57 rfl) (fun H locs hw hlen => ?_)
  refine lv_aload_n hx hb (dq tk_M_init_6 58 rfl) rfl (lv_at hl 0 rfl) ?_
  refine lv_sipush (v := 624) hx hb (dq tk_M_init_6 59 rfl) (by decide) ?_
  refine k_newa hc hw (t := 0) (N' := 624) (ty := .int) (a0 := (624, .inl (fun _ => 0))) rfl kw_154 rfl rfl (fun _ => rfl) (by decide) (by decide) (by decide) (Nat.le_of_ble_eq_true rfl) (Nat.le_of_ble_eq_true rfl) (dq tk_M_init_7 0 rfl) (fun H hw => ?_)
  replace hw := hw.drop (rfl)
  refine k_put hc hnm hw (k := 106) (ty := (.array .int)) rfl inX12 tyX12_ok nmX12 (by decide) rfl hlen kw_1740 rfl rfl rfl (dq tk_M_init_7 1 rfl) (fun H locs hw hlen => ?_)
  refine lv_aload_n hx hb (dq tk_M_init_7 2 rfl) rfl (lv_at hl 0 rfl) ?_
  refine lv_sipush (v := 12480) hx hb (dq tk_M_init_7 3 rfl) (by decide) ?_
  refine k_newa hc hw (t := 3) (N' := 12480) (ty := .long) (a0 := (12480, .inr (.inl (fun _ => 0)))) rfl kw_539 rfl rfl (fun _ => rfl) (by decide) (by decide) (by decide) (Nat.le_of_ble_eq_true rfl) (Nat.le_of_ble_eq_true rfl) (dq tk_M_init_7 4 rfl) (fun H hw => ?_)
  replace hw := hw.drop (rfl)
  refine k_put hc hnm hw (k := 107) (ty := (.array .long)) rfl inX12 tyX12_ok nmX12 (by decide) rfl hlen kw_1741 rfl rfl rfl (dq tk_M_init_7 5 rfl) (fun H locs hw hlen => ?_)
  refine lv_aload_n hx hb (dq tk_M_init_7 6 rfl) rfl (lv_at hl 0 rfl) ?_
  refine lv_bipush (v := 20) hx hb (dq tk_M_init_7 7 rfl) (by decide) ?_
  refine k_newa hc hw (t := 3) (N' := 20) (ty := .long) (a0 := (20, .inr (.inl (fun _ => 0)))) rfl kw_539 rfl rfl (fun _ => rfl) (by decide) (by decide) (by decide) (Nat.le_of_ble_eq_true rfl) (Nat.le_of_ble_eq_true rfl) (dq tk_M_init_7 8 rfl) (fun H hw => ?_)
  replace hw := hw.drop (rfl)
  refine k_put hc hnm hw (k := 108) (ty := (.array .long)) rfl inX12 tyX12_ok nmX12 (by decide) rfl hlen kw_1742 rfl rfl rfl (dq tk_M_init_7 9 rfl) (fun H locs hw hlen => ?_)
  replace hw : Kw Z τ0 566 [(0, .inr (12, [.ref (Z.1 + 566 + 1), .ref (Z.1 + 566 + 2), .ref (Z.1 + 566 + 3), .int 0, .int 312, .int (-1), .int 0, .int 0, .ref (Z.1 + 566 + 4), .ref (Z.1 + 566 + 5), .ref (Z.1 + 566 + 6), .ref (Z.1 + 566 + 7), .ref (Z.1 + 566 + 8), .ref (Z.1 + 566 + 9), .ref (Z.1 + 566 + 10), .int 0, .int 0, .int 0, .int 0, .ref (Z.1 + 566 + 11), .ref (Z.1 + 566 + 12), .ref (Z.1 + 566 + 13), .ref (Z.1 + 566 + 14), .ref (Z.1 + 566 + 15), .ref (Z.1 + 566 + 16), .ref (Z.1 + 566 + 17), .ref (Z.1 + 566 + 18), .ref (Z.1 + 566 + 19), .ref (Z.1 + 566 + 20), .ref (Z.1 + 566 + 21), .ref (Z.1 + 566 + 22), .ref (Z.1 + 566 + 23), .ref (Z.1 + 566 + 24), .ref (Z.1 + 566 + 25), .ref (Z.1 + 566 + 26), .ref (Z.1 + 566 + 27), .ref (Z.1 + 566 + 28), .ref (Z.1 + 566 + 29), .ref (Z.1 + 566 + 30), .ref (Z.1 + 566 + 31), .ref (Z.1 + 566 + 32), .ref (Z.1 + 566 + 33), .ref (Z.1 + 566 + 34), .ref (Z.1 + 566 + 35), .ref (Z.1 + 566 + 36), .ref (Z.1 + 566 + 37), .int 0, .int 0, .int 0, .int 0, .int 0, .int 0, .int 0, .int 0, .int 0, .int 0, .int (-1), .int 0, .int 0, .ref (Z.1 + 566 + 38), .ref (Z.1 + 566 + 39), .ref (Z.1 + 566 + 40), .int 0, .ref (Z.1 + 566 + 41), .ref (Z.1 + 566 + 42), .int 0, .ref (Z.1 + 566 + 43), .int 0, .int 0, .int 0, .int 0, .int 0, .int 0, .int (-1), .ref (Z.1 + 566 + 44), .ref (Z.1 + 566 + 45), .ref (Z.1 + 566 + 46), .ref (Z.1 + 566 + 47), .ref (Z.1 + 566 + 48), .ref (Z.1 + 566 + 49), .ref (Z.1 + 566 + 50), .ref (Z.1 + 566 + 51), .ref (Z.1 + 566 + 52), .ref (Z.1 + 566 + 53), .ref (Z.1 + 566 + 54), .int 0, .int 0, .ref (Z.1 + 566 + 55), .ref (Z.1 + 566 + 56), .ref (Z.1 + 566 + 57), .ref (Z.1 + 566 + 58), .ref (Z.1 + 566 + 59), .ref (Z.1 + 566 + 60), .ref (Z.1 + 566 + 61), .ref (Z.1 + 566 + 62), .ref (Z.1 + 566 + 63), .ref (Z.1 + 566 + 64), .ref (Z.1 + 566 + 65), .ref (Z.1 + 566 + 66), .ref (Z.1 + 566 + 67), .ref (Z.1 + 566 + 68), .ref (Z.1 + 566 + 69), .ref (Z.1 + 566 + 70), .ref (Z.1 + 566 + 71), .ref (Z.1 + 566 + 72), .ref (Z.1 + 566 + 73), .ref (Z.1 + 566 + 74), .ref (Z.1 + 566 + 75), .ref (Z.1 + 566 + 76), .null, .null, .long 0, .long 0, .long 0, .int 0, .int 0, .int 0, .null, .null, .null, .null, .null, .null, .null, .null, .null, .null, .null, .null, .null, .null, .null, .int 0, .null, .null, .null, .int 0, .int 0, .null, .null, .null, .null, .null, .null, .null, .null, .int 0, .null, .null, .null]))] 77 s H locs := hw
  replace hlen : ([.ref (Z.1 + 566 + 1), .ref (Z.1 + 566 + 2), .ref (Z.1 + 566 + 3), .int 0, .int 312, .int (-1), .int 0, .int 0, .ref (Z.1 + 566 + 4), .ref (Z.1 + 566 + 5), .ref (Z.1 + 566 + 6), .ref (Z.1 + 566 + 7), .ref (Z.1 + 566 + 8), .ref (Z.1 + 566 + 9), .ref (Z.1 + 566 + 10), .int 0, .int 0, .int 0, .int 0, .ref (Z.1 + 566 + 11), .ref (Z.1 + 566 + 12), .ref (Z.1 + 566 + 13), .ref (Z.1 + 566 + 14), .ref (Z.1 + 566 + 15), .ref (Z.1 + 566 + 16), .ref (Z.1 + 566 + 17), .ref (Z.1 + 566 + 18), .ref (Z.1 + 566 + 19), .ref (Z.1 + 566 + 20), .ref (Z.1 + 566 + 21), .ref (Z.1 + 566 + 22), .ref (Z.1 + 566 + 23), .ref (Z.1 + 566 + 24), .ref (Z.1 + 566 + 25), .ref (Z.1 + 566 + 26), .ref (Z.1 + 566 + 27), .ref (Z.1 + 566 + 28), .ref (Z.1 + 566 + 29), .ref (Z.1 + 566 + 30), .ref (Z.1 + 566 + 31), .ref (Z.1 + 566 + 32), .ref (Z.1 + 566 + 33), .ref (Z.1 + 566 + 34), .ref (Z.1 + 566 + 35), .ref (Z.1 + 566 + 36), .ref (Z.1 + 566 + 37), .int 0, .int 0, .int 0, .int 0, .int 0, .int 0, .int 0, .int 0, .int 0, .int 0, .int (-1), .int 0, .int 0, .ref (Z.1 + 566 + 38), .ref (Z.1 + 566 + 39), .ref (Z.1 + 566 + 40), .int 0, .ref (Z.1 + 566 + 41), .ref (Z.1 + 566 + 42), .int 0, .ref (Z.1 + 566 + 43), .int 0, .int 0, .int 0, .int 0, .int 0, .int 0, .int (-1), .ref (Z.1 + 566 + 44), .ref (Z.1 + 566 + 45), .ref (Z.1 + 566 + 46), .ref (Z.1 + 566 + 47), .ref (Z.1 + 566 + 48), .ref (Z.1 + 566 + 49), .ref (Z.1 + 566 + 50), .ref (Z.1 + 566 + 51), .ref (Z.1 + 566 + 52), .ref (Z.1 + 566 + 53), .ref (Z.1 + 566 + 54), .int 0, .int 0, .ref (Z.1 + 566 + 55), .ref (Z.1 + 566 + 56), .ref (Z.1 + 566 + 57), .ref (Z.1 + 566 + 58), .ref (Z.1 + 566 + 59), .ref (Z.1 + 566 + 60), .ref (Z.1 + 566 + 61), .ref (Z.1 + 566 + 62), .ref (Z.1 + 566 + 63), .ref (Z.1 + 566 + 64), .ref (Z.1 + 566 + 65), .ref (Z.1 + 566 + 66), .ref (Z.1 + 566 + 67), .ref (Z.1 + 566 + 68), .ref (Z.1 + 566 + 69), .ref (Z.1 + 566 + 70), .ref (Z.1 + 566 + 71), .ref (Z.1 + 566 + 72), .ref (Z.1 + 566 + 73), .ref (Z.1 + 566 + 74), .ref (Z.1 + 566 + 75), .ref (Z.1 + 566 + 76), .null, .null, .long 0, .long 0, .long 0, .int 0, .int 0, .int 0, .null, .null, .null, .null, .null, .null, .null, .null, .null, .null, .null, .null, .null, .null, .null, .int 0, .null, .null, .null, .int 0, .int 0, .null, .null, .null, .null, .null, .null, .null, .null, .int 0, .null, .null, .null] : List Value).length = 150 := rfl
  refine lv_aload_n hx hb (dq tk_M_init_7 10 rfl) rfl (lv_at hl 0 rfl) ?_
  refine lv_bipush (v := 20) hx hb (dq tk_M_init_7 11 rfl) (by decide) ?_
  refine k_newa hc hw (t := 3) (N' := 20) (ty := .long) (a0 := (20, .inr (.inl (fun _ => 0)))) rfl kw_539 rfl rfl (fun _ => rfl) (by decide) (by decide) (by decide) (Nat.le_of_ble_eq_true rfl) (Nat.le_of_ble_eq_true rfl) (dq tk_M_init_7 12 rfl) (fun H hw => ?_)
  replace hw := hw.drop (rfl)
  refine k_put hc hnm hw (k := 109) (ty := (.array .long)) rfl inX12 tyX12_ok nmX12 (by decide) rfl hlen kw_1743 rfl rfl rfl (dq tk_M_init_7 13 rfl) (fun H locs hw hlen => ?_)
  refine lv_aload_n hx hb (dq tk_M_init_7 14 rfl) rfl (lv_at hl 0 rfl) ?_
  refine lv_iconst (v := 4) hx hb (dq tk_M_init_7 15 rfl) (by decide) ?_
  refine k_newa hc hw (t := 3) (N' := 4) (ty := .long) (a0 := (4, .inr (.inl (fun _ => 0)))) rfl kw_539 rfl rfl (fun _ => rfl) (by decide) (by decide) (by decide) (Nat.le_of_ble_eq_true rfl) (Nat.le_of_ble_eq_true rfl) (dq tk_M_init_7 16 rfl) (fun H hw => ?_)
  replace hw := hw.drop (rfl)
  refine k_put hc hnm hw (k := 110) (ty := (.array .long)) rfl inX12 tyX12_ok nmX12 (by decide) rfl hlen kw_1744 rfl rfl rfl (dq tk_M_init_7 17 rfl) (fun H locs hw hlen => ?_)
  refine lv_aload_n hx hb (dq tk_M_init_7 18 rfl) rfl (lv_at hl 0 rfl) ?_
  refine lv_ldc2 hx hb hc.ho (hc.ht _ kw_1633) (dq tk_M_init_7 19 rfl) ?_
  refine k_put hc hnm hw (k := 111) (ty := .long) rfl inX12 tyX12_ok nmX12 (by decide) rfl hlen kw_1745 rfl rfl rfl (dq tk_M_init_7 20 rfl) (fun H locs hw hlen => ?_)
  refine lv_aload_n hx hb (dq tk_M_init_7 21 rfl) rfl (lv_at hl 0 rfl) ?_
  refine lv_bipush (v := 24) hx hb (dq tk_M_init_7 22 rfl) (by decide) ?_
  refine k_newa hc hw (t := 0) (N' := 24) (ty := .int) (a0 := (24, .inl (fun _ => 0))) rfl kw_154 rfl rfl (fun _ => rfl) (by decide) (by decide) (by decide) (Nat.le_of_ble_eq_true rfl) (Nat.le_of_ble_eq_true rfl) (dq tk_M_init_7 23 rfl) (fun H hw => ?_)
  replace hw := hw.drop (rfl)
  refine k_put hc hnm hw (k := 117) (ty := (.array .int)) rfl inX12 tyX12_ok nmX12 (by decide) rfl hlen kw_1751 rfl rfl rfl (dq tk_M_init_7 24 rfl) (fun H locs hw hlen => ?_)
  refine lv_aload_n hx hb (dq tk_M_init_7 25 rfl) rfl (lv_at hl 0 rfl) ?_
  refine lv_bipush (v := 24) hx hb (dq tk_M_init_7 26 rfl) (by decide) ?_
  refine k_newa hc hw (t := 0) (N' := 24) (ty := .int) (a0 := (24, .inl (fun _ => 0))) rfl kw_154 rfl rfl (fun _ => rfl) (by decide) (by decide) (by decide) (Nat.le_of_ble_eq_true rfl) (Nat.le_of_ble_eq_true rfl) (dq tk_M_init_7 27 rfl) (fun H hw => ?_)
  replace hw := hw.drop (rfl)
  refine k_put hc hnm hw (k := 118) (ty := (.array .int)) rfl inX12 tyX12_ok nmX12 (by decide) rfl hlen kw_1752 rfl rfl rfl (dq tk_M_init_7 28 rfl) (fun H locs hw hlen => ?_)
  refine lv_aload_n hx hb (dq tk_M_init_7 29 rfl) rfl (lv_at hl 0 rfl) ?_
  refine lv_bipush (v := 24) hx hb (dq tk_M_init_7 30 rfl) (by decide) ?_
  refine k_newa hc hw (t := 0) (N' := 24) (ty := .int) (a0 := (24, .inl (fun _ => 0))) rfl kw_154 rfl rfl (fun _ => rfl) (by decide) (by decide) (by decide) (Nat.le_of_ble_eq_true rfl) (Nat.le_of_ble_eq_true rfl) (dq tk_M_init_7 31 rfl) (fun H hw => ?_)
  replace hw := hw.drop (rfl)
  refine k_put hc hnm hw (k := 119) (ty := (.array .int)) rfl inX12 tyX12_ok nmX12 (by decide) rfl hlen kw_1753 rfl rfl rfl (dq tk_M_init_7 32 rfl) (fun H locs hw hlen => ?_)
  refine lv_aload_n hx hb (dq tk_M_init_7 33 rfl) rfl (lv_at hl 0 rfl) ?_
  refine lv_bipush (v := 24) hx hb (dq tk_M_init_7 34 rfl) (by decide) ?_
  refine k_newa hc hw (t := 0) (N' := 24) (ty := .int) (a0 := (24, .inl (fun _ => 0))) rfl kw_154 rfl rfl (fun _ => rfl) (by decide) (by decide) (by decide) (Nat.le_of_ble_eq_true rfl) (Nat.le_of_ble_eq_true rfl) (dq tk_M_init_7 35 rfl) (fun H hw => ?_)
  replace hw := hw.drop (rfl)
  refine k_put hc hnm hw (k := 120) (ty := (.array .int)) rfl inX12 tyX12_ok nmX12 (by decide) rfl hlen kw_1754 rfl rfl rfl (dq tk_M_init_7 36 rfl) (fun H locs hw hlen => ?_)
  refine lv_aload_n hx hb (dq tk_M_init_7 37 rfl) rfl (lv_at hl 0 rfl) ?_
  refine lv_bipush (v := 24) hx hb (dq tk_M_init_7 38 rfl) (by decide) ?_
  refine k_newa hc hw (t := 0) (N' := 24) (ty := .int) (a0 := (24, .inl (fun _ => 0))) rfl kw_154 rfl rfl (fun _ => rfl) (by decide) (by decide) (by decide) (Nat.le_of_ble_eq_true rfl) (Nat.le_of_ble_eq_true rfl) (dq tk_M_init_7 39 rfl) (fun H hw => ?_)
  replace hw := hw.drop (rfl)
  refine k_put hc hnm hw (k := 121) (ty := (.array .int)) rfl inX12 tyX12_ok nmX12 (by decide) rfl hlen kw_1755 rfl rfl rfl (dq tk_M_init_7 40 rfl) (fun H locs hw hlen => ?_)
  replace hw : Kw Z τ0 566 [(0, .inr (12, [.ref (Z.1 + 566 + 1), .ref (Z.1 + 566 + 2), .ref (Z.1 + 566 + 3), .int 0, .int 312, .int (-1), .int 0, .int 0, .ref (Z.1 + 566 + 4), .ref (Z.1 + 566 + 5), .ref (Z.1 + 566 + 6), .ref (Z.1 + 566 + 7), .ref (Z.1 + 566 + 8), .ref (Z.1 + 566 + 9), .ref (Z.1 + 566 + 10), .int 0, .int 0, .int 0, .int 0, .ref (Z.1 + 566 + 11), .ref (Z.1 + 566 + 12), .ref (Z.1 + 566 + 13), .ref (Z.1 + 566 + 14), .ref (Z.1 + 566 + 15), .ref (Z.1 + 566 + 16), .ref (Z.1 + 566 + 17), .ref (Z.1 + 566 + 18), .ref (Z.1 + 566 + 19), .ref (Z.1 + 566 + 20), .ref (Z.1 + 566 + 21), .ref (Z.1 + 566 + 22), .ref (Z.1 + 566 + 23), .ref (Z.1 + 566 + 24), .ref (Z.1 + 566 + 25), .ref (Z.1 + 566 + 26), .ref (Z.1 + 566 + 27), .ref (Z.1 + 566 + 28), .ref (Z.1 + 566 + 29), .ref (Z.1 + 566 + 30), .ref (Z.1 + 566 + 31), .ref (Z.1 + 566 + 32), .ref (Z.1 + 566 + 33), .ref (Z.1 + 566 + 34), .ref (Z.1 + 566 + 35), .ref (Z.1 + 566 + 36), .ref (Z.1 + 566 + 37), .int 0, .int 0, .int 0, .int 0, .int 0, .int 0, .int 0, .int 0, .int 0, .int 0, .int (-1), .int 0, .int 0, .ref (Z.1 + 566 + 38), .ref (Z.1 + 566 + 39), .ref (Z.1 + 566 + 40), .int 0, .ref (Z.1 + 566 + 41), .ref (Z.1 + 566 + 42), .int 0, .ref (Z.1 + 566 + 43), .int 0, .int 0, .int 0, .int 0, .int 0, .int 0, .int (-1), .ref (Z.1 + 566 + 44), .ref (Z.1 + 566 + 45), .ref (Z.1 + 566 + 46), .ref (Z.1 + 566 + 47), .ref (Z.1 + 566 + 48), .ref (Z.1 + 566 + 49), .ref (Z.1 + 566 + 50), .ref (Z.1 + 566 + 51), .ref (Z.1 + 566 + 52), .ref (Z.1 + 566 + 53), .ref (Z.1 + 566 + 54), .int 0, .int 0, .ref (Z.1 + 566 + 55), .ref (Z.1 + 566 + 56), .ref (Z.1 + 566 + 57), .ref (Z.1 + 566 + 58), .ref (Z.1 + 566 + 59), .ref (Z.1 + 566 + 60), .ref (Z.1 + 566 + 61), .ref (Z.1 + 566 + 62), .ref (Z.1 + 566 + 63), .ref (Z.1 + 566 + 64), .ref (Z.1 + 566 + 65), .ref (Z.1 + 566 + 66), .ref (Z.1 + 566 + 67), .ref (Z.1 + 566 + 68), .ref (Z.1 + 566 + 69), .ref (Z.1 + 566 + 70), .ref (Z.1 + 566 + 71), .ref (Z.1 + 566 + 72), .ref (Z.1 + 566 + 73), .ref (Z.1 + 566 + 74), .ref (Z.1 + 566 + 75), .ref (Z.1 + 566 + 76), .ref (Z.1 + 566 + 77), .ref (Z.1 + 566 + 78), .long 10000, .long 0, .long 0, .int 0, .int 0, .int 0, .ref (Z.1 + 566 + 79), .ref (Z.1 + 566 + 80), .ref (Z.1 + 566 + 81), .ref (Z.1 + 566 + 82), .ref (Z.1 + 566 + 83), .null, .null, .null, .null, .null, .null, .null, .null, .null, .null, .int 0, .null, .null, .null, .int 0, .int 0, .null, .null, .null, .null, .null, .null, .null, .null, .int 0, .null, .null, .null]))] 84 s H locs := hw
  replace hlen : ([.ref (Z.1 + 566 + 1), .ref (Z.1 + 566 + 2), .ref (Z.1 + 566 + 3), .int 0, .int 312, .int (-1), .int 0, .int 0, .ref (Z.1 + 566 + 4), .ref (Z.1 + 566 + 5), .ref (Z.1 + 566 + 6), .ref (Z.1 + 566 + 7), .ref (Z.1 + 566 + 8), .ref (Z.1 + 566 + 9), .ref (Z.1 + 566 + 10), .int 0, .int 0, .int 0, .int 0, .ref (Z.1 + 566 + 11), .ref (Z.1 + 566 + 12), .ref (Z.1 + 566 + 13), .ref (Z.1 + 566 + 14), .ref (Z.1 + 566 + 15), .ref (Z.1 + 566 + 16), .ref (Z.1 + 566 + 17), .ref (Z.1 + 566 + 18), .ref (Z.1 + 566 + 19), .ref (Z.1 + 566 + 20), .ref (Z.1 + 566 + 21), .ref (Z.1 + 566 + 22), .ref (Z.1 + 566 + 23), .ref (Z.1 + 566 + 24), .ref (Z.1 + 566 + 25), .ref (Z.1 + 566 + 26), .ref (Z.1 + 566 + 27), .ref (Z.1 + 566 + 28), .ref (Z.1 + 566 + 29), .ref (Z.1 + 566 + 30), .ref (Z.1 + 566 + 31), .ref (Z.1 + 566 + 32), .ref (Z.1 + 566 + 33), .ref (Z.1 + 566 + 34), .ref (Z.1 + 566 + 35), .ref (Z.1 + 566 + 36), .ref (Z.1 + 566 + 37), .int 0, .int 0, .int 0, .int 0, .int 0, .int 0, .int 0, .int 0, .int 0, .int 0, .int (-1), .int 0, .int 0, .ref (Z.1 + 566 + 38), .ref (Z.1 + 566 + 39), .ref (Z.1 + 566 + 40), .int 0, .ref (Z.1 + 566 + 41), .ref (Z.1 + 566 + 42), .int 0, .ref (Z.1 + 566 + 43), .int 0, .int 0, .int 0, .int 0, .int 0, .int 0, .int (-1), .ref (Z.1 + 566 + 44), .ref (Z.1 + 566 + 45), .ref (Z.1 + 566 + 46), .ref (Z.1 + 566 + 47), .ref (Z.1 + 566 + 48), .ref (Z.1 + 566 + 49), .ref (Z.1 + 566 + 50), .ref (Z.1 + 566 + 51), .ref (Z.1 + 566 + 52), .ref (Z.1 + 566 + 53), .ref (Z.1 + 566 + 54), .int 0, .int 0, .ref (Z.1 + 566 + 55), .ref (Z.1 + 566 + 56), .ref (Z.1 + 566 + 57), .ref (Z.1 + 566 + 58), .ref (Z.1 + 566 + 59), .ref (Z.1 + 566 + 60), .ref (Z.1 + 566 + 61), .ref (Z.1 + 566 + 62), .ref (Z.1 + 566 + 63), .ref (Z.1 + 566 + 64), .ref (Z.1 + 566 + 65), .ref (Z.1 + 566 + 66), .ref (Z.1 + 566 + 67), .ref (Z.1 + 566 + 68), .ref (Z.1 + 566 + 69), .ref (Z.1 + 566 + 70), .ref (Z.1 + 566 + 71), .ref (Z.1 + 566 + 72), .ref (Z.1 + 566 + 73), .ref (Z.1 + 566 + 74), .ref (Z.1 + 566 + 75), .ref (Z.1 + 566 + 76), .ref (Z.1 + 566 + 77), .ref (Z.1 + 566 + 78), .long 10000, .long 0, .long 0, .int 0, .int 0, .int 0, .ref (Z.1 + 566 + 79), .ref (Z.1 + 566 + 80), .ref (Z.1 + 566 + 81), .ref (Z.1 + 566 + 82), .ref (Z.1 + 566 + 83), .null, .null, .null, .null, .null, .null, .null, .null, .null, .null, .int 0, .null, .null, .null, .int 0, .int 0, .null, .null, .null, .null, .null, .null, .null, .null, .int 0, .null, .null, .null] : List Value).length = 150 := rfl
  refine lv_aload_n hx hb (dq tk_M_init_7 41 rfl) rfl (lv_at hl 0 rfl) ?_
  refine lv_bipush (v := 24) hx hb (dq tk_M_init_7 42 rfl) (by decide) ?_
  refine k_newa hc hw (t := 2) (N' := 24) (ty := .boolean) (a0 := (24, .inl (fun _ => 0))) rfl kw_302 rfl rfl (fun _ => rfl) (by decide) (by decide) (by decide) (Nat.le_of_ble_eq_true rfl) (Nat.le_of_ble_eq_true rfl) (dq tk_M_init_7 43 rfl) (fun H hw => ?_)
  replace hw := hw.drop (rfl)
  refine k_put hc hnm hw (k := 122) (ty := (.array .boolean)) rfl inX12 tyX12_ok nmX12 (by decide) rfl hlen kw_1756 rfl rfl rfl (dq tk_M_init_7 44 rfl) (fun H locs hw hlen => ?_)
  refine lv_aload_n hx hb (dq tk_M_init_7 45 rfl) rfl (lv_at hl 0 rfl) ?_
  refine lv_bipush (v := 60) hx hb (dq tk_M_init_7 46 rfl) (by decide) ?_
  refine k_newa hc hw (t := 2) (N' := 60) (ty := .boolean) (a0 := (60, .inl (fun _ => 0))) rfl kw_302 rfl rfl (fun _ => rfl) (by decide) (by decide) (by decide) (Nat.le_of_ble_eq_true rfl) (Nat.le_of_ble_eq_true rfl) (dq tk_M_init_7 47 rfl) (fun H hw => ?_)
  replace hw := hw.drop (rfl)
  refine k_put hc hnm hw (k := 123) (ty := (.array .boolean)) rfl inX12 tyX12_ok nmX12 (by decide) rfl hlen kw_1757 rfl rfl rfl (dq tk_M_init_7 48 rfl) (fun H locs hw hlen => ?_)
  refine lv_aload_n hx hb (dq tk_M_init_7 49 rfl) rfl (lv_at hl 0 rfl) ?_
  refine lv_bipush (v := 60) hx hb (dq tk_M_init_7 50 rfl) (by decide) ?_
  refine k_newa hc hw (t := 0) (N' := 60) (ty := .int) (a0 := (60, .inl (fun _ => 0))) rfl kw_154 rfl rfl (fun _ => rfl) (by decide) (by decide) (by decide) (Nat.le_of_ble_eq_true rfl) (Nat.le_of_ble_eq_true rfl) (dq tk_M_init_7 51 rfl) (fun H hw => ?_)
  replace hw := hw.drop (rfl)
  refine k_put hc hnm hw (k := 124) (ty := (.array .int)) rfl inX12 tyX12_ok nmX12 (by decide) rfl hlen kw_1758 rfl rfl rfl (dq tk_M_init_7 52 rfl) (fun H locs hw hlen => ?_)
  refine lv_aload_n hx hb (dq tk_M_init_7 53 rfl) rfl (lv_at hl 0 rfl) ?_
  refine lv_bipush (v := 60) hx hb (dq tk_M_init_7 54 rfl) (by decide) ?_
  refine k_newa hc hw (t := 0) (N' := 60) (ty := .int) (a0 := (60, .inl (fun _ => 0))) rfl kw_154 rfl rfl (fun _ => rfl) (by decide) (by decide) (by decide) (Nat.le_of_ble_eq_true rfl) (Nat.le_of_ble_eq_true rfl) (dq tk_M_init_7 55 rfl) (fun H hw => ?_)
  replace hw := hw.drop (rfl)
  refine k_put hc hnm hw (k := 125) (ty := (.array .int)) rfl inX12 tyX12_ok nmX12 (by decide) rfl hlen kw_1759 rfl rfl rfl (dq tk_M_init_7 56 rfl) (fun H locs hw hlen => ?_)
  refine lv_aload_n hx hb (dq tk_M_init_7 57 rfl) rfl (lv_at hl 0 rfl) ?_
  refine lv_bipush (v := 60) hx hb (dq tk_M_init_7 58 rfl) (by decide) ?_
  refine k_newa hc hw (t := 0) (N' := 60) (ty := .int) (a0 := (60, .inl (fun _ => 0))) rfl kw_154 rfl rfl (fun _ => rfl) (by decide) (by decide) (by decide) (Nat.le_of_ble_eq_true rfl) (Nat.le_of_ble_eq_true rfl) (dq tk_M_init_7 59 rfl) (fun H hw => ?_)
  replace hw := hw.drop (rfl)
  refine k_put hc hnm hw (k := 126) (ty := (.array .int)) rfl inX12 tyX12_ok nmX12 (by decide) rfl hlen kw_1760 rfl rfl rfl (dq tk_M_init_8 0 rfl) (fun H locs hw hlen => ?_)
  refine lv_aload_n hx hb (dq tk_M_init_8 1 rfl) rfl (lv_at hl 0 rfl) ?_
  refine lv_bipush (v := 60) hx hb (dq tk_M_init_8 2 rfl) (by decide) ?_
  refine k_newa hc hw (t := 0) (N' := 60) (ty := .int) (a0 := (60, .inl (fun _ => 0))) rfl kw_154 rfl rfl (fun _ => rfl) (by decide) (by decide) (by decide) (Nat.le_of_ble_eq_true rfl) (Nat.le_of_ble_eq_true rfl) (dq tk_M_init_8 3 rfl) (fun H hw => ?_)
  replace hw := hw.drop (rfl)
  refine k_put hc hnm hw (k := 127) (ty := (.array .int)) rfl inX12 tyX12_ok nmX12 (by decide) rfl hlen kw_1761 rfl rfl rfl (dq tk_M_init_8 4 rfl) (fun H locs hw hlen => ?_)
  refine lv_aload_n hx hb (dq tk_M_init_8 5 rfl) rfl (lv_at hl 0 rfl) ?_
  refine lv_sipush (v := 480) hx hb (dq tk_M_init_8 6 rfl) (by decide) ?_
  refine k_newa hc hw (t := 0) (N' := 480) (ty := .int) (a0 := (480, .inl (fun _ => 0))) rfl kw_154 rfl rfl (fun _ => rfl) (by decide) (by decide) (by decide) (Nat.le_of_ble_eq_true rfl) (Nat.le_of_ble_eq_true rfl) (dq tk_M_init_8 7 rfl) (fun H hw => ?_)
  replace hw := hw.drop (rfl)
  refine k_put hc hnm hw (k := 128) (ty := (.array .int)) rfl inX12 tyX12_ok nmX12 (by decide) rfl hlen kw_1762 rfl rfl rfl (dq tk_M_init_8 8 rfl) (fun H locs hw hlen => ?_)
  refine lv_aload_n hx hb (dq tk_M_init_8 9 rfl) rfl (lv_at hl 0 rfl) ?_
  refine lv_bipush (v := 20) hx hb (dq tk_M_init_8 10 rfl) (by decide) ?_
  refine k_newa hc hw (t := 0) (N' := 20) (ty := .int) (a0 := (20, .inl (fun _ => 0))) rfl kw_154 rfl rfl (fun _ => rfl) (by decide) (by decide) (by decide) (Nat.le_of_ble_eq_true rfl) (Nat.le_of_ble_eq_true rfl) (dq tk_M_init_8 11 rfl) (fun H hw => ?_)
  replace hw := hw.drop (rfl)
  refine k_put hc hnm hw (k := 129) (ty := (.array .int)) rfl inX12 tyX12_ok nmX12 (by decide) rfl hlen kw_1763 rfl rfl rfl (dq tk_M_init_8 12 rfl) (fun H locs hw hlen => ?_)
  replace hw : Kw Z τ0 566 [(0, .inr (12, [.ref (Z.1 + 566 + 1), .ref (Z.1 + 566 + 2), .ref (Z.1 + 566 + 3), .int 0, .int 312, .int (-1), .int 0, .int 0, .ref (Z.1 + 566 + 4), .ref (Z.1 + 566 + 5), .ref (Z.1 + 566 + 6), .ref (Z.1 + 566 + 7), .ref (Z.1 + 566 + 8), .ref (Z.1 + 566 + 9), .ref (Z.1 + 566 + 10), .int 0, .int 0, .int 0, .int 0, .ref (Z.1 + 566 + 11), .ref (Z.1 + 566 + 12), .ref (Z.1 + 566 + 13), .ref (Z.1 + 566 + 14), .ref (Z.1 + 566 + 15), .ref (Z.1 + 566 + 16), .ref (Z.1 + 566 + 17), .ref (Z.1 + 566 + 18), .ref (Z.1 + 566 + 19), .ref (Z.1 + 566 + 20), .ref (Z.1 + 566 + 21), .ref (Z.1 + 566 + 22), .ref (Z.1 + 566 + 23), .ref (Z.1 + 566 + 24), .ref (Z.1 + 566 + 25), .ref (Z.1 + 566 + 26), .ref (Z.1 + 566 + 27), .ref (Z.1 + 566 + 28), .ref (Z.1 + 566 + 29), .ref (Z.1 + 566 + 30), .ref (Z.1 + 566 + 31), .ref (Z.1 + 566 + 32), .ref (Z.1 + 566 + 33), .ref (Z.1 + 566 + 34), .ref (Z.1 + 566 + 35), .ref (Z.1 + 566 + 36), .ref (Z.1 + 566 + 37), .int 0, .int 0, .int 0, .int 0, .int 0, .int 0, .int 0, .int 0, .int 0, .int 0, .int (-1), .int 0, .int 0, .ref (Z.1 + 566 + 38), .ref (Z.1 + 566 + 39), .ref (Z.1 + 566 + 40), .int 0, .ref (Z.1 + 566 + 41), .ref (Z.1 + 566 + 42), .int 0, .ref (Z.1 + 566 + 43), .int 0, .int 0, .int 0, .int 0, .int 0, .int 0, .int (-1), .ref (Z.1 + 566 + 44), .ref (Z.1 + 566 + 45), .ref (Z.1 + 566 + 46), .ref (Z.1 + 566 + 47), .ref (Z.1 + 566 + 48), .ref (Z.1 + 566 + 49), .ref (Z.1 + 566 + 50), .ref (Z.1 + 566 + 51), .ref (Z.1 + 566 + 52), .ref (Z.1 + 566 + 53), .ref (Z.1 + 566 + 54), .int 0, .int 0, .ref (Z.1 + 566 + 55), .ref (Z.1 + 566 + 56), .ref (Z.1 + 566 + 57), .ref (Z.1 + 566 + 58), .ref (Z.1 + 566 + 59), .ref (Z.1 + 566 + 60), .ref (Z.1 + 566 + 61), .ref (Z.1 + 566 + 62), .ref (Z.1 + 566 + 63), .ref (Z.1 + 566 + 64), .ref (Z.1 + 566 + 65), .ref (Z.1 + 566 + 66), .ref (Z.1 + 566 + 67), .ref (Z.1 + 566 + 68), .ref (Z.1 + 566 + 69), .ref (Z.1 + 566 + 70), .ref (Z.1 + 566 + 71), .ref (Z.1 + 566 + 72), .ref (Z.1 + 566 + 73), .ref (Z.1 + 566 + 74), .ref (Z.1 + 566 + 75), .ref (Z.1 + 566 + 76), .ref (Z.1 + 566 + 77), .ref (Z.1 + 566 + 78), .long 10000, .long 0, .long 0, .int 0, .int 0, .int 0, .ref (Z.1 + 566 + 79), .ref (Z.1 + 566 + 80), .ref (Z.1 + 566 + 81), .ref (Z.1 + 566 + 82), .ref (Z.1 + 566 + 83), .ref (Z.1 + 566 + 84), .ref (Z.1 + 566 + 85), .ref (Z.1 + 566 + 86), .ref (Z.1 + 566 + 87), .ref (Z.1 + 566 + 88), .ref (Z.1 + 566 + 89), .ref (Z.1 + 566 + 90), .ref (Z.1 + 566 + 91), .null, .null, .int 0, .null, .null, .null, .int 0, .int 0, .null, .null, .null, .null, .null, .null, .null, .null, .int 0, .null, .null, .null]))] 92 s H locs := hw
  replace hlen : ([.ref (Z.1 + 566 + 1), .ref (Z.1 + 566 + 2), .ref (Z.1 + 566 + 3), .int 0, .int 312, .int (-1), .int 0, .int 0, .ref (Z.1 + 566 + 4), .ref (Z.1 + 566 + 5), .ref (Z.1 + 566 + 6), .ref (Z.1 + 566 + 7), .ref (Z.1 + 566 + 8), .ref (Z.1 + 566 + 9), .ref (Z.1 + 566 + 10), .int 0, .int 0, .int 0, .int 0, .ref (Z.1 + 566 + 11), .ref (Z.1 + 566 + 12), .ref (Z.1 + 566 + 13), .ref (Z.1 + 566 + 14), .ref (Z.1 + 566 + 15), .ref (Z.1 + 566 + 16), .ref (Z.1 + 566 + 17), .ref (Z.1 + 566 + 18), .ref (Z.1 + 566 + 19), .ref (Z.1 + 566 + 20), .ref (Z.1 + 566 + 21), .ref (Z.1 + 566 + 22), .ref (Z.1 + 566 + 23), .ref (Z.1 + 566 + 24), .ref (Z.1 + 566 + 25), .ref (Z.1 + 566 + 26), .ref (Z.1 + 566 + 27), .ref (Z.1 + 566 + 28), .ref (Z.1 + 566 + 29), .ref (Z.1 + 566 + 30), .ref (Z.1 + 566 + 31), .ref (Z.1 + 566 + 32), .ref (Z.1 + 566 + 33), .ref (Z.1 + 566 + 34), .ref (Z.1 + 566 + 35), .ref (Z.1 + 566 + 36), .ref (Z.1 + 566 + 37), .int 0, .int 0, .int 0, .int 0, .int 0, .int 0, .int 0, .int 0, .int 0, .int 0, .int (-1), .int 0, .int 0, .ref (Z.1 + 566 + 38), .ref (Z.1 + 566 + 39), .ref (Z.1 + 566 + 40), .int 0, .ref (Z.1 + 566 + 41), .ref (Z.1 + 566 + 42), .int 0, .ref (Z.1 + 566 + 43), .int 0, .int 0, .int 0, .int 0, .int 0, .int 0, .int (-1), .ref (Z.1 + 566 + 44), .ref (Z.1 + 566 + 45), .ref (Z.1 + 566 + 46), .ref (Z.1 + 566 + 47), .ref (Z.1 + 566 + 48), .ref (Z.1 + 566 + 49), .ref (Z.1 + 566 + 50), .ref (Z.1 + 566 + 51), .ref (Z.1 + 566 + 52), .ref (Z.1 + 566 + 53), .ref (Z.1 + 566 + 54), .int 0, .int 0, .ref (Z.1 + 566 + 55), .ref (Z.1 + 566 + 56), .ref (Z.1 + 566 + 57), .ref (Z.1 + 566 + 58), .ref (Z.1 + 566 + 59), .ref (Z.1 + 566 + 60), .ref (Z.1 + 566 + 61), .ref (Z.1 + 566 + 62), .ref (Z.1 + 566 + 63), .ref (Z.1 + 566 + 64), .ref (Z.1 + 566 + 65), .ref (Z.1 + 566 + 66), .ref (Z.1 + 566 + 67), .ref (Z.1 + 566 + 68), .ref (Z.1 + 566 + 69), .ref (Z.1 + 566 + 70), .ref (Z.1 + 566 + 71), .ref (Z.1 + 566 + 72), .ref (Z.1 + 566 + 73), .ref (Z.1 + 566 + 74), .ref (Z.1 + 566 + 75), .ref (Z.1 + 566 + 76), .ref (Z.1 + 566 + 77), .ref (Z.1 + 566 + 78), .long 10000, .long 0, .long 0, .int 0, .int 0, .int 0, .ref (Z.1 + 566 + 79), .ref (Z.1 + 566 + 80), .ref (Z.1 + 566 + 81), .ref (Z.1 + 566 + 82), .ref (Z.1 + 566 + 83), .ref (Z.1 + 566 + 84), .ref (Z.1 + 566 + 85), .ref (Z.1 + 566 + 86), .ref (Z.1 + 566 + 87), .ref (Z.1 + 566 + 88), .ref (Z.1 + 566 + 89), .ref (Z.1 + 566 + 90), .ref (Z.1 + 566 + 91), .null, .null, .int 0, .null, .null, .null, .int 0, .int 0, .null, .null, .null, .null, .null, .null, .null, .null, .int 0, .null, .null, .null] : List Value).length = 150 := rfl
  refine lv_aload_n hx hb (dq tk_M_init_8 13 rfl) rfl (lv_at hl 0 rfl) ?_
  refine lv_bipush (v := 20) hx hb (dq tk_M_init_8 14 rfl) (by decide) ?_
  refine k_newa hc hw (t := 0) (N' := 20) (ty := .int) (a0 := (20, .inl (fun _ => 0))) rfl kw_154 rfl rfl (fun _ => rfl) (by decide) (by decide) (by decide) (Nat.le_of_ble_eq_true rfl) (Nat.le_of_ble_eq_true rfl) (dq tk_M_init_8 15 rfl) (fun H hw => ?_)
  replace hw := hw.drop (rfl)
  refine k_put hc hnm hw (k := 130) (ty := (.array .int)) rfl inX12 tyX12_ok nmX12 (by decide) rfl hlen kw_1764 rfl rfl rfl (dq tk_M_init_8 16 rfl) (fun H locs hw hlen => ?_)
  refine lv_aload_n hx hb (dq tk_M_init_8 17 rfl) rfl (lv_at hl 0 rfl) ?_
  refine lv_bipush (v := 24) hx hb (dq tk_M_init_8 18 rfl) (by decide) ?_
  refine k_newa hc hw (t := 0) (N' := 24) (ty := .int) (a0 := (24, .inl (fun _ => 0))) rfl kw_154 rfl rfl (fun _ => rfl) (by decide) (by decide) (by decide) (Nat.le_of_ble_eq_true rfl) (Nat.le_of_ble_eq_true rfl) (dq tk_M_init_8 19 rfl) (fun H hw => ?_)
  replace hw := hw.drop (rfl)
  refine k_put hc hnm hw (k := 131) (ty := (.array .int)) rfl inX12 tyX12_ok nmX12 (by decide) rfl hlen kw_1765 rfl rfl rfl (dq tk_M_init_8 20 rfl) (fun H locs hw hlen => ?_)
  refine lv_aload_n hx hb (dq tk_M_init_8 21 rfl) rfl (lv_at hl 0 rfl) ?_
  refine lv_bipush (v := 24) hx hb (dq tk_M_init_8 22 rfl) (by decide) ?_
  refine k_newa hc hw (t := 0) (N' := 24) (ty := .int) (a0 := (24, .inl (fun _ => 0))) rfl kw_154 rfl rfl (fun _ => rfl) (by decide) (by decide) (by decide) (Nat.le_of_ble_eq_true rfl) (Nat.le_of_ble_eq_true rfl) (dq tk_M_init_8 23 rfl) (fun H hw => ?_)
  replace hw := hw.drop (rfl)
  refine k_put hc hnm hw (k := 133) (ty := (.array .int)) rfl inX12 tyX12_ok nmX12 (by decide) rfl hlen kw_1767 rfl rfl rfl (dq tk_M_init_8 24 rfl) (fun H locs hw hlen => ?_)
  refine lv_aload_n hx hb (dq tk_M_init_8 25 rfl) rfl (lv_at hl 0 rfl) ?_
  refine lv_bipush (v := 24) hx hb (dq tk_M_init_8 26 rfl) (by decide) ?_
  refine k_newa hc hw (t := 0) (N' := 24) (ty := .int) (a0 := (24, .inl (fun _ => 0))) rfl kw_154 rfl rfl (fun _ => rfl) (by decide) (by decide) (by decide) (Nat.le_of_ble_eq_true rfl) (Nat.le_of_ble_eq_true rfl) (dq tk_M_init_8 27 rfl) (fun H hw => ?_)
  replace hw := hw.drop (rfl)
  refine k_put hc hnm hw (k := 134) (ty := (.array .int)) rfl inX12 tyX12_ok nmX12 (by decide) rfl hlen kw_1768 rfl rfl rfl (dq tk_M_init_8 28 rfl) (fun H locs hw hlen => ?_)
  refine lv_aload_n hx hb (dq tk_M_init_8 29 rfl) rfl (lv_at hl 0 rfl) ?_
  refine lv_bipush (v := 24) hx hb (dq tk_M_init_8 30 rfl) (by decide) ?_
  refine k_newa hc hw (t := 0) (N' := 24) (ty := .int) (a0 := (24, .inl (fun _ => 0))) rfl kw_154 rfl rfl (fun _ => rfl) (by decide) (by decide) (by decide) (Nat.le_of_ble_eq_true rfl) (Nat.le_of_ble_eq_true rfl) (dq tk_M_init_8 31 rfl) (fun H hw => ?_)
  replace hw := hw.drop (rfl)
  refine k_put hc hnm hw (k := 135) (ty := (.array .int)) rfl inX12 tyX12_ok nmX12 (by decide) rfl hlen kw_1769 rfl rfl rfl (dq tk_M_init_8 32 rfl) (fun H locs hw hlen => ?_)
  refine lv_aload_n hx hb (dq tk_M_init_8 33 rfl) rfl (lv_at hl 0 rfl) ?_
  refine lv_bipush (v := 18) hx hb (dq tk_M_init_8 34 rfl) (by decide) ?_
  refine k_newa hc hw (t := 0) (N' := 18) (ty := .int) (a0 := (18, .inl (fun _ => 0))) rfl kw_154 rfl rfl (fun _ => rfl) (by decide) (by decide) (by decide) (Nat.le_of_ble_eq_true rfl) (Nat.le_of_ble_eq_true rfl) (dq tk_M_init_8 35 rfl) (fun H hw => ?_)
  replace hw := hw.drop (rfl)
  refine k_put hc hnm hw (k := 138) (ty := (.array .int)) rfl inX12 tyX12_ok nmX12 (by decide) rfl hlen kw_1772 rfl rfl rfl (dq tk_M_init_8 36 rfl) (fun H locs hw hlen => ?_)
  refine lv_aload_n hx hb (dq tk_M_init_8 37 rfl) rfl (lv_at hl 0 rfl) ?_
  refine lv_bipush (v := 18) hx hb (dq tk_M_init_8 38 rfl) (by decide) ?_
  refine k_newa hc hw (t := 0) (N' := 18) (ty := .int) (a0 := (18, .inl (fun _ => 0))) rfl kw_154 rfl rfl (fun _ => rfl) (by decide) (by decide) (by decide) (Nat.le_of_ble_eq_true rfl) (Nat.le_of_ble_eq_true rfl) (dq tk_M_init_8 39 rfl) (fun H hw => ?_)
  replace hw := hw.drop (rfl)
  refine k_put hc hnm hw (k := 139) (ty := (.array .int)) rfl inX12 tyX12_ok nmX12 (by decide) rfl hlen kw_1773 rfl rfl rfl (dq tk_M_init_8 40 rfl) (fun H locs hw hlen => ?_)
  refine lv_aload_n hx hb (dq tk_M_init_8 41 rfl) rfl (lv_at hl 0 rfl) ?_
  refine lv_iconst (v := 3) hx hb (dq tk_M_init_8 42 rfl) (by decide) ?_
  refine k_newa hc hw (t := 0) (N' := 3) (ty := .int) (a0 := (3, .inl (fun _ => 0))) rfl kw_154 rfl rfl (fun _ => rfl) (by decide) (by decide) (by decide) (Nat.le_of_ble_eq_true rfl) (Nat.le_of_ble_eq_true rfl) (dq tk_M_init_8 43 rfl) (fun H hw => ?_)
  refine lv_dup hx hb (dq tk_M_init_8 44 rfl) rfl ?_
  refine lv_iconst (v := 0) hx hb (dq tk_M_init_8 45 rfl) (by decide) ?_
  refine lv_iconst (v := (-1)) hx hb (dq tk_M_init_8 46 rfl) (by decide) ?_
  refine k_ast hc hw (t := 0) rfl (show ¬ ((0 : Int32) < 0 ∨ 3 ≤ Int32.toNatClampNeg 0) by decide) (dq tk_M_init_8 47 rfl) (fun H locs hw => ?_)
  refine lv_dup hx hb (dq tk_M_init_8 48 rfl) rfl ?_
  refine lv_iconst (v := 1) hx hb (dq tk_M_init_8 49 rfl) (by decide) ?_
  refine lv_iconst (v := (-1)) hx hb (dq tk_M_init_8 50 rfl) (by decide) ?_
  refine k_ast hc hw (t := 0) rfl (show ¬ ((1 : Int32) < 0 ∨ 3 ≤ Int32.toNatClampNeg 1) by decide) (dq tk_M_init_8 51 rfl) (fun H locs hw => ?_)
  refine lv_dup hx hb (dq tk_M_init_8 52 rfl) rfl ?_
  refine lv_iconst (v := 2) hx hb (dq tk_M_init_8 53 rfl) (by decide) ?_
  refine lv_iconst (v := (-1)) hx hb (dq tk_M_init_8 54 rfl) (by decide) ?_
  refine k_ast hc hw (t := 0) rfl (show ¬ ((2 : Int32) < 0 ∨ 3 ≤ Int32.toNatClampNeg 2) by decide) (dq tk_M_init_8 55 rfl) (fun H locs hw => ?_)
  replace hw := hw.drop (rfl)
  refine k_put hc hnm hw (k := 140) (ty := (.array .int)) rfl inX12 tyX12_ok nmX12 (by decide) rfl hlen kw_1774 rfl rfl rfl (dq tk_M_init_8 56 rfl) (fun H locs hw hlen => ?_)
  replace hw : Kw Z τ0 566 [(0, .inr (12, [.ref (Z.1 + 566 + 1), .ref (Z.1 + 566 + 2), .ref (Z.1 + 566 + 3), .int 0, .int 312, .int (-1), .int 0, .int 0, .ref (Z.1 + 566 + 4), .ref (Z.1 + 566 + 5), .ref (Z.1 + 566 + 6), .ref (Z.1 + 566 + 7), .ref (Z.1 + 566 + 8), .ref (Z.1 + 566 + 9), .ref (Z.1 + 566 + 10), .int 0, .int 0, .int 0, .int 0, .ref (Z.1 + 566 + 11), .ref (Z.1 + 566 + 12), .ref (Z.1 + 566 + 13), .ref (Z.1 + 566 + 14), .ref (Z.1 + 566 + 15), .ref (Z.1 + 566 + 16), .ref (Z.1 + 566 + 17), .ref (Z.1 + 566 + 18), .ref (Z.1 + 566 + 19), .ref (Z.1 + 566 + 20), .ref (Z.1 + 566 + 21), .ref (Z.1 + 566 + 22), .ref (Z.1 + 566 + 23), .ref (Z.1 + 566 + 24), .ref (Z.1 + 566 + 25), .ref (Z.1 + 566 + 26), .ref (Z.1 + 566 + 27), .ref (Z.1 + 566 + 28), .ref (Z.1 + 566 + 29), .ref (Z.1 + 566 + 30), .ref (Z.1 + 566 + 31), .ref (Z.1 + 566 + 32), .ref (Z.1 + 566 + 33), .ref (Z.1 + 566 + 34), .ref (Z.1 + 566 + 35), .ref (Z.1 + 566 + 36), .ref (Z.1 + 566 + 37), .int 0, .int 0, .int 0, .int 0, .int 0, .int 0, .int 0, .int 0, .int 0, .int 0, .int (-1), .int 0, .int 0, .ref (Z.1 + 566 + 38), .ref (Z.1 + 566 + 39), .ref (Z.1 + 566 + 40), .int 0, .ref (Z.1 + 566 + 41), .ref (Z.1 + 566 + 42), .int 0, .ref (Z.1 + 566 + 43), .int 0, .int 0, .int 0, .int 0, .int 0, .int 0, .int (-1), .ref (Z.1 + 566 + 44), .ref (Z.1 + 566 + 45), .ref (Z.1 + 566 + 46), .ref (Z.1 + 566 + 47), .ref (Z.1 + 566 + 48), .ref (Z.1 + 566 + 49), .ref (Z.1 + 566 + 50), .ref (Z.1 + 566 + 51), .ref (Z.1 + 566 + 52), .ref (Z.1 + 566 + 53), .ref (Z.1 + 566 + 54), .int 0, .int 0, .ref (Z.1 + 566 + 55), .ref (Z.1 + 566 + 56), .ref (Z.1 + 566 + 57), .ref (Z.1 + 566 + 58), .ref (Z.1 + 566 + 59), .ref (Z.1 + 566 + 60), .ref (Z.1 + 566 + 61), .ref (Z.1 + 566 + 62), .ref (Z.1 + 566 + 63), .ref (Z.1 + 566 + 64), .ref (Z.1 + 566 + 65), .ref (Z.1 + 566 + 66), .ref (Z.1 + 566 + 67), .ref (Z.1 + 566 + 68), .ref (Z.1 + 566 + 69), .ref (Z.1 + 566 + 70), .ref (Z.1 + 566 + 71), .ref (Z.1 + 566 + 72), .ref (Z.1 + 566 + 73), .ref (Z.1 + 566 + 74), .ref (Z.1 + 566 + 75), .ref (Z.1 + 566 + 76), .ref (Z.1 + 566 + 77), .ref (Z.1 + 566 + 78), .long 10000, .long 0, .long 0, .int 0, .int 0, .int 0, .ref (Z.1 + 566 + 79), .ref (Z.1 + 566 + 80), .ref (Z.1 + 566 + 81), .ref (Z.1 + 566 + 82), .ref (Z.1 + 566 + 83), .ref (Z.1 + 566 + 84), .ref (Z.1 + 566 + 85), .ref (Z.1 + 566 + 86), .ref (Z.1 + 566 + 87), .ref (Z.1 + 566 + 88), .ref (Z.1 + 566 + 89), .ref (Z.1 + 566 + 90), .ref (Z.1 + 566 + 91), .ref (Z.1 + 566 + 92), .ref (Z.1 + 566 + 93), .int 0, .ref (Z.1 + 566 + 94), .ref (Z.1 + 566 + 95), .ref (Z.1 + 566 + 96), .int 0, .int 0, .ref (Z.1 + 566 + 97), .ref (Z.1 + 566 + 98), .ref (Z.1 + 566 + 99), .null, .null, .null, .null, .null, .int 0, .null, .null, .null]))] 100 s H locs := hw
  replace hlen : ([.ref (Z.1 + 566 + 1), .ref (Z.1 + 566 + 2), .ref (Z.1 + 566 + 3), .int 0, .int 312, .int (-1), .int 0, .int 0, .ref (Z.1 + 566 + 4), .ref (Z.1 + 566 + 5), .ref (Z.1 + 566 + 6), .ref (Z.1 + 566 + 7), .ref (Z.1 + 566 + 8), .ref (Z.1 + 566 + 9), .ref (Z.1 + 566 + 10), .int 0, .int 0, .int 0, .int 0, .ref (Z.1 + 566 + 11), .ref (Z.1 + 566 + 12), .ref (Z.1 + 566 + 13), .ref (Z.1 + 566 + 14), .ref (Z.1 + 566 + 15), .ref (Z.1 + 566 + 16), .ref (Z.1 + 566 + 17), .ref (Z.1 + 566 + 18), .ref (Z.1 + 566 + 19), .ref (Z.1 + 566 + 20), .ref (Z.1 + 566 + 21), .ref (Z.1 + 566 + 22), .ref (Z.1 + 566 + 23), .ref (Z.1 + 566 + 24), .ref (Z.1 + 566 + 25), .ref (Z.1 + 566 + 26), .ref (Z.1 + 566 + 27), .ref (Z.1 + 566 + 28), .ref (Z.1 + 566 + 29), .ref (Z.1 + 566 + 30), .ref (Z.1 + 566 + 31), .ref (Z.1 + 566 + 32), .ref (Z.1 + 566 + 33), .ref (Z.1 + 566 + 34), .ref (Z.1 + 566 + 35), .ref (Z.1 + 566 + 36), .ref (Z.1 + 566 + 37), .int 0, .int 0, .int 0, .int 0, .int 0, .int 0, .int 0, .int 0, .int 0, .int 0, .int (-1), .int 0, .int 0, .ref (Z.1 + 566 + 38), .ref (Z.1 + 566 + 39), .ref (Z.1 + 566 + 40), .int 0, .ref (Z.1 + 566 + 41), .ref (Z.1 + 566 + 42), .int 0, .ref (Z.1 + 566 + 43), .int 0, .int 0, .int 0, .int 0, .int 0, .int 0, .int (-1), .ref (Z.1 + 566 + 44), .ref (Z.1 + 566 + 45), .ref (Z.1 + 566 + 46), .ref (Z.1 + 566 + 47), .ref (Z.1 + 566 + 48), .ref (Z.1 + 566 + 49), .ref (Z.1 + 566 + 50), .ref (Z.1 + 566 + 51), .ref (Z.1 + 566 + 52), .ref (Z.1 + 566 + 53), .ref (Z.1 + 566 + 54), .int 0, .int 0, .ref (Z.1 + 566 + 55), .ref (Z.1 + 566 + 56), .ref (Z.1 + 566 + 57), .ref (Z.1 + 566 + 58), .ref (Z.1 + 566 + 59), .ref (Z.1 + 566 + 60), .ref (Z.1 + 566 + 61), .ref (Z.1 + 566 + 62), .ref (Z.1 + 566 + 63), .ref (Z.1 + 566 + 64), .ref (Z.1 + 566 + 65), .ref (Z.1 + 566 + 66), .ref (Z.1 + 566 + 67), .ref (Z.1 + 566 + 68), .ref (Z.1 + 566 + 69), .ref (Z.1 + 566 + 70), .ref (Z.1 + 566 + 71), .ref (Z.1 + 566 + 72), .ref (Z.1 + 566 + 73), .ref (Z.1 + 566 + 74), .ref (Z.1 + 566 + 75), .ref (Z.1 + 566 + 76), .ref (Z.1 + 566 + 77), .ref (Z.1 + 566 + 78), .long 10000, .long 0, .long 0, .int 0, .int 0, .int 0, .ref (Z.1 + 566 + 79), .ref (Z.1 + 566 + 80), .ref (Z.1 + 566 + 81), .ref (Z.1 + 566 + 82), .ref (Z.1 + 566 + 83), .ref (Z.1 + 566 + 84), .ref (Z.1 + 566 + 85), .ref (Z.1 + 566 + 86), .ref (Z.1 + 566 + 87), .ref (Z.1 + 566 + 88), .ref (Z.1 + 566 + 89), .ref (Z.1 + 566 + 90), .ref (Z.1 + 566 + 91), .ref (Z.1 + 566 + 92), .ref (Z.1 + 566 + 93), .int 0, .ref (Z.1 + 566 + 94), .ref (Z.1 + 566 + 95), .ref (Z.1 + 566 + 96), .int 0, .int 0, .ref (Z.1 + 566 + 97), .ref (Z.1 + 566 + 98), .ref (Z.1 + 566 + 99), .null, .null, .null, .null, .null, .int 0, .null, .null, .null] : List Value).length = 150 := rfl
  refine lv_aload_n hx hb (dq tk_M_init_8 57 rfl) rfl (lv_at hl 0 rfl) ?_
  refine lv_bipush (v := 30) hx hb (dq tk_M_init_8 58 rfl) (by decide) ?_
  refine k_newa hc hw (t := 0) (N' := 30) (ty := .int) (a0 := (30, .inl (fun _ => 0))) rfl kw_154 rfl rfl (fun _ => rfl) (by decide) (by decide) (by decide) (Nat.le_of_ble_eq_true rfl) (Nat.le_of_ble_eq_true rfl) (dq tk_M_init_8 59 rfl) (fun H hw => ?_)
  replace hw := hw.drop (rfl)
  refine k_put hc hnm hw (k := 141) (ty := (.array .int)) rfl inX12 tyX12_ok nmX12 (by decide) rfl hlen kw_1775 rfl rfl rfl (dq tk_M_init_9 0 rfl) (fun H locs hw hlen => ?_)
  refine lv_aload_n hx hb (dq tk_M_init_9 1 rfl) rfl (lv_at hl 0 rfl) ?_
  refine lv_bipush (v := 30) hx hb (dq tk_M_init_9 2 rfl) (by decide) ?_
  refine k_newa hc hw (t := 0) (N' := 30) (ty := .int) (a0 := (30, .inl (fun _ => 0))) rfl kw_154 rfl rfl (fun _ => rfl) (by decide) (by decide) (by decide) (Nat.le_of_ble_eq_true rfl) (Nat.le_of_ble_eq_true rfl) (dq tk_M_init_9 3 rfl) (fun H hw => ?_)
  replace hw := hw.drop (rfl)
  refine k_put hc hnm hw (k := 142) (ty := (.array .int)) rfl inX12 tyX12_ok nmX12 (by decide) rfl hlen kw_1776 rfl rfl rfl (dq tk_M_init_9 4 rfl) (fun H locs hw hlen => ?_)
  refine lv_aload_n hx hb (dq tk_M_init_9 5 rfl) rfl (lv_at hl 0 rfl) ?_
  refine lv_bipush (v := 90) hx hb (dq tk_M_init_9 6 rfl) (by decide) ?_
  refine k_newa hc hw (t := 0) (N' := 90) (ty := .int) (a0 := (90, .inl (fun _ => 0))) rfl kw_154 rfl rfl (fun _ => rfl) (by decide) (by decide) (by decide) (Nat.le_of_ble_eq_true rfl) (Nat.le_of_ble_eq_true rfl) (dq tk_M_init_9 7 rfl) (fun H hw => ?_)
  replace hw := hw.drop (rfl)
  refine k_put hc hnm hw (k := 143) (ty := (.array .int)) rfl inX12 tyX12_ok nmX12 (by decide) rfl hlen kw_1777 rfl rfl rfl (dq tk_M_init_9 8 rfl) (fun H locs hw hlen => ?_)
  refine lv_aload_n hx hb (dq tk_M_init_9 9 rfl) rfl (lv_at hl 0 rfl) ?_
  refine lv_bipush (v := 30) hx hb (dq tk_M_init_9 10 rfl) (by decide) ?_
  refine k_newa hc hw (t := 0) (N' := 30) (ty := .int) (a0 := (30, .inl (fun _ => 0))) rfl kw_154 rfl rfl (fun _ => rfl) (by decide) (by decide) (by decide) (Nat.le_of_ble_eq_true rfl) (Nat.le_of_ble_eq_true rfl) (dq tk_M_init_9 11 rfl) (fun H hw => ?_)
  replace hw := hw.drop (rfl)
  refine k_put hc hnm hw (k := 144) (ty := (.array .int)) rfl inX12 tyX12_ok nmX12 (by decide) rfl hlen kw_1778 rfl rfl rfl (dq tk_M_init_9 12 rfl) (fun H locs hw hlen => ?_)
  refine lv_aload_n hx hb (dq tk_M_init_9 13 rfl) rfl (lv_at hl 0 rfl) ?_
  refine lv_bipush (v := 30) hx hb (dq tk_M_init_9 14 rfl) (by decide) ?_
  refine k_newa hc hw (t := 2) (N' := 30) (ty := .boolean) (a0 := (30, .inl (fun _ => 0))) rfl kw_302 rfl rfl (fun _ => rfl) (by decide) (by decide) (by decide) (Nat.le_of_ble_eq_true rfl) (Nat.le_of_ble_eq_true rfl) (dq tk_M_init_9 15 rfl) (fun H hw => ?_)
  replace hw := hw.drop (rfl)
  refine k_put hc hnm hw (k := 145) (ty := (.array .boolean)) rfl inX12 tyX12_ok nmX12 (by decide) rfl hlen kw_1779 rfl rfl rfl (dq tk_M_init_9 16 rfl) (fun H locs hw hlen => ?_)
  refine lv_aload_n hx hb (dq tk_M_init_9 17 rfl) rfl (lv_at hl 0 rfl) ?_
  refine lv_bipush (v := 9) hx hb (dq tk_M_init_9 18 rfl) (by decide) ?_
  refine k_newa hc hw (t := 3) (N' := 9) (ty := .long) (a0 := (9, .inr (.inl (fun _ => 0)))) rfl kw_539 rfl rfl (fun _ => rfl) (by decide) (by decide) (by decide) (Nat.le_of_ble_eq_true rfl) (Nat.le_of_ble_eq_true rfl) (dq tk_M_init_9 19 rfl) (fun H hw => ?_)
  replace hw := hw.drop (rfl)
  refine k_put hc hnm hw (k := 147) (ty := (.array .long)) rfl inX12 tyX12_ok nmX12 (by decide) rfl hlen kw_1781 rfl rfl rfl (dq tk_M_init_9 20 rfl) (fun H locs hw hlen => ?_)
  refine lv_aload_n hx hb (dq tk_M_init_9 21 rfl) rfl (lv_at hl 0 rfl) ?_
  refine lv_bipush (v := 9) hx hb (dq tk_M_init_9 22 rfl) (by decide) ?_
  refine k_newa hc hw (t := 0) (N' := 9) (ty := .int) (a0 := (9, .inl (fun _ => 0))) rfl kw_154 rfl rfl (fun _ => rfl) (by decide) (by decide) (by decide) (Nat.le_of_ble_eq_true rfl) (Nat.le_of_ble_eq_true rfl) (dq tk_M_init_9 23 rfl) (fun H hw => ?_)
  replace hw := hw.drop (rfl)
  refine k_put hc hnm hw (k := 148) (ty := (.array .int)) rfl inX12 tyX12_ok nmX12 (by decide) rfl hlen kw_1782 rfl rfl rfl (dq tk_M_init_9 24 rfl) (fun H locs hw hlen => ?_)
  refine lv_aload_n hx hb (dq tk_M_init_9 25 rfl) rfl (lv_at hl 0 rfl) ?_
  refine lv_bipush (v := 9) hx hb (dq tk_M_init_9 26 rfl) (by decide) ?_
  refine k_newa hc hw (t := 0) (N' := 9) (ty := .int) (a0 := (9, .inl (fun _ => 0))) rfl kw_154 rfl rfl (fun _ => rfl) (by decide) (by decide) (by decide) (Nat.le_of_ble_eq_true rfl) (Nat.le_of_ble_eq_true rfl) (dq tk_M_init_9 27 rfl) (fun H hw => ?_)
  replace hw := hw.drop (rfl)
  refine k_put hc hnm hw (k := 149) (ty := (.array .int)) rfl inX12 tyX12_ok nmX12 (by decide) rfl hlen kw_1783 rfl rfl rfl (dq tk_M_init_9 28 rfl) (fun H locs hw hlen => ?_)
  replace hw : Kw Z τ0 566 [(0, .inr (12, [.ref (Z.1 + 566 + 1), .ref (Z.1 + 566 + 2), .ref (Z.1 + 566 + 3), .int 0, .int 312, .int (-1), .int 0, .int 0, .ref (Z.1 + 566 + 4), .ref (Z.1 + 566 + 5), .ref (Z.1 + 566 + 6), .ref (Z.1 + 566 + 7), .ref (Z.1 + 566 + 8), .ref (Z.1 + 566 + 9), .ref (Z.1 + 566 + 10), .int 0, .int 0, .int 0, .int 0, .ref (Z.1 + 566 + 11), .ref (Z.1 + 566 + 12), .ref (Z.1 + 566 + 13), .ref (Z.1 + 566 + 14), .ref (Z.1 + 566 + 15), .ref (Z.1 + 566 + 16), .ref (Z.1 + 566 + 17), .ref (Z.1 + 566 + 18), .ref (Z.1 + 566 + 19), .ref (Z.1 + 566 + 20), .ref (Z.1 + 566 + 21), .ref (Z.1 + 566 + 22), .ref (Z.1 + 566 + 23), .ref (Z.1 + 566 + 24), .ref (Z.1 + 566 + 25), .ref (Z.1 + 566 + 26), .ref (Z.1 + 566 + 27), .ref (Z.1 + 566 + 28), .ref (Z.1 + 566 + 29), .ref (Z.1 + 566 + 30), .ref (Z.1 + 566 + 31), .ref (Z.1 + 566 + 32), .ref (Z.1 + 566 + 33), .ref (Z.1 + 566 + 34), .ref (Z.1 + 566 + 35), .ref (Z.1 + 566 + 36), .ref (Z.1 + 566 + 37), .int 0, .int 0, .int 0, .int 0, .int 0, .int 0, .int 0, .int 0, .int 0, .int 0, .int (-1), .int 0, .int 0, .ref (Z.1 + 566 + 38), .ref (Z.1 + 566 + 39), .ref (Z.1 + 566 + 40), .int 0, .ref (Z.1 + 566 + 41), .ref (Z.1 + 566 + 42), .int 0, .ref (Z.1 + 566 + 43), .int 0, .int 0, .int 0, .int 0, .int 0, .int 0, .int (-1), .ref (Z.1 + 566 + 44), .ref (Z.1 + 566 + 45), .ref (Z.1 + 566 + 46), .ref (Z.1 + 566 + 47), .ref (Z.1 + 566 + 48), .ref (Z.1 + 566 + 49), .ref (Z.1 + 566 + 50), .ref (Z.1 + 566 + 51), .ref (Z.1 + 566 + 52), .ref (Z.1 + 566 + 53), .ref (Z.1 + 566 + 54), .int 0, .int 0, .ref (Z.1 + 566 + 55), .ref (Z.1 + 566 + 56), .ref (Z.1 + 566 + 57), .ref (Z.1 + 566 + 58), .ref (Z.1 + 566 + 59), .ref (Z.1 + 566 + 60), .ref (Z.1 + 566 + 61), .ref (Z.1 + 566 + 62), .ref (Z.1 + 566 + 63), .ref (Z.1 + 566 + 64), .ref (Z.1 + 566 + 65), .ref (Z.1 + 566 + 66), .ref (Z.1 + 566 + 67), .ref (Z.1 + 566 + 68), .ref (Z.1 + 566 + 69), .ref (Z.1 + 566 + 70), .ref (Z.1 + 566 + 71), .ref (Z.1 + 566 + 72), .ref (Z.1 + 566 + 73), .ref (Z.1 + 566 + 74), .ref (Z.1 + 566 + 75), .ref (Z.1 + 566 + 76), .ref (Z.1 + 566 + 77), .ref (Z.1 + 566 + 78), .long 10000, .long 0, .long 0, .int 0, .int 0, .int 0, .ref (Z.1 + 566 + 79), .ref (Z.1 + 566 + 80), .ref (Z.1 + 566 + 81), .ref (Z.1 + 566 + 82), .ref (Z.1 + 566 + 83), .ref (Z.1 + 566 + 84), .ref (Z.1 + 566 + 85), .ref (Z.1 + 566 + 86), .ref (Z.1 + 566 + 87), .ref (Z.1 + 566 + 88), .ref (Z.1 + 566 + 89), .ref (Z.1 + 566 + 90), .ref (Z.1 + 566 + 91), .ref (Z.1 + 566 + 92), .ref (Z.1 + 566 + 93), .int 0, .ref (Z.1 + 566 + 94), .ref (Z.1 + 566 + 95), .ref (Z.1 + 566 + 96), .int 0, .int 0, .ref (Z.1 + 566 + 97), .ref (Z.1 + 566 + 98), .ref (Z.1 + 566 + 99), .ref (Z.1 + 566 + 100), .ref (Z.1 + 566 + 101), .ref (Z.1 + 566 + 102), .ref (Z.1 + 566 + 103), .ref (Z.1 + 566 + 104), .int 0, .ref (Z.1 + 566 + 105), .ref (Z.1 + 566 + 106), .ref (Z.1 + 566 + 107)]))] 108 s H locs := hw
  replace hlen : ([.ref (Z.1 + 566 + 1), .ref (Z.1 + 566 + 2), .ref (Z.1 + 566 + 3), .int 0, .int 312, .int (-1), .int 0, .int 0, .ref (Z.1 + 566 + 4), .ref (Z.1 + 566 + 5), .ref (Z.1 + 566 + 6), .ref (Z.1 + 566 + 7), .ref (Z.1 + 566 + 8), .ref (Z.1 + 566 + 9), .ref (Z.1 + 566 + 10), .int 0, .int 0, .int 0, .int 0, .ref (Z.1 + 566 + 11), .ref (Z.1 + 566 + 12), .ref (Z.1 + 566 + 13), .ref (Z.1 + 566 + 14), .ref (Z.1 + 566 + 15), .ref (Z.1 + 566 + 16), .ref (Z.1 + 566 + 17), .ref (Z.1 + 566 + 18), .ref (Z.1 + 566 + 19), .ref (Z.1 + 566 + 20), .ref (Z.1 + 566 + 21), .ref (Z.1 + 566 + 22), .ref (Z.1 + 566 + 23), .ref (Z.1 + 566 + 24), .ref (Z.1 + 566 + 25), .ref (Z.1 + 566 + 26), .ref (Z.1 + 566 + 27), .ref (Z.1 + 566 + 28), .ref (Z.1 + 566 + 29), .ref (Z.1 + 566 + 30), .ref (Z.1 + 566 + 31), .ref (Z.1 + 566 + 32), .ref (Z.1 + 566 + 33), .ref (Z.1 + 566 + 34), .ref (Z.1 + 566 + 35), .ref (Z.1 + 566 + 36), .ref (Z.1 + 566 + 37), .int 0, .int 0, .int 0, .int 0, .int 0, .int 0, .int 0, .int 0, .int 0, .int 0, .int (-1), .int 0, .int 0, .ref (Z.1 + 566 + 38), .ref (Z.1 + 566 + 39), .ref (Z.1 + 566 + 40), .int 0, .ref (Z.1 + 566 + 41), .ref (Z.1 + 566 + 42), .int 0, .ref (Z.1 + 566 + 43), .int 0, .int 0, .int 0, .int 0, .int 0, .int 0, .int (-1), .ref (Z.1 + 566 + 44), .ref (Z.1 + 566 + 45), .ref (Z.1 + 566 + 46), .ref (Z.1 + 566 + 47), .ref (Z.1 + 566 + 48), .ref (Z.1 + 566 + 49), .ref (Z.1 + 566 + 50), .ref (Z.1 + 566 + 51), .ref (Z.1 + 566 + 52), .ref (Z.1 + 566 + 53), .ref (Z.1 + 566 + 54), .int 0, .int 0, .ref (Z.1 + 566 + 55), .ref (Z.1 + 566 + 56), .ref (Z.1 + 566 + 57), .ref (Z.1 + 566 + 58), .ref (Z.1 + 566 + 59), .ref (Z.1 + 566 + 60), .ref (Z.1 + 566 + 61), .ref (Z.1 + 566 + 62), .ref (Z.1 + 566 + 63), .ref (Z.1 + 566 + 64), .ref (Z.1 + 566 + 65), .ref (Z.1 + 566 + 66), .ref (Z.1 + 566 + 67), .ref (Z.1 + 566 + 68), .ref (Z.1 + 566 + 69), .ref (Z.1 + 566 + 70), .ref (Z.1 + 566 + 71), .ref (Z.1 + 566 + 72), .ref (Z.1 + 566 + 73), .ref (Z.1 + 566 + 74), .ref (Z.1 + 566 + 75), .ref (Z.1 + 566 + 76), .ref (Z.1 + 566 + 77), .ref (Z.1 + 566 + 78), .long 10000, .long 0, .long 0, .int 0, .int 0, .int 0, .ref (Z.1 + 566 + 79), .ref (Z.1 + 566 + 80), .ref (Z.1 + 566 + 81), .ref (Z.1 + 566 + 82), .ref (Z.1 + 566 + 83), .ref (Z.1 + 566 + 84), .ref (Z.1 + 566 + 85), .ref (Z.1 + 566 + 86), .ref (Z.1 + 566 + 87), .ref (Z.1 + 566 + 88), .ref (Z.1 + 566 + 89), .ref (Z.1 + 566 + 90), .ref (Z.1 + 566 + 91), .ref (Z.1 + 566 + 92), .ref (Z.1 + 566 + 93), .int 0, .ref (Z.1 + 566 + 94), .ref (Z.1 + 566 + 95), .ref (Z.1 + 566 + 96), .int 0, .int 0, .ref (Z.1 + 566 + 97), .ref (Z.1 + 566 + 98), .ref (Z.1 + 566 + 99), .ref (Z.1 + 566 + 100), .ref (Z.1 + 566 + 101), .ref (Z.1 + 566 + 102), .ref (Z.1 + 566 + 103), .ref (Z.1 + 566 + 104), .int 0, .ref (Z.1 + 566 + 105), .ref (Z.1 + 566 + 106), .ref (Z.1 + 566 + 107)] : List Value).length = 150 := rfl
  replace hw := hw.drop (rfl)
  exact k_end hc hw hr (dq tk_M_init_9 29 rfl)
end CTW
