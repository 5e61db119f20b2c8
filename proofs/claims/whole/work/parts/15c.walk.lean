section WALK
variable {p : Program} {l : Launch} {e : Env} {R : Room} {s : State} {m : MethodId} {args : Array Value} {below : List Frame} {meth : Method} {c : Code} {H : Heap} {locs : List Loc} {cells slots : Nat} {Q : State → Prop}
variable {cc : ByteArray} {own : String} {nL : Nat} {Z : ZT} {σ μ ν τ : St} {pc : Nat} {ls : Array Slot} {rest : List Value}
set_option maxRecDepth 10000 in
theorem w_Law_orderActs_102 {N : Nat} {kv : Nat} (hc : Cxz p s m meth c args prog_7_method_5_code "LabourExchange$Law" 7 Z) (hr : meth.sig.returnType = none) (hR : RO R 0) (hkv : kv < 2) {σ' : St} {go13 : Int32 → Int32 → Nat → Int32 → Int32 → St → Option St} (hgo13 : ∀ {x1 : Int32} {x2 : Int32} {k3_1 : Nat} {x4 : Int32} {x5 : Int32} {σ : St} {H : Heap} {locs : List Loc} {ls : Array Slot} (hk3_1 : k3_1 < 35), Wd Z (cmb σ μ) s H locs → lv_has ls 7 [(0, .ref (Z.1 + (197 + 187 * kv))), (1, .int x1), (2, .int x2), (3, .ref (Z.1 + (236 + 187 * kv + 1 * k3_1))), (4, .int x4), (5, .int x5)] → go13 x1 x2 k3_1 x4 x5 σ = some σ' → W p l e R s m args below meth c H locs 0 0 (MQ below (Qr Z none True (cmb σ' μ)) args s 0 0 (fun q => Z.1 ≤ q)) (F0 m 13 ls [])) : ∀ {x1 : Int32} {x2 : Int32} {k3_1 : Nat} {x4 : Int32} {x5 : Int32} {x6 : Int32} {σ : St} {H : Heap} {locs : List Loc} {ls : Array Slot} (hk3_1 : k3_1 < 35), Wd Z (cmb σ μ) s H locs → lv_has ls 7 [(0, .ref (Z.1 + (197 + 187 * kv))), (1, .int x1), (2, .int x2), (3, .ref (Z.1 + (236 + 187 * kv + 1 * k3_1))), (4, .int x4), (5, .int x5), (6, .int x6)] → fLaw_orderActs_102 N kv go13 x1 x2 k3_1 x4 x5 x6 σ = some σ' → W p l e R s m args below meth c H locs 0 0 (MQ below (Qr Z none True (cmb σ' μ)) args s 0 0 (fun q => Z.1 ≤ q)) (F0 m 102 ls []) := by
  have hx := hc.hx
  have hb := hc.hb
  intro x1 x2 k3_1 x4 x5 x6 σ H locs ls hk3_1 hw hl hf
  unfold fLaw_orderActs_102 at hf
  refine lv_aload_n hx hb (dq tk_Law_orderActs 56 rfl) rfl (lv_at hl 3 rfl) ?_
  refine lv_iload hx hb (dq tk_Law_orderActs 57 rfl) (lv_at hl 6 rfl) ?_
  refine lv_iload hx hb (dq tk_Law_orderActs 58 rfl) (lv_at hl 5 rfl) ?_
  obtain ⟨c1, hf⟩ := chk_some hf
  obtain ⟨σ1, hσ1, hf⟩ := nm_some hf
  refine AS_Law_inForcer hkv hk3_1 hc hw c1 hσ1 (dq tk_Law_orderActs 59 rfl) (fun H locs hw => ?_)
  refine lv_iinc (v := (x4 + 1)) (lv' := [(4, .int (x4 + 1)), (0, .ref (Z.1 + (197 + 187 * kv))), (1, .int x1), (2, .int x2), (3, .ref (Z.1 + (236 + 187 * kv + 1 * k3_1))), (5, .int x5), (6, .int x6)]) hx hb (dq tk_Law_orderActs 60 rfl) hl (k := 4) rfl rfl (by decide) rfl (fun ls hl => ?_)
  refine lv_iinc (v := (x5 + 1)) (lv' := [(5, .int (x5 + 1)), (4, .int (x4 + 1)), (0, .ref (Z.1 + (197 + 187 * kv))), (1, .int x1), (2, .int x2), (3, .ref (Z.1 + (236 + 187 * kv + 1 * k3_1))), (6, .int x6)]) hx hb (dq tk_Law_orderActs 61 rfl) hl (k := 5) rfl rfl (by decide) rfl (fun ls hl => ?_)
  refine lv_goto (tgt := 13) hx hb (dq tk_Law_orderActs 62 rfl) (by decide) ?_
  exact hgo13 hk3_1 hw (lv_sub hl [2, 3, 4, 5, 1, 0] rfl) hf
set_option maxRecDepth 10000 in
theorem w_Law_orderActs_54 {N : Nat} {kv : Nat} (hc : Cxz p s m meth c args prog_7_method_5_code "LabourExchange$Law" 7 Z) (hr : meth.sig.returnType = none) (hR : RO R 0) (hkv : kv < 2) {σ' : St} {go13 : Int32 → Int32 → Nat → Int32 → Int32 → St → Option St} (hgo13 : ∀ {x1 : Int32} {x2 : Int32} {k3_1 : Nat} {x4 : Int32} {x5 : Int32} {σ : St} {H : Heap} {locs : List Loc} {ls : Array Slot} (hk3_1 : k3_1 < 35), Wd Z (cmb σ μ) s H locs → lv_has ls 7 [(0, .ref (Z.1 + (197 + 187 * kv))), (1, .int x1), (2, .int x2), (3, .ref (Z.1 + (236 + 187 * kv + 1 * k3_1))), (4, .int x4), (5, .int x5)] → go13 x1 x2 k3_1 x4 x5 σ = some σ' → W p l e R s m args below meth c H locs 0 0 (MQ below (Qr Z none True (cmb σ' μ)) args s 0 0 (fun q => Z.1 ≤ q)) (F0 m 13 ls [])) (n : Nat) : ∀ {x1 : Int32} {x2 : Int32} {k3_1 : Nat} {x4 : Int32} {x5 : Int32} {x6 : Int32} {σ : St} {H : Heap} {locs : List Loc} {ls : Array Slot} (hk3_1 : k3_1 < 35), Wd Z (cmb σ μ) s H locs → lv_has ls 7 [(0, .ref (Z.1 + (197 + 187 * kv))), (1, .int x1), (2, .int x2), (3, .ref (Z.1 + (236 + 187 * kv + 1 * k3_1))), (4, .int x4), (5, .int x5), (6, .int x6)] → fLaw_orderActs_54 N kv go13 n x1 x2 k3_1 x4 x5 x6 σ = some σ' → W p l e R s m args below meth c H locs 0 0 (MQ below (Qr Z none True (cmb σ' μ)) args s 0 0 (fun q => Z.1 ≤ q)) (F0 m 54 ls []) := by
  have hx := hc.hx
  have hb := hc.hb
  induction n with
  | zero =>
    intro x1 x2 k3_1 x4 x5 x6 σ H locs ls hk3_1 hw hl hf
    have hf : none = some _ := hf
    cases hf
  | succ n ih =>
    intro x1 x2 k3_1 x4 x5 x6 σ H locs ls hk3_1 hw hl hf
    unfold fLaw_orderActs_54 at hf
    refine lv_iload hx hb (dq tk_Law_orderActs 29 rfl) (lv_at hl 6 rfl) ?_
    refine lv_if_le (tgt := 102) hx hb (dq tk_Law_orderActs 30 rfl) (by decide) (fun c1 => ?_) (fun c1 => ?_)
    · replace hf := if_t hf c1
      exact w_Law_orderActs_102 hc hr hR hkv hgo13 hk3_1 hw (lv_sub hl [0, 1, 2, 3, 4, 5, 6] rfl) hf
    · replace hf := if_f hf c1
      refine lv_aload_n hx hb (dq tk_Law_orderActs 31 rfl) rfl (lv_at hl 0 rfl) ?_
      refine G_Law_acts hkv hc hw wd_495 (dq tk_Law_orderActs 32 rfl) ?_
      refine lv_aload_n hx hb (dq tk_Law_orderActs 33 rfl) rfl (lv_at hl 3 rfl) ?_
      refine lv_iload hx hb (dq tk_Law_orderActs 34 rfl) (lv_at hl 6 rfl) ?_
      refine lv_iconst (v := 1) hx hb (dq tk_Law_orderActs 35 rfl) (by decide) ?_
      refine lv_isub hx hb (dq tk_Law_orderActs 36 rfl) ?_
      obtain ⟨c2, hf⟩ := chk_some hf
      refine AL_Law_inForcer hkv hk3_1 hc hw c2 (dq tk_Law_orderActs 37 rfl) ?_
      obtain ⟨c3, hf⟩ := chk_some hf
      refine AL_X_acts hc hw c3 (dq tk_Law_orderActs 38 rfl) ?_
      refine G_Act_from (inb_lt c3) hc hw wd_444 (dq tk_Law_orderActs 39 rfl) ?_
      refine lv_aload_n hx hb (dq tk_Law_orderActs 40 rfl) rfl (lv_at hl 0 rfl) ?_
      refine G_Law_acts hkv hc hw wd_495 (dq tk_Law_orderActs 41 rfl) ?_
      refine lv_iload hx hb (dq tk_Law_orderActs 42 rfl) (lv_at hl 5 rfl) ?_
      obtain ⟨c4, hf⟩ := chk_some hf
      refine AL_X_acts hc hw c4 (dq tk_Law_orderActs 43 rfl) ?_
      refine G_Act_from (inb_lt c4) hc hw wd_444 (dq tk_Law_orderActs 44 rfl) ?_
      refine lv_icmp_gt (tgt := 102) hx hb (dq tk_Law_orderActs 45 rfl) (by decide) (fun c5 => ?_) (fun c5 => ?_)
      · replace hf := if_t hf c5
        exact w_Law_orderActs_102 hc hr hR hkv hgo13 hk3_1 hw (lv_sub hl [0, 1, 2, 3, 4, 5, 6] rfl) hf
      · replace hf := if_f hf c5
        refine lv_aload_n hx hb (dq tk_Law_orderActs 46 rfl) rfl (lv_at hl 3 rfl) ?_
        refine lv_iload hx hb (dq tk_Law_orderActs 47 rfl) (lv_at hl 6 rfl) ?_
        refine lv_aload_n hx hb (dq tk_Law_orderActs 48 rfl) rfl (lv_at hl 3 rfl) ?_
        refine lv_iload hx hb (dq tk_Law_orderActs 49 rfl) (lv_at hl 6 rfl) ?_
        refine lv_iconst (v := 1) hx hb (dq tk_Law_orderActs 50 rfl) (by decide) ?_
        refine lv_isub hx hb (dq tk_Law_orderActs 51 rfl) ?_
        refine AL_Law_inForcer hkv hk3_1 hc hw c2 (dq tk_Law_orderActs 52 rfl) ?_
        obtain ⟨c6, hf⟩ := chk_some hf
        obtain ⟨σ1, hσ1, hf⟩ := nm_some hf
        refine AS_Law_inForcer hkv hk3_1 hc hw c6 hσ1 (dq tk_Law_orderActs 53 rfl) (fun H locs hw => ?_)
        refine lv_iinc (v := (x6 + (-1))) (lv' := [(6, .int (x6 + (-1))), (0, .ref (Z.1 + (197 + 187 * kv))), (1, .int x1), (2, .int x2), (3, .ref (Z.1 + (236 + 187 * kv + 1 * k3_1))), (4, .int x4), (5, .int x5)]) hx hb (dq tk_Law_orderActs 54 rfl) hl (k := 6) rfl rfl (by decide) rfl (fun ls hl => ?_)
        refine lv_goto (tgt := 54) hx hb (dq tk_Law_orderActs 55 rfl) (by decide) ?_
        exact ih hk3_1 hw (lv_sub hl [1, 2, 3, 4, 5, 6, 0] rfl) hf
set_option maxRecDepth 10000 in
theorem w_Law_orderActs_13 {N : Nat} {kv : Nat} (hc : Cxz p s m meth c args prog_7_method_5_code "LabourExchange$Law" 7 Z) (hr : meth.sig.returnType = none) (hR : RO R 0) (hkv : kv < 2) {σ' : St} (n : Nat) : ∀ {x1 : Int32} {x2 : Int32} {k3_1 : Nat} {x4 : Int32} {x5 : Int32} {σ : St} {H : Heap} {locs : List Loc} {ls : Array Slot} (hk3_1 : k3_1 < 35), Wd Z (cmb σ μ) s H locs → lv_has ls 7 [(0, .ref (Z.1 + (197 + 187 * kv))), (1, .int x1), (2, .int x2), (3, .ref (Z.1 + (236 + 187 * kv + 1 * k3_1))), (4, .int x4), (5, .int x5)] → fLaw_orderActs_13 N kv n x1 x2 k3_1 x4 x5 σ = some σ' → W p l e R s m args below meth c H locs 0 0 (MQ below (Qr Z none True (cmb σ' μ)) args s 0 0 (fun q => Z.1 ≤ q)) (F0 m 13 ls []) := by
  have hx := hc.hx
  have hb := hc.hb
  induction n with
  | zero =>
    intro x1 x2 k3_1 x4 x5 σ H locs ls hk3_1 hw hl hf
    have hf : none = some _ := hf
    cases hf
  | succ n ih =>
    intro x1 x2 k3_1 x4 x5 σ H locs ls hk3_1 hw hl hf
    unfold fLaw_orderActs_13 at hf
    refine lv_iload hx hb (dq tk_Law_orderActs 9 rfl) (lv_at hl 5 rfl) ?_
    refine lv_aload_n hx hb (dq tk_Law_orderActs 10 rfl) rfl (lv_at hl 0 rfl) ?_
    refine G_Law_size hkv hc hw wd_496 (dq tk_Law_orderActs 11 rfl) ?_
    refine lv_icmp_ge (tgt := 117) hx hb (dq tk_Law_orderActs 12 rfl) (by decide) (fun c1 => ?_) (fun c1 => ?_)
    · replace hf := if_t hf c1
      refine lv_aload_n hx hb (dq tk_Law_orderActs 63 rfl) rfl (lv_at hl 0 rfl) ?_
      refine G_Law_forceCount hkv hc hw wd_501 (dq tk_Law_orderActs 64 rfl) ?_
      refine lv_iload_n hx hb (dq tk_Law_orderActs 65 rfl) rfl (lv_at hl 1 rfl) ?_
      refine lv_iload hx hb (dq tk_Law_orderActs 66 rfl) (lv_at hl 4 rfl) ?_
      obtain ⟨c2, hf⟩ := chk_some hf
      obtain ⟨σ1, hσ1, hf⟩ := nm_some hf
      refine AS_Law_forceCount hkv hc hw c2 hσ1 (dq tk_Law_orderActs 67 rfl) (fun H locs hw => ?_)
      cases hf
      exact x_vret hc hw hr (dq tk_Law_orderActs 68 rfl)
    · replace hf := if_f hf c1
      refine lv_aload_n hx hb (dq tk_Law_orderActs 13 rfl) rfl (lv_at hl 0 rfl) ?_
      refine G_Law_acts hkv hc hw wd_495 (dq tk_Law_orderActs 14 rfl) ?_
      refine lv_iload hx hb (dq tk_Law_orderActs 15 rfl) (lv_at hl 5 rfl) ?_
      obtain ⟨c3, hf⟩ := chk_some hf
      refine AL_X_acts hc hw c3 (dq tk_Law_orderActs 16 rfl) ?_
      refine G_Act_from (inb_lt c3) hc hw wd_444 (dq tk_Law_orderActs 17 rfl) ?_
      refine lv_iload_n hx hb (dq tk_Law_orderActs 18 rfl) rfl (lv_at hl 2 rfl) ?_
      refine lv_icmp_gt (tgt := 111) hx hb (dq tk_Law_orderActs 19 rfl) (by decide) (fun c4 => ?_) (fun c4 => ?_)
      · replace hf := if_t hf c4
        refine lv_iinc (v := (x5 + 1)) (lv' := [(5, .int (x5 + 1)), (0, .ref (Z.1 + (197 + 187 * kv))), (1, .int x1), (2, .int x2), (3, .ref (Z.1 + (236 + 187 * kv + 1 * k3_1))), (4, .int x4)]) hx hb (dq tk_Law_orderActs 61 rfl) hl (k := 5) rfl rfl (by decide) rfl (fun ls hl => ?_)
        refine lv_goto (tgt := 13) hx hb (dq tk_Law_orderActs 62 rfl) (by decide) ?_
        exact ih hk3_1 hw (lv_sub hl [1, 2, 3, 4, 5, 0] rfl) hf
      · replace hf := if_f hf c4
        refine lv_iload_n hx hb (dq tk_Law_orderActs 20 rfl) rfl (lv_at hl 2 rfl) ?_
        refine lv_aload_n hx hb (dq tk_Law_orderActs 21 rfl) rfl (lv_at hl 0 rfl) ?_
        refine G_Law_acts hkv hc hw wd_495 (dq tk_Law_orderActs 22 rfl) ?_
        refine lv_iload hx hb (dq tk_Law_orderActs 23 rfl) (lv_at hl 5 rfl) ?_
        refine AL_X_acts hc hw c3 (dq tk_Law_orderActs 24 rfl) ?_
        refine G_Act_to (inb_lt c3) hc hw wd_446 (dq tk_Law_orderActs 25 rfl) ?_
        refine lv_icmp_ge (tgt := 111) hx hb (dq tk_Law_orderActs 26 rfl) (by decide) (fun c5 => ?_) (fun c5 => ?_)
        · replace hf := if_t hf c5
          refine lv_iinc (v := (x5 + 1)) (lv' := [(5, .int (x5 + 1)), (0, .ref (Z.1 + (197 + 187 * kv))), (1, .int x1), (2, .int x2), (3, .ref (Z.1 + (236 + 187 * kv + 1 * k3_1))), (4, .int x4)]) hx hb (dq tk_Law_orderActs 61 rfl) hl (k := 5) rfl rfl (by decide) rfl (fun ls hl => ?_)
          refine lv_goto (tgt := 13) hx hb (dq tk_Law_orderActs 62 rfl) (by decide) ?_
          exact ih hk3_1 hw (lv_sub hl [1, 2, 3, 4, 5, 0] rfl) hf
        · replace hf := if_f hf c5
          refine lv_iload hx hb (dq tk_Law_orderActs 27 rfl) (lv_at hl 4 rfl) ?_
          refine lv_istore (lv' := [(6, .int x4), (0, .ref (Z.1 + (197 + 187 * kv))), (1, .int x1), (2, .int x2), (3, .ref (Z.1 + (236 + 187 * kv + 1 * k3_1))), (4, .int x4), (5, .int x5)]) hx hb (dq tk_Law_orderActs 28 rfl) hl (by decide) rfl (fun ls hl => ?_)
          exact w_Law_orderActs_54 hc hr hR hkv ih N hk3_1 hw (lv_sub hl [1, 2, 3, 4, 5, 6, 0] rfl) hf
set_option maxRecDepth 10000 in
theorem w_Law_orderActs {N : Nat} {kv : Nat} (hc : Cxz p s m meth c args prog_7_method_5_code "LabourExchange$Law" 7 Z) (hr : meth.sig.returnType = none) (hR : RO R 0) (hkv : kv < 2) {σ' : St} : ∀ {x1 : Int32} {x2 : Int32} {σ : St} {H : Heap} {locs : List Loc} {ls : Array Slot}, Wd Z (cmb σ μ) s H locs → lv_has ls 7 [(0, .ref (Z.1 + (197 + 187 * kv))), (1, .int x1), (2, .int x2)] → fLaw_orderActs N kv x1 x2 σ = some σ' → W p l e R s m args below meth c H locs 0 0 (MQ below (Qr Z none True (cmb σ' μ)) args s 0 0 (fun q => Z.1 ≤ q)) (F0 m 0 ls []) := by
  have hx := hc.hx
  have hb := hc.hb
  intro x1 x2 σ H locs ls hw hl hf
  unfold fLaw_orderActs at hf
  refine lv_aload_n hx hb (dq tk_Law_orderActs 0 rfl) rfl (lv_at hl 0 rfl) ?_
  refine G_Law_inForce hkv hc hw wd_500 (dq tk_Law_orderActs 1 rfl) ?_
  refine lv_iload_n hx hb (dq tk_Law_orderActs 2 rfl) rfl (lv_at hl 1 rfl) ?_
  obtain ⟨c1, hf⟩ := chk_some hf
  refine AL_Law_inForce hkv hc hw c1 (dq tk_Law_orderActs 3 rfl) ?_
  refine lv_astore_n (lv' := [(3, .ref (Z.1 + (236 + 187 * kv + 1 * x1.toNatClampNeg))), (0, .ref (Z.1 + (197 + 187 * kv))), (1, .int x1), (2, .int x2)]) hx hb (dq tk_Law_orderActs 4 rfl) rfl hl (by decide) rfl (fun ls hl => ?_)
  refine lv_iconst (v := 0) hx hb (dq tk_Law_orderActs 5 rfl) (by decide) ?_
  refine lv_istore (lv' := [(4, .int 0), (3, .ref (Z.1 + (236 + 187 * kv + 1 * x1.toNatClampNeg))), (0, .ref (Z.1 + (197 + 187 * kv))), (1, .int x1), (2, .int x2)]) hx hb (dq tk_Law_orderActs 6 rfl) hl (by decide) rfl (fun ls hl => ?_)
  refine lv_iconst (v := 0) hx hb (dq tk_Law_orderActs 7 rfl) (by decide) ?_
  refine lv_istore (lv' := [(5, .int 0), (4, .int 0), (3, .ref (Z.1 + (236 + 187 * kv + 1 * x1.toNatClampNeg))), (0, .ref (Z.1 + (197 + 187 * kv))), (1, .int x1), (2, .int x2)]) hx hb (dq tk_Law_orderActs 8 rfl) hl (by decide) rfl (fun ls hl => ?_)
  exact w_Law_orderActs_13 hc hr hR hkv N (inb_lt c1) hw (lv_sub hl [3, 4, 5, 2, 1, 0] rfl) hf
theorem c_Law_orderActs {N : Nat} {kv : Nat}  {x1 : Int32} {x2 : Int32} {σ' : St} {σ : St} (hkv : kv < 2) (hf : fLaw_orderActs N kv x1 x2 σ = some σ') : Ct l Z y_Law_orderActs prog_7_method_5_code 7 none (rmo (0)) [.ref (Z.1 + (197 + 187 * kv)), .int x1, .int x2] (cmb σ μ) none True (cmb σ' μ) := by
  refine x_met (by decide) (Nat.le_of_ble_eq_true rfl) (fun p e s m args below meth c ls hc hr hw hl => ?_)
  exact w_Law_orderActs hc hr RO.self hkv hw hl hf
theorem K_Law_orderActs {idx : Nat} {N : Nat} {kv : Nat}  {x1 : Int32} {x2 : Int32} {σ' : St} {σ : St} (hc : Cxz p s m meth c args cc own nL Z) (hw : Wd Z (cmb σ μ) s H locs) (hkv : kv < 2) (hl : Cond.methodLink own idx y_Law_orderActs ∈ TB) (hf : fLaw_orderActs N kv x1 x2 σ = some σ') (hR : RO R ((0) + 1)) (hcs : cells ≤ R.cells ∧ slots ≤ R.slots) (hls : ls.size = nL) (hst : (rest.map fun v => v.category).sum ≤ 8) (hdg : decode cc pc = .ok (.invokevirtual idx, 3)) (kk : ∀ (H1 : Heap) (locs1 : List Loc), Wd Z (cmb σ' μ) s H1 locs1 → True → W p l e R s m args below meth c H1 locs1 cells slots Q (F0 m (pc + 3) ls rest)) : W p l e R s m args below meth c H locs cells slots Q (F0 m pc ls (.int x2 :: .int x1 :: .ref (Z.1 + (197 + 187 * kv)) :: rest)) :=
  x_iv hc hw (c_Law_orderActs hkv hf) yv_Law_orderActs (wd_view (r := 5) hkv (by decide) (by omega)).1 (wd_view (r := 5) hkv (by decide) (by omega)).2 rfl hl (RO.call hR (by decide)) hcs rfl hls hst hdg rfl kk
set_option maxRecDepth 10000 in
theorem w_Law_overlay_112 {N : Nat} {kv : Nat} (hc : Cxz p s m meth c args prog_7_method_6_code "LabourExchange$Law" 5 Z) (hr : meth.sig.returnType = none) (hR : RO R 0) (hkv : kv < 2) {σ' : St} : ∀ {x1 : Int32} {x2 : Int32} {k3_0 : Nat} {σ : St} {H : Heap} {locs : List Loc} {ls : Array Slot} (hk3_0 : k3_0 < 17), Wd Z (cmb σ μ) s H locs → lv_has ls 5 [(0, .ref (Z.1 + (197 + 187 * kv))), (1, .int x1), (2, .int x2), (3, .ref (Z.1 + (90 + 6 * k3_0)))] → fLaw_overlay_112 N kv x1 x2 k3_0 σ = some σ' → W p l e R s m args below meth c H locs 0 0 (MQ below (Qr Z none True (cmb σ' μ)) args s 0 0 (fun q => Z.1 ≤ q)) (F0 m 112 ls []) := by
  have hx := hc.hx
  have hb := hc.hb
  intro x1 x2 k3_0 σ H locs ls hk3_0 hw hl hf
  unfold fLaw_overlay_112 at hf
  refine lv_aload_n hx hb (dq tk_Law_overlay 64 rfl) rfl (lv_at hl 3 rfl) ?_
  refine G_Act_suitCount hk3_0 hc hw wd_436 (dq tk_Law_overlay 65 rfl) ?_
  refine lv_if_le (tgt := 126) hx hb (dq tk_Law_overlay 66 rfl) (by decide) (fun c1 => ?_) (fun c1 => ?_)
  · replace hf := if_t hf c1
    cases hf
    exact x_vret hc hw hr (dq tk_Law_overlay 72 rfl)
  · replace hf := if_f hf c1
    refine lv_aload_n hx hb (dq tk_Law_overlay 67 rfl) rfl (lv_at hl 0 rfl) ?_
    refine G_Law_suitAct hkv hc hw wd_506 (dq tk_Law_overlay 68 rfl) ?_
    refine lv_iload_n hx hb (dq tk_Law_overlay 69 rfl) rfl (lv_at hl 1 rfl) ?_
    refine lv_iload_n hx hb (dq tk_Law_overlay 70 rfl) rfl (lv_at hl 2 rfl) ?_
    obtain ⟨c2, hf⟩ := chk_some hf
    obtain ⟨σ1, hσ1, hf⟩ := nm_some hf
    refine AS_Law_suitAct hkv hc hw c2 hσ1 (dq tk_Law_overlay 71 rfl) (fun H locs hw => ?_)
    cases hf
    exact x_vret hc hw hr (dq tk_Law_overlay 72 rfl)
set_option maxRecDepth 10000 in
theorem w_Law_overlay_97 {N : Nat} {kv : Nat} (hc : Cxz p s m meth c args prog_7_method_6_code "LabourExchange$Law" 5 Z) (hr : meth.sig.returnType = none) (hR : RO R 0) (hkv : kv < 2) {σ' : St} : ∀ {x1 : Int32} {x2 : Int32} {k3_0 : Nat} {σ : St} {H : Heap} {locs : List Loc} {ls : Array Slot} (hk3_0 : k3_0 < 17), Wd Z (cmb σ μ) s H locs → lv_has ls 5 [(0, .ref (Z.1 + (197 + 187 * kv))), (1, .int x1), (2, .int x2), (3, .ref (Z.1 + (90 + 6 * k3_0)))] → fLaw_overlay_97 N kv x1 x2 k3_0 σ = some σ' → W p l e R s m args below meth c H locs 0 0 (MQ below (Qr Z none True (cmb σ' μ)) args s 0 0 (fun q => Z.1 ≤ q)) (F0 m 97 ls []) := by
  have hx := hc.hx
  have hb := hc.hb
  intro x1 x2 k3_0 σ H locs ls hk3_0 hw hl hf
  unfold fLaw_overlay_97 at hf
  refine lv_aload_n hx hb (dq tk_Law_overlay 55 rfl) rfl (lv_at hl 3 rfl) ?_
  refine G_Act_bar hk3_0 hc hw wd_431 (dq tk_Law_overlay 56 rfl) ?_
  refine lv_iconst (v := (-1)) hx hb (dq tk_Law_overlay 57 rfl) (by decide) ?_
  refine lv_icmp_eq (tgt := 112) hx hb (dq tk_Law_overlay 58 rfl) (by decide) (fun c1 => ?_) (fun c1 => ?_)
  · replace hf := if_t hf c1
    exact w_Law_overlay_112 hc hr hR hkv hk3_0 hw (lv_sub hl [0, 1, 2, 3] rfl) hf
  · replace hf := if_f hf c1
    refine lv_aload_n hx hb (dq tk_Law_overlay 59 rfl) rfl (lv_at hl 0 rfl) ?_
    refine G_Law_barAct hkv hc hw wd_505 (dq tk_Law_overlay 60 rfl) ?_
    refine lv_iload_n hx hb (dq tk_Law_overlay 61 rfl) rfl (lv_at hl 1 rfl) ?_
    refine lv_iload_n hx hb (dq tk_Law_overlay 62 rfl) rfl (lv_at hl 2 rfl) ?_
    obtain ⟨c2, hf⟩ := chk_some hf
    obtain ⟨σ1, hσ1, hf⟩ := nm_some hf
    refine AS_Law_barAct hkv hc hw c2 hσ1 (dq tk_Law_overlay 63 rfl) (fun H locs hw => ?_)
    exact w_Law_overlay_112 hc hr hR hkv hk3_0 hw (lv_sub hl [0, 1, 2, 3] rfl) hf
set_option maxRecDepth 10000 in
theorem w_Law_overlay_82 {N : Nat} {kv : Nat} (hc : Cxz p s m meth c args prog_7_method_6_code "LabourExchange$Law" 5 Z) (hr : meth.sig.returnType = none) (hR : RO R 0) (hkv : kv < 2) {σ' : St} : ∀ {x1 : Int32} {x2 : Int32} {k3_0 : Nat} {σ : St} {H : Heap} {locs : List Loc} {ls : Array Slot} (hk3_0 : k3_0 < 17), Wd Z (cmb σ μ) s H locs → lv_has ls 5 [(0, .ref (Z.1 + (197 + 187 * kv))), (1, .int x1), (2, .int x2), (3, .ref (Z.1 + (90 + 6 * k3_0)))] → fLaw_overlay_82 N kv x1 x2 k3_0 σ = some σ' → W p l e R s m args below meth c H locs 0 0 (MQ below (Qr Z none True (cmb σ' μ)) args s 0 0 (fun q => Z.1 ≤ q)) (F0 m 82 ls []) := by
  have hx := hc.hx
  have hb := hc.hb
  intro x1 x2 k3_0 σ H locs ls hk3_0 hw hl hf
  unfold fLaw_overlay_82 at hf
  refine lv_aload_n hx hb (dq tk_Law_overlay 46 rfl) rfl (lv_at hl 3 rfl) ?_
  refine G_Act_needy hk3_0 hc hw wd_428 (dq tk_Law_overlay 47 rfl) ?_
  refine lv_iconst (v := (-1)) hx hb (dq tk_Law_overlay 48 rfl) (by decide) ?_
  refine lv_icmp_eq (tgt := 97) hx hb (dq tk_Law_overlay 49 rfl) (by decide) (fun c1 => ?_) (fun c1 => ?_)
  · replace hf := if_t hf c1
    exact w_Law_overlay_97 hc hr hR hkv hk3_0 hw (lv_sub hl [0, 1, 2, 3] rfl) hf
  · replace hf := if_f hf c1
    refine lv_aload_n hx hb (dq tk_Law_overlay 50 rfl) rfl (lv_at hl 0 rfl) ?_
    refine G_Law_needyAct hkv hc hw wd_504 (dq tk_Law_overlay 51 rfl) ?_
    refine lv_iload_n hx hb (dq tk_Law_overlay 52 rfl) rfl (lv_at hl 1 rfl) ?_
    refine lv_iload_n hx hb (dq tk_Law_overlay 53 rfl) rfl (lv_at hl 2 rfl) ?_
    obtain ⟨c2, hf⟩ := chk_some hf
    obtain ⟨σ1, hσ1, hf⟩ := nm_some hf
    refine AS_Law_needyAct hkv hc hw c2 hσ1 (dq tk_Law_overlay 54 rfl) (fun H locs hw => ?_)
    exact w_Law_overlay_97 hc hr hR hkv hk3_0 hw (lv_sub hl [0, 1, 2, 3] rfl) hf
set_option maxRecDepth 10000 in
theorem w_Law_overlay_67 {N : Nat} {kv : Nat} (hc : Cxz p s m meth c args prog_7_method_6_code "LabourExchange$Law" 5 Z) (hr : meth.sig.returnType = none) (hR : RO R 0) (hkv : kv < 2) {σ' : St} : ∀ {x1 : Int32} {x2 : Int32} {k3_0 : Nat} {σ : St} {H : Heap} {locs : List Loc} {ls : Array Slot} (hk3_0 : k3_0 < 17), Wd Z (cmb σ μ) s H locs → lv_has ls 5 [(0, .ref (Z.1 + (197 + 187 * kv))), (1, .int x1), (2, .int x2), (3, .ref (Z.1 + (90 + 6 * k3_0)))] → fLaw_overlay_67 N kv x1 x2 k3_0 σ = some σ' → W p l e R s m args below meth c H locs 0 0 (MQ below (Qr Z none True (cmb σ' μ)) args s 0 0 (fun q => Z.1 ≤ q)) (F0 m 67 ls []) := by
  have hx := hc.hx
  have hb := hc.hb
  intro x1 x2 k3_0 σ H locs ls hk3_0 hw hl hf
  unfold fLaw_overlay_67 at hf
  refine lv_aload_n hx hb (dq tk_Law_overlay 37 rfl) rfl (lv_at hl 3 rfl) ?_
  refine G_Act_pay hk3_0 hc hw wd_425 (dq tk_Law_overlay 38 rfl) ?_
  refine lv_iconst (v := (-1)) hx hb (dq tk_Law_overlay 39 rfl) (by decide) ?_
  refine lv_icmp_eq (tgt := 82) hx hb (dq tk_Law_overlay 40 rfl) (by decide) (fun c1 => ?_) (fun c1 => ?_)
  · replace hf := if_t hf c1
    exact w_Law_overlay_82 hc hr hR hkv hk3_0 hw (lv_sub hl [0, 1, 2, 3] rfl) hf
  · replace hf := if_f hf c1
    refine lv_aload_n hx hb (dq tk_Law_overlay 41 rfl) rfl (lv_at hl 0 rfl) ?_
    refine G_Law_payAct hkv hc hw wd_503 (dq tk_Law_overlay 42 rfl) ?_
    refine lv_iload_n hx hb (dq tk_Law_overlay 43 rfl) rfl (lv_at hl 1 rfl) ?_
    refine lv_iload_n hx hb (dq tk_Law_overlay 44 rfl) rfl (lv_at hl 2 rfl) ?_
    obtain ⟨c2, hf⟩ := chk_some hf
    obtain ⟨σ1, hσ1, hf⟩ := nm_some hf
    refine AS_Law_payAct hkv hc hw c2 hσ1 (dq tk_Law_overlay 45 rfl) (fun H locs hw => ?_)
    exact w_Law_overlay_82 hc hr hR hkv hk3_0 hw (lv_sub hl [0, 1, 2, 3] rfl) hf
set_option maxRecDepth 10000 in
theorem w_Law_overlay_10 {N : Nat} {kv : Nat} (hc : Cxz p s m meth c args prog_7_method_6_code "LabourExchange$Law" 5 Z) (hr : meth.sig.returnType = none) (hR : RO R 0) (hkv : kv < 2) {σ' : St} (n : Nat) : ∀ {x1 : Int32} {x2 : Int32} {k3_0 : Nat} {x4 : Int32} {σ : St} {H : Heap} {locs : List Loc} {ls : Array Slot} (hk3_0 : k3_0 < 17), Wd Z (cmb σ μ) s H locs → lv_has ls 5 [(0, .ref (Z.1 + (197 + 187 * kv))), (1, .int x1), (2, .int x2), (3, .ref (Z.1 + (90 + 6 * k3_0))), (4, .int x4)] → fLaw_overlay_10 N kv n x1 x2 k3_0 x4 σ = some σ' → W p l e R s m args below meth c H locs 0 0 (MQ below (Qr Z none True (cmb σ' μ)) args s 0 0 (fun q => Z.1 ≤ q)) (F0 m 10 ls []) := by
  have hx := hc.hx
  have hb := hc.hb
  induction n with
  | zero =>
    intro x1 x2 k3_0 x4 σ H locs ls hk3_0 hw hl hf
    have hf : none = some _ := hf
    cases hf
  | succ n ih =>
    intro x1 x2 k3_0 x4 σ H locs ls hk3_0 hw hl hf
    unfold fLaw_overlay_10 at hf
    refine lv_iload hx hb (dq tk_Law_overlay 7 rfl) (lv_at hl 4 rfl) ?_
    refine lv_bipush (v := 8) hx hb (dq tk_Law_overlay 8 rfl) (by decide) ?_
    refine lv_icmp_ge (tgt := 50) hx hb (dq tk_Law_overlay 9 rfl) (by decide) (fun c1 => ?_) (fun c1 => ?_)
    · replace hf := if_t hf c1
      refine lv_aload_n hx hb (dq tk_Law_overlay 28 rfl) rfl (lv_at hl 3 rfl) ?_
      refine G_Act_insured hk3_0 hc hw wd_422 (dq tk_Law_overlay 29 rfl) ?_
      refine lv_if_eq (tgt := 67) hx hb (dq tk_Law_overlay 30 rfl) (by decide) (fun c2 => ?_) (fun c2 => ?_)
      · replace hf := if_t hf c2
        exact w_Law_overlay_67 hc hr hR hkv hk3_0 hw (lv_sub hl [0, 1, 2, 3] rfl) hf
      · replace hf := if_f hf c2
        refine lv_aload_n hx hb (dq tk_Law_overlay 31 rfl) rfl (lv_at hl 0 rfl) ?_
        refine G_Law_insured hkv hc hw wd_502 (dq tk_Law_overlay 32 rfl) ?_
        refine lv_iload_n hx hb (dq tk_Law_overlay 33 rfl) rfl (lv_at hl 1 rfl) ?_
        refine lv_aload_n hx hb (dq tk_Law_overlay 34 rfl) rfl (lv_at hl 3 rfl) ?_
        refine G_Act_insured hk3_0 hc hw wd_422 (dq tk_Law_overlay 35 rfl) ?_
        obtain ⟨c3, hf⟩ := chk_some hf
        obtain ⟨σ1, hσ1, hf⟩ := nm_some hf
        refine AS_Law_insured hkv hc hw c3 hσ1 (dq tk_Law_overlay 36 rfl) (fun H locs hw => ?_)
        exact w_Law_overlay_67 hc hr hR hkv hk3_0 hw (lv_sub hl [0, 1, 2, 3] rfl) hf
    · replace hf := if_f hf c1
      refine lv_aload_n hx hb (dq tk_Law_overlay 10 rfl) rfl (lv_at hl 3 rfl) ?_
      refine G_Act_params hk3_0 hc hw wd_419 (dq tk_Law_overlay 11 rfl) ?_
      refine lv_iload hx hb (dq tk_Law_overlay 12 rfl) (lv_at hl 4 rfl) ?_
      obtain ⟨c4, hf⟩ := chk_some hf
      refine AL_Act_params hk3_0 hc hw c4 (dq tk_Law_overlay 13 rfl) ?_
      refine lv_iconst (v := (-1)) hx hb (dq tk_Law_overlay 14 rfl) (by decide) ?_
      refine lv_icmp_eq (tgt := 44) hx hb (dq tk_Law_overlay 15 rfl) (by decide) (fun c5 => ?_) (fun c5 => ?_)
      · replace hf := if_t hf c5
        refine lv_iinc (v := (x4 + 1)) (lv' := [(4, .int (x4 + 1)), (0, .ref (Z.1 + (197 + 187 * kv))), (1, .int x1), (2, .int x2), (3, .ref (Z.1 + (90 + 6 * k3_0)))]) hx hb (dq tk_Law_overlay 26 rfl) hl (k := 4) rfl rfl (by decide) rfl (fun ls hl => ?_)
        refine lv_goto (tgt := 10) hx hb (dq tk_Law_overlay 27 rfl) (by decide) ?_
        exact ih hk3_0 hw (lv_sub hl [1, 2, 3, 4, 0] rfl) hf
      · replace hf := if_f hf c5
        refine lv_aload_n hx hb (dq tk_Law_overlay 16 rfl) rfl (lv_at hl 0 rfl) ?_
        refine G_Law_params hkv hc hw wd_499 (dq tk_Law_overlay 17 rfl) ?_
        refine lv_iload_n hx hb (dq tk_Law_overlay 18 rfl) rfl (lv_at hl 1 rfl) ?_
        obtain ⟨c6, hf⟩ := chk_some hf
        refine AL_Law_params hkv hc hw c6 (dq tk_Law_overlay 19 rfl) ?_
        refine lv_iload hx hb (dq tk_Law_overlay 20 rfl) (lv_at hl 4 rfl) ?_
        refine lv_aload_n hx hb (dq tk_Law_overlay 21 rfl) rfl (lv_at hl 3 rfl) ?_
        refine G_Act_params hk3_0 hc hw wd_419 (dq tk_Law_overlay 22 rfl) ?_
        refine lv_iload hx hb (dq tk_Law_overlay 23 rfl) (lv_at hl 4 rfl) ?_
        refine AL_Act_params hk3_0 hc hw c4 (dq tk_Law_overlay 24 rfl) ?_
        obtain ⟨σ2, hσ2, hf⟩ := nm_some hf
        refine AS_Law_paramsr hkv (inb_lt c6) hc hw c4 hσ2 (dq tk_Law_overlay 25 rfl) (fun H locs hw => ?_)
        refine lv_iinc (v := (x4 + 1)) (lv' := [(4, .int (x4 + 1)), (0, .ref (Z.1 + (197 + 187 * kv))), (1, .int x1), (2, .int x2), (3, .ref (Z.1 + (90 + 6 * k3_0)))]) hx hb (dq tk_Law_overlay 26 rfl) hl (k := 4) rfl rfl (by decide) rfl (fun ls hl => ?_)
        refine lv_goto (tgt := 10) hx hb (dq tk_Law_overlay 27 rfl) (by decide) ?_
        exact ih hk3_0 hw (lv_sub hl [1, 2, 3, 4, 0] rfl) hf
set_option maxRecDepth 10000 in
theorem w_Law_overlay {N : Nat} {kv : Nat} (hc : Cxz p s m meth c args prog_7_method_6_code "LabourExchange$Law" 5 Z) (hr : meth.sig.returnType = none) (hR : RO R 0) (hkv : kv < 2) {σ' : St} : ∀ {x1 : Int32} {x2 : Int32} {σ : St} {H : Heap} {locs : List Loc} {ls : Array Slot}, Wd Z (cmb σ μ) s H locs → lv_has ls 5 [(0, .ref (Z.1 + (197 + 187 * kv))), (1, .int x1), (2, .int x2)] → fLaw_overlay N kv x1 x2 σ = some σ' → W p l e R s m args below meth c H locs 0 0 (MQ below (Qr Z none True (cmb σ' μ)) args s 0 0 (fun q => Z.1 ≤ q)) (F0 m 0 ls []) := by
  have hx := hc.hx
  have hb := hc.hb
  intro x1 x2 σ H locs ls hw hl hf
  unfold fLaw_overlay at hf
  refine lv_aload_n hx hb (dq tk_Law_overlay 0 rfl) rfl (lv_at hl 0 rfl) ?_
  refine G_Law_acts hkv hc hw wd_495 (dq tk_Law_overlay 1 rfl) ?_
  refine lv_iload_n hx hb (dq tk_Law_overlay 2 rfl) rfl (lv_at hl 2 rfl) ?_
  obtain ⟨c1, hf⟩ := chk_some hf
  refine AL_X_acts hc hw c1 (dq tk_Law_overlay 3 rfl) ?_
  refine lv_astore_n (lv' := [(3, .ref (Z.1 + (90 + 6 * x2.toNatClampNeg))), (0, .ref (Z.1 + (197 + 187 * kv))), (1, .int x1), (2, .int x2)]) hx hb (dq tk_Law_overlay 4 rfl) rfl hl (by decide) rfl (fun ls hl => ?_)
  refine lv_iconst (v := 0) hx hb (dq tk_Law_overlay 5 rfl) (by decide) ?_
  refine lv_istore (lv' := [(4, .int 0), (3, .ref (Z.1 + (90 + 6 * x2.toNatClampNeg))), (0, .ref (Z.1 + (197 + 187 * kv))), (1, .int x1), (2, .int x2)]) hx hb (dq tk_Law_overlay 6 rfl) hl (by decide) rfl (fun ls hl => ?_)
  exact w_Law_overlay_10 hc hr hR hkv N (inb_lt c1) hw (lv_sub hl [2, 3, 4, 1, 0] rfl) hf
theorem c_Law_overlay {N : Nat} {kv : Nat}  {x1 : Int32} {x2 : Int32} {σ' : St} {σ : St} (hkv : kv < 2) (hf : fLaw_overlay N kv x1 x2 σ = some σ') : Ct l Z y_Law_overlay prog_7_method_6_code 5 none (rmo (0)) [.ref (Z.1 + (197 + 187 * kv)), .int x1, .int x2] (cmb σ μ) none True (cmb σ' μ) := by
  refine x_met (by decide) (Nat.le_of_ble_eq_true rfl) (fun p e s m args below meth c ls hc hr hw hl => ?_)
  exact w_Law_overlay hc hr RO.self hkv hw hl hf
theorem K_Law_overlay {idx : Nat} {N : Nat} {kv : Nat}  {x1 : Int32} {x2 : Int32} {σ' : St} {σ : St} (hc : Cxz p s m meth c args cc own nL Z) (hw : Wd Z (cmb σ μ) s H locs) (hkv : kv < 2) (hl : Cond.methodLink own idx y_Law_overlay ∈ TB) (hf : fLaw_overlay N kv x1 x2 σ = some σ') (hR : RO R ((0) + 1)) (hcs : cells ≤ R.cells ∧ slots ≤ R.slots) (hls : ls.size = nL) (hst : (rest.map fun v => v.category).sum ≤ 8) (hdg : decode cc pc = .ok (.invokevirtual idx, 3)) (kk : ∀ (H1 : Heap) (locs1 : List Loc), Wd Z (cmb σ' μ) s H1 locs1 → True → W p l e R s m args below meth c H1 locs1 cells slots Q (F0 m (pc + 3) ls rest)) : W p l e R s m args below meth c H locs cells slots Q (F0 m pc ls (.int x2 :: .int x1 :: .ref (Z.1 + (197 + 187 * kv)) :: rest)) :=
  x_iv hc hw (c_Law_overlay hkv hf) yv_Law_overlay (wd_view (r := 5) hkv (by decide) (by omega)).1 (wd_view (r := 5) hkv (by decide) (by omega)).2 rfl hl (RO.call hR (by decide)) hcs rfl hls hst hdg rfl kk
set_option maxRecDepth 10000 in
theorem w_Law_makeSheet_66 {N : Nat} {kv : Nat} (hc : Cxz p s m meth c args prog_7_method_4_code "LabourExchange$Law" 4 Z) (hr : meth.sig.returnType = none) (hR : RO R 4) (hkv : kv < 2) {σ' : St} (n : Nat) : ∀ {x1 : Int32} {x3 : Int32} {σ : St} {H : Heap} {locs : List Loc} {ls : Array Slot}, Wd Z (cmb σ μ) s H locs → lv_has ls 4 [(0, .ref (Z.1 + (197 + 187 * kv))), (1, .int x1), (3, .int x3)] → fLaw_makeSheet_66 N kv n x1 x3 σ = some σ' → W p l e R s m args below meth c H locs 0 0 (MQ below (Qr Z none True (cmb σ' μ)) args s 0 0 (fun q => Z.1 ≤ q)) (F0 m 66 ls []) := by
  have hx := hc.hx
  have hb := hc.hb
  induction n with
  | zero =>
    intro x1 x3 σ H locs ls hw hl hf
    have hf : none = some _ := hf
    cases hf
  | succ n ih =>
    intro x1 x3 σ H locs ls hw hl hf
    unfold fLaw_makeSheet_66 at hf
    refine lv_iload_n hx hb (dq tk_Law_makeSheet 45 rfl) rfl (lv_at hl 2 rfl) ?_
    refine lv_if_lt (tgt := 89) hx hb (dq tk_Law_makeSheet 46 rfl) (by decide) (fun c1 => ?_) (fun c1 => ?_)
    · replace hf := if_t hf c1
      cases hf
      exact x_vret hc hw hr (dq tk_Law_makeSheet 58 rfl)
    · replace hf := if_f hf c1
      refine lv_aload_n hx hb (dq tk_Law_makeSheet 47 rfl) rfl (lv_at hl 0 rfl) ?_
      refine lv_iload_n hx hb (dq tk_Law_makeSheet 48 rfl) rfl (lv_at hl 1 rfl) ?_
      refine lv_aload_n hx hb (dq tk_Law_makeSheet 49 rfl) rfl (lv_at hl 0 rfl) ?_
      refine G_Law_inForce hkv hc hw wd_500 (dq tk_Law_makeSheet 50 rfl) ?_
      refine lv_iload_n hx hb (dq tk_Law_makeSheet 51 rfl) rfl (lv_at hl 1 rfl) ?_
      obtain ⟨c2, hf⟩ := chk_some hf
      refine AL_Law_inForce hkv hc hw c2 (dq tk_Law_makeSheet 52 rfl) ?_
      refine lv_iload_n hx hb (dq tk_Law_makeSheet 53 rfl) rfl (lv_at hl 2 rfl) ?_
      obtain ⟨c3, hf⟩ := chk_some hf
      refine AL_Law_inForcer hkv (inb_lt c2) hc hw c3 (dq tk_Law_makeSheet 54 rfl) ?_
      obtain ⟨σ1, h55, hf⟩ := bn1_someZ hf
      refine K_Law_overlay hc hw hkv wd_775 h55 (hR.mono (by decide)) ⟨Nat.zero_le _, Nat.zero_le _⟩ hl.1 (Nat.le_of_ble_eq_true rfl) (dq tk_Law_makeSheet 55 rfl) (fun H locs hw _ => ?_)
      refine lv_iinc (v := (x3 + (-1))) (lv' := [(3, .int (x3 + (-1))), (0, .ref (Z.1 + (197 + 187 * kv))), (1, .int x1)]) hx hb (dq tk_Law_makeSheet 56 rfl) hl (k := 2) rfl rfl (by decide) rfl (fun ls hl => ?_)
      refine lv_goto (tgt := 66) hx hb (dq tk_Law_makeSheet 57 rfl) (by decide) ?_
      exact ih hw (lv_sub hl [1, 2, 0] rfl) hf
set_option maxRecDepth 10000 in
theorem w_Law_makeSheet {N : Nat} {kv : Nat} (hc : Cxz p s m meth c args prog_7_method_4_code "LabourExchange$Law" 4 Z) (hr : meth.sig.returnType = none) (hR : RO R 4) (hkv : kv < 2) {σ' : St} : ∀ {x1 : Int32} {x2 : Int32} {σ : St} {H : Heap} {locs : List Loc} {ls : Array Slot}, Wd Z (cmb σ μ) s H locs → lv_has ls 4 [(0, .ref (Z.1 + (197 + 187 * kv))), (1, .int x1), (2, .int x2)] → fLaw_makeSheet N kv x1 x2 σ = some σ' → W p l e R s m args below meth c H locs 0 0 (MQ below (Qr Z none True (cmb σ' μ)) args s 0 0 (fun q => Z.1 ≤ q)) (F0 m 0 ls []) := by
  have hx := hc.hx
  have hb := hc.hb
  intro x1 x2 σ H locs ls hw hl hf
  unfold fLaw_makeSheet at hf
  refine lv_aload_n hx hb (dq tk_Law_makeSheet 0 rfl) rfl (lv_at hl 0 rfl) ?_
  refine lv_iload_n hx hb (dq tk_Law_makeSheet 1 rfl) rfl (lv_at hl 1 rfl) ?_
  refine lv_iload_n hx hb (dq tk_Law_makeSheet 2 rfl) rfl (lv_at hl 2 rfl) ?_
  obtain ⟨σ1, h3, hf⟩ := bn1_someZ hf
  refine K_Law_orderActs hc hw hkv wd_766 h3 (hR.mono (by decide)) ⟨Nat.zero_le _, Nat.zero_le _⟩ hl.1 (Nat.le_of_ble_eq_true rfl) (dq tk_Law_makeSheet 3 rfl) (fun H locs hw _ => ?_)
  refine GS_DEFAULTS hc hw (dq tk_Law_makeSheet 4 rfl) ?_
  refine lv_iconst (v := 0) hx hb (dq tk_Law_makeSheet 5 rfl) (by decide) ?_
  refine lv_aload_n hx hb (dq tk_Law_makeSheet 6 rfl) rfl (lv_at hl 0 rfl) ?_
  refine G_Law_params hkv hc hw wd_499 (dq tk_Law_makeSheet 7 rfl) ?_
  refine lv_iload_n hx hb (dq tk_Law_makeSheet 8 rfl) rfl (lv_at hl 1 rfl) ?_
  obtain ⟨c1, hf⟩ := chk_some hf
  refine AL_Law_params hkv hc hw c1 (dq tk_Law_makeSheet 9 rfl) ?_
  refine lv_iconst (v := 0) hx hb (dq tk_Law_makeSheet 10 rfl) (by decide) ?_
  refine lv_bipush (v := 8) hx hb (dq tk_Law_makeSheet 11 rfl) (by decide) ?_
  obtain ⟨c2, hf⟩ := chk_some hf
  obtain ⟨σ2, hσ2, hf⟩ := nm_some hf
  refine CP_Law hkv (inb_lt c1) hc hw c2 hσ2 (hR.mono (by decide)) hl.1 (dq tk_Law_makeSheet 12 rfl) (fun H locs hw => ?_)
  refine lv_aload_n hx hb (dq tk_Law_makeSheet 13 rfl) rfl (lv_at hl 0 rfl) ?_
  refine G_Law_insured hkv hc hw wd_502 (dq tk_Law_makeSheet 14 rfl) ?_
  refine lv_iload_n hx hb (dq tk_Law_makeSheet 15 rfl) rfl (lv_at hl 1 rfl) ?_
  refine lv_iconst (v := 0) hx hb (dq tk_Law_makeSheet 16 rfl) (by decide) ?_
  obtain ⟨σ3, hσ3, hf⟩ := nm_some hf
  refine AS_Law_insured hkv hc hw c1 hσ3 (dq tk_Law_makeSheet 17 rfl) (fun H locs hw => ?_)
  refine lv_aload_n hx hb (dq tk_Law_makeSheet 18 rfl) rfl (lv_at hl 0 rfl) ?_
  refine G_Law_payAct hkv hc hw wd_503 (dq tk_Law_makeSheet 19 rfl) ?_
  refine lv_iload_n hx hb (dq tk_Law_makeSheet 20 rfl) rfl (lv_at hl 1 rfl) ?_
  refine lv_iconst (v := (-1)) hx hb (dq tk_Law_makeSheet 21 rfl) (by decide) ?_
  obtain ⟨σ4, hσ4, hf⟩ := nm_some hf
  refine AS_Law_payAct hkv hc hw c1 hσ4 (dq tk_Law_makeSheet 22 rfl) (fun H locs hw => ?_)
  refine lv_aload_n hx hb (dq tk_Law_makeSheet 23 rfl) rfl (lv_at hl 0 rfl) ?_
  refine G_Law_needyAct hkv hc hw wd_504 (dq tk_Law_makeSheet 24 rfl) ?_
  refine lv_iload_n hx hb (dq tk_Law_makeSheet 25 rfl) rfl (lv_at hl 1 rfl) ?_
  refine lv_iconst (v := (-1)) hx hb (dq tk_Law_makeSheet 26 rfl) (by decide) ?_
  obtain ⟨σ5, hσ5, hf⟩ := nm_some hf
  refine AS_Law_needyAct hkv hc hw c1 hσ5 (dq tk_Law_makeSheet 27 rfl) (fun H locs hw => ?_)
  refine lv_aload_n hx hb (dq tk_Law_makeSheet 28 rfl) rfl (lv_at hl 0 rfl) ?_
  refine G_Law_barAct hkv hc hw wd_505 (dq tk_Law_makeSheet 29 rfl) ?_
  refine lv_iload_n hx hb (dq tk_Law_makeSheet 30 rfl) rfl (lv_at hl 1 rfl) ?_
  refine lv_iconst (v := (-1)) hx hb (dq tk_Law_makeSheet 31 rfl) (by decide) ?_
  obtain ⟨σ6, hσ6, hf⟩ := nm_some hf
  refine AS_Law_barAct hkv hc hw c1 hσ6 (dq tk_Law_makeSheet 32 rfl) (fun H locs hw => ?_)
  refine lv_aload_n hx hb (dq tk_Law_makeSheet 33 rfl) rfl (lv_at hl 0 rfl) ?_
  refine G_Law_suitAct hkv hc hw wd_506 (dq tk_Law_makeSheet 34 rfl) ?_
  refine lv_iload_n hx hb (dq tk_Law_makeSheet 35 rfl) rfl (lv_at hl 1 rfl) ?_
  refine lv_iconst (v := (-1)) hx hb (dq tk_Law_makeSheet 36 rfl) (by decide) ?_
  obtain ⟨σ7, hσ7, hf⟩ := nm_some hf
  refine AS_Law_suitAct hkv hc hw c1 hσ7 (dq tk_Law_makeSheet 37 rfl) (fun H locs hw => ?_)
  refine lv_aload_n hx hb (dq tk_Law_makeSheet 38 rfl) rfl (lv_at hl 0 rfl) ?_
  refine G_Law_forceCount hkv hc hw wd_501 (dq tk_Law_makeSheet 39 rfl) ?_
  refine lv_iload_n hx hb (dq tk_Law_makeSheet 40 rfl) rfl (lv_at hl 1 rfl) ?_
  refine AL_Law_forceCount hkv hc hw c1 (dq tk_Law_makeSheet 41 rfl) ?_
  refine lv_iconst (v := 1) hx hb (dq tk_Law_makeSheet 42 rfl) (by decide) ?_
  refine lv_isub hx hb (dq tk_Law_makeSheet 43 rfl) ?_
  obtain ⟨y8, hy8, hf⟩ := nm_some hf
  refine tst (congrArg Value.int hy8) ?_
  refine lv_istore_n (lv' := [(3, .int y8), (0, .ref (Z.1 + (197 + 187 * kv))), (1, .int x1), (2, .int x2)]) hx hb (dq tk_Law_makeSheet 44 rfl) rfl hl (by decide) rfl (fun ls hl => ?_)
  exact w_Law_makeSheet_66 hc hr hR hkv N hw (lv_sub hl [1, 2, 0] rfl) hf
theorem c_Law_makeSheet {N : Nat} {kv : Nat}  {x1 : Int32} {x2 : Int32} {σ' : St} {σ : St} (hkv : kv < 2) (hf : fLaw_makeSheet N kv x1 x2 σ = some σ') : Ct l Z y_Law_makeSheet prog_7_method_4_code 4 none (rmo (4)) [.ref (Z.1 + (197 + 187 * kv)), .int x1, .int x2] (cmb σ μ) none True (cmb σ' μ) := by
  refine x_met (by decide) (Nat.le_of_ble_eq_true rfl) (fun p e s m args below meth c ls hc hr hw hl => ?_)
  exact w_Law_makeSheet hc hr RO.self hkv hw hl hf
theorem K_Law_makeSheet {idx : Nat} {N : Nat} {kv : Nat}  {x1 : Int32} {x2 : Int32} {σ' : St} {σ : St} (hc : Cxz p s m meth c args cc own nL Z) (hw : Wd Z (cmb σ μ) s H locs) (hkv : kv < 2) (hl : Cond.methodLink own idx y_Law_makeSheet ∈ TB) (hf : fLaw_makeSheet N kv x1 x2 σ = some σ') (hR : RO R ((4) + 1)) (hcs : cells ≤ R.cells ∧ slots ≤ R.slots) (hls : ls.size = nL) (hst : (rest.map fun v => v.category).sum ≤ 8) (hdg : decode cc pc = .ok (.invokevirtual idx, 3)) (kk : ∀ (H1 : Heap) (locs1 : List Loc), Wd Z (cmb σ' μ) s H1 locs1 → True → W p l e R s m args below meth c H1 locs1 cells slots Q (F0 m (pc + 3) ls rest)) : W p l e R s m args below meth c H locs cells slots Q (F0 m pc ls (.int x2 :: .int x1 :: .ref (Z.1 + (197 + 187 * kv)) :: rest)) :=
  x_iv hc hw (c_Law_makeSheet hkv hf) yv_Law_makeSheet (wd_view (r := 5) hkv (by decide) (by omega)).1 (wd_view (r := 5) hkv (by decide) (by omega)).2 rfl hl (RO.call hR (by decide)) hcs rfl hls hst hdg rfl kk
set_option maxRecDepth 10000 in
theorem w_Law_make_110 {N : Nat} {kv : Nat} (hc : Cxz p s m meth c args prog_7_method_3_code "LabourExchange$Law" 4 Z) (hr : meth.sig.returnType = none) (hR : RO R 5) (hkv : kv < 2) {σ' : St} {go78 : Int32 → Int32 → St → Option St} (hgo78 : ∀ {x2 : Int32} {x3 : Int32} {σ : St} {H : Heap} {locs : List Loc} {ls : Array Slot}, Wd Z (cmb σ μ) s H locs → lv_has ls 4 [(0, .ref (Z.1 + (197 + 187 * kv))), (2, .int x2), (3, .int x3)] → go78 x2 x3 σ = some σ' → W p l e R s m args below meth c H locs 0 0 (MQ below (Qr Z none True (cmb σ' μ)) args s 0 0 (fun q => Z.1 ≤ q)) (F0 m 78 ls [])) : ∀ {x2 : Int32} {x3 : Int32} {σ : St} {H : Heap} {locs : List Loc} {ls : Array Slot}, Wd Z (cmb σ μ) s H locs → lv_has ls 4 [(0, .ref (Z.1 + (197 + 187 * kv))), (2, .int x2), (3, .int x3)] → fLaw_make_110 N kv go78 x2 x3 σ = some σ' → W p l e R s m args below meth c H locs 0 0 (MQ below (Qr Z none True (cmb σ' μ)) args s 0 0 (fun q => Z.1 ≤ q)) (F0 m 110 ls []) := by
  have hx := hc.hx
  have hb := hc.hb
  intro x2 x3 σ H locs ls hw hl hf
  unfold fLaw_make_110 at hf
  refine lv_aload_n hx hb (dq tk_Law_make 63 rfl) rfl (lv_at hl 0 rfl) ?_
  refine G_Law_spanOf hkv hc hw wd_498 (dq tk_Law_make 64 rfl) ?_
  refine lv_iload_n hx hb (dq tk_Law_make 65 rfl) rfl (lv_at hl 2 rfl) ?_
  refine lv_iload_n hx hb (dq tk_Law_make 66 rfl) rfl (lv_at hl 1 rfl) ?_
  refine lv_i2b hx hb (dq tk_Law_make 67 rfl) rfl ?_
  obtain ⟨c1, hf⟩ := chk_some hf
  obtain ⟨σ1, hσ1, hf⟩ := nm_some hf
  refine AS_Law_spanOf hkv hc hw c1 hσ1 (dq tk_Law_make 68 rfl) (fun H locs hw => ?_)
  refine lv_iinc (v := (x3 + 1)) (lv' := [(3, .int (x3 + 1)), (0, .ref (Z.1 + (197 + 187 * kv))), (2, .int x2)]) hx hb (dq tk_Law_make 69 rfl) hl (k := 2) rfl rfl (by decide) rfl (fun ls hl => ?_)
  refine lv_goto (tgt := 78) hx hb (dq tk_Law_make 70 rfl) (by decide) ?_
  exact hgo78 hw (lv_sub hl [1, 2, 0] rfl) hf
set_option maxRecDepth 10000 in
theorem w_Law_make_78 {N : Nat} {kv : Nat} (hc : Cxz p s m meth c args prog_7_method_3_code "LabourExchange$Law" 4 Z) (hr : meth.sig.returnType = none) (hR : RO R 5) (hkv : kv < 2) {σ' : St} (n : Nat) : ∀ {x2 : Int32} {x3 : Int32} {σ : St} {H : Heap} {locs : List Loc} {ls : Array Slot}, Wd Z (cmb σ μ) s H locs → lv_has ls 4 [(0, .ref (Z.1 + (197 + 187 * kv))), (2, .int x2), (3, .int x3)] → fLaw_make_78 N kv n x2 x3 σ = some σ' → W p l e R s m args below meth c H locs 0 0 (MQ below (Qr Z none True (cmb σ' μ)) args s 0 0 (fun q => Z.1 ≤ q)) (F0 m 78 ls []) := by
  have hx := hc.hx
  have hb := hc.hb
  induction n with
  | zero =>
    intro x2 x3 σ H locs ls hw hl hf
    have hf : none = some _ := hf
    cases hf
  | succ n ih =>
    intro x2 x3 σ H locs ls hw hl hf
    unfold fLaw_make_78 at hf
    refine lv_iload_n hx hb (dq tk_Law_make 46 rfl) rfl (lv_at hl 2 rfl) ?_
    refine lv_sipush (v := 936) hx hb (dq tk_Law_make 47 rfl) (by decide) ?_
    refine lv_icmp_ge (tgt := 124) hx hb (dq tk_Law_make 48 rfl) (by decide) (fun c1 => ?_) (fun c1 => ?_)
    · replace hf := if_t hf c1
      cases hf
      exact x_vret hc hw hr (dq tk_Law_make 71 rfl)
    · replace hf := if_f hf c1
      refine lv_aload_n hx hb (dq tk_Law_make 49 rfl) rfl (lv_at hl 0 rfl) ?_
      refine G_Law_spanOf hkv hc hw wd_498 (dq tk_Law_make 50 rfl) ?_
      refine lv_iload_n hx hb (dq tk_Law_make 51 rfl) rfl (lv_at hl 2 rfl) ?_
      obtain ⟨c2, hf⟩ := chk_some hf
      refine AL_Law_spanOf hkv hc hw c2 (dq tk_Law_make 52 rfl) ?_
      refine lv_iconst (v := 1) hx hb (dq tk_Law_make 53 rfl) (by decide) ?_
      refine lv_icmp_ne (tgt := 110) hx hb (dq tk_Law_make 54 rfl) (by decide) (fun c3 => ?_) (fun c3 => ?_)
      · replace hf := if_f hf c3
        exact w_Law_make_110 hc hr hR hkv ih hw (lv_sub hl [0, 1, 2] rfl) hf
      · replace hf := if_t hf c3
        refine lv_iload_n hx hb (dq tk_Law_make 55 rfl) rfl (lv_at hl 1 rfl) ?_
        refine lv_bipush (v := 34) hx hb (dq tk_Law_make 56 rfl) (by decide) ?_
        refine lv_icmp_ge (tgt := 110) hx hb (dq tk_Law_make 57 rfl) (by decide) (fun c4 => ?_) (fun c4 => ?_)
        · replace hf := if_t hf c4
          exact w_Law_make_110 hc hr hR hkv ih hw (lv_sub hl [0, 1, 2] rfl) hf
        · replace hf := if_f hf c4
          refine lv_iinc (v := (x2 + 1)) (lv' := [(2, .int (x2 + 1)), (0, .ref (Z.1 + (197 + 187 * kv))), (3, .int x3)]) hx hb (dq tk_Law_make 58 rfl) hl (k := 1) rfl rfl (by decide) rfl (fun ls hl => ?_)
          refine lv_aload_n hx hb (dq tk_Law_make 59 rfl) rfl (lv_at hl 1 rfl) ?_
          refine lv_iload_n hx hb (dq tk_Law_make 60 rfl) rfl (lv_at hl 0 rfl) ?_
          refine lv_iload_n hx hb (dq tk_Law_make 61 rfl) rfl (lv_at hl 2 rfl) ?_
          obtain ⟨σ1, h62, hf⟩ := bn1_someZ hf
          refine K_Law_makeSheet hc hw hkv wd_762 h62 (hR.mono (by decide)) ⟨Nat.zero_le _, Nat.zero_le _⟩ hl.1 (Nat.le_of_ble_eq_true rfl) (dq tk_Law_make 62 rfl) (fun H locs hw _ => ?_)
          exact w_Law_make_110 hc hr hR hkv ih hw (lv_sub hl [1, 0, 2] rfl) hf
set_option maxRecDepth 10000 in
theorem w_Law_make_23 {N : Nat} {kv : Nat} (hc : Cxz p s m meth c args prog_7_method_3_code "LabourExchange$Law" 4 Z) (hr : meth.sig.returnType = none) (hR : RO R 5) (hkv : kv < 2) {σ' : St} (n : Nat) : ∀ {x2 : Int32} {σ : St} {H : Heap} {locs : List Loc} {ls : Array Slot}, Wd Z (cmb σ μ) s H locs → lv_has ls 4 [(0, .ref (Z.1 + (197 + 187 * kv))), (2, .int x2)] → fLaw_make_23 N kv n x2 σ = some σ' → W p l e R s m args below meth c H locs 0 0 (MQ below (Qr Z none True (cmb σ' μ)) args s 0 0 (fun q => Z.1 ≤ q)) (F0 m 23 ls []) := by
  have hx := hc.hx
  have hb := hc.hb
  induction n with
  | zero =>
    intro x2 σ H locs ls hw hl hf
    have hf : none = some _ := hf
    cases hf
  | succ n ih =>
    intro x2 σ H locs ls hw hl hf
    unfold fLaw_make_23 at hf
    refine lv_iload_n hx hb (dq tk_Law_make 13 rfl) rfl (lv_at hl 1 rfl) ?_
    refine lv_aload_n hx hb (dq tk_Law_make 14 rfl) rfl (lv_at hl 0 rfl) ?_
    refine G_Law_size hkv hc hw wd_496 (dq tk_Law_make 15 rfl) ?_
    refine lv_icmp_ge (tgt := 67) hx hb (dq tk_Law_make 16 rfl) (by decide) (fun c1 => ?_) (fun c1 => ?_)
    · replace hf := if_t hf c1
      refine lv_aload_n hx hb (dq tk_Law_make 37 rfl) rfl (lv_at hl 0 rfl) ?_
      refine G_Law_spanOf hkv hc hw wd_498 (dq tk_Law_make 38 rfl) ?_
      refine lv_iconst (v := 0) hx hb (dq tk_Law_make 39 rfl) (by decide) ?_
      refine lv_iconst (v := 1) hx hb (dq tk_Law_make 40 rfl) (by decide) ?_
      obtain ⟨σ1, hσ1, hf⟩ := nm_some hf
      refine AS_Law_spanOf hkv hc hw (by decide) hσ1 (dq tk_Law_make 41 rfl) (fun H locs hw => ?_)
      refine lv_iconst (v := (-1)) hx hb (dq tk_Law_make 42 rfl) (by decide) ?_
      refine lv_istore_n (lv' := [(2, .int (-1)), (0, .ref (Z.1 + (197 + 187 * kv)))]) hx hb (dq tk_Law_make 43 rfl) rfl hl (by decide) rfl (fun ls hl => ?_)
      refine lv_iconst (v := 0) hx hb (dq tk_Law_make 44 rfl) (by decide) ?_
      refine lv_istore_n (lv' := [(3, .int 0), (2, .int (-1)), (0, .ref (Z.1 + (197 + 187 * kv)))]) hx hb (dq tk_Law_make 45 rfl) rfl hl (by decide) rfl (fun ls hl => ?_)
      exact w_Law_make_78 hc hr hR hkv N hw (lv_sub hl [2, 1, 0] rfl) hf
    · replace hf := if_f hf c1
      refine lv_aload_n hx hb (dq tk_Law_make 17 rfl) rfl (lv_at hl 0 rfl) ?_
      refine G_Law_spanOf hkv hc hw wd_498 (dq tk_Law_make 18 rfl) ?_
      refine lv_aload_n hx hb (dq tk_Law_make 19 rfl) rfl (lv_at hl 0 rfl) ?_
      refine G_Law_acts hkv hc hw wd_495 (dq tk_Law_make 20 rfl) ?_
      refine lv_iload_n hx hb (dq tk_Law_make 21 rfl) rfl (lv_at hl 1 rfl) ?_
      obtain ⟨c2, hf⟩ := chk_some hf
      refine AL_X_acts hc hw c2 (dq tk_Law_make 22 rfl) ?_
      refine G_Act_from (inb_lt c2) hc hw wd_444 (dq tk_Law_make 23 rfl) ?_
      refine lv_iconst (v := 1) hx hb (dq tk_Law_make 24 rfl) (by decide) ?_
      obtain ⟨c3, hf⟩ := chk_some hf
      obtain ⟨σ2, hσ2, hf⟩ := nm_some hf
      refine AS_Law_spanOf hkv hc hw c3 hσ2 (dq tk_Law_make 25 rfl) (fun H locs hw => ?_)
      refine lv_aload_n hx hb (dq tk_Law_make 26 rfl) rfl (lv_at hl 0 rfl) ?_
      refine G_Law_spanOf hkv hc hw wd_498 (dq tk_Law_make 27 rfl) ?_
      refine lv_aload_n hx hb (dq tk_Law_make 28 rfl) rfl (lv_at hl 0 rfl) ?_
      refine G_Law_acts hkv hc hw wd_495 (dq tk_Law_make 29 rfl) ?_
      refine lv_iload_n hx hb (dq tk_Law_make 30 rfl) rfl (lv_at hl 1 rfl) ?_
      refine AL_X_acts hc hw c2 (dq tk_Law_make 31 rfl) ?_
      refine G_Act_to (inb_lt c2) hc hw wd_446 (dq tk_Law_make 32 rfl) ?_
      refine lv_iconst (v := 1) hx hb (dq tk_Law_make 33 rfl) (by decide) ?_
      obtain ⟨c4, hf⟩ := chk_some hf
      obtain ⟨σ3, hσ3, hf⟩ := nm_some hf
      refine AS_Law_spanOf hkv hc hw c4 hσ3 (dq tk_Law_make 34 rfl) (fun H locs hw => ?_)
      refine lv_iinc (v := (x2 + 1)) (lv' := [(2, .int (x2 + 1)), (0, .ref (Z.1 + (197 + 187 * kv)))]) hx hb (dq tk_Law_make 35 rfl) hl (k := 1) rfl rfl (by decide) rfl (fun ls hl => ?_)
      refine lv_goto (tgt := 23) hx hb (dq tk_Law_make 36 rfl) (by decide) ?_
      exact ih hw (lv_sub hl [1, 0] rfl) hf
set_option maxRecDepth 10000 in
theorem w_Law_make {N : Nat} {kv : Nat} (hc : Cxz p s m meth c args prog_7_method_3_code "LabourExchange$Law" 4 Z) (hr : meth.sig.returnType = none) (hR : RO R 5) (hkv : kv < 2) {σ' : St} : ∀ {x1 : Int32} {σ : St} {H : Heap} {locs : List Loc} {ls : Array Slot}, Wd Z (cmb σ μ) s H locs → lv_has ls 4 [(0, .ref (Z.1 + (197 + 187 * kv))), (1, .int x1)] → fLaw_make N kv x1 σ = some σ' → W p l e R s m args below meth c H locs 0 0 (MQ below (Qr Z none True (cmb σ' μ)) args s 0 0 (fun q => Z.1 ≤ q)) (F0 m 0 ls []) := by
  have hx := hc.hx
  have hb := hc.hb
  intro x1 σ H locs ls hw hl hf
  unfold fLaw_make at hf
  refine lv_aload_n hx hb (dq tk_Law_make 0 rfl) rfl (lv_at hl 0 rfl) ?_
  refine lv_iload_n hx hb (dq tk_Law_make 1 rfl) rfl (lv_at hl 1 rfl) ?_
  refine lv_aload_n hx hb (dq tk_Law_make 2 rfl) rfl (lv_at hl 0 rfl) ?_
  refine G_Law_acts hkv hc hw wd_495 (dq tk_Law_make 3 rfl) ?_
  refine LN_X_acts hc hw (dq tk_Law_make 4 rfl) ?_
  obtain ⟨r1, h5, hf⟩ := bn1_someZ hf
  refine K_Math_min_I hc hw wd_756 h5 (hR.mono (by decide)) ⟨Nat.zero_le _, Nat.zero_le _⟩ hl.1 (Nat.le_of_ble_eq_true rfl) (dq tk_Law_make 5 rfl) (fun H locs hw _ => ?_)
  obtain ⟨σ2, hσ2, hf⟩ := nm_some hf
  refine P_Law_size hkv hc hw wd_496 hσ2 (dq tk_Law_make 6 rfl) (fun H locs hw => ?_)
  refine lv_aload_n hx hb (dq tk_Law_make 7 rfl) rfl (lv_at hl 0 rfl) ?_
  refine G_Law_spanOf hkv hc hw wd_498 (dq tk_Law_make 8 rfl) ?_
  refine lv_iconst (v := 0) hx hb (dq tk_Law_make 9 rfl) (by decide) ?_
  obtain ⟨σ3, h10, hf⟩ := bn1_someZ hf
  refine K_Arrays_fill_Law_spanOf hc hw hkv wd_759 h10 (hR.mono (by decide)) ⟨Nat.zero_le _, Nat.zero_le _⟩ hl.1 (Nat.le_of_ble_eq_true rfl) (dq tk_Law_make 10 rfl) (fun H locs hw _ => ?_)
  refine lv_iconst (v := 0) hx hb (dq tk_Law_make 11 rfl) (by decide) ?_
  refine lv_istore_n (lv' := [(2, .int 0), (0, .ref (Z.1 + (197 + 187 * kv))), (1, .int x1)]) hx hb (dq tk_Law_make 12 rfl) rfl hl (by decide) rfl (fun ls hl => ?_)
  exact w_Law_make_23 hc hr hR hkv N hw (lv_sub hl [1, 0] rfl) hf
theorem c_Law_make {N : Nat} {kv : Nat}  {x1 : Int32} {σ' : St} {σ : St} (hkv : kv < 2) (hf : fLaw_make N kv x1 σ = some σ') : Ct l Z y_Law_make prog_7_method_3_code 4 none (rmo (5)) [.ref (Z.1 + (197 + 187 * kv)), .int x1] (cmb σ μ) none True (cmb σ' μ) := by
  refine x_met (by decide) (Nat.le_of_ble_eq_true rfl) (fun p e s m args below meth c ls hc hr hw hl => ?_)
  exact w_Law_make hc hr RO.self hkv hw hl hf
theorem K_Law_make {idx : Nat} {N : Nat} {kv : Nat}  {x1 : Int32} {σ' : St} {σ : St} (hc : Cxz p s m meth c args cc own nL Z) (hw : Wd Z (cmb σ μ) s H locs) (hkv : kv < 2) (hl : Cond.methodLink own idx y_Law_make ∈ TB) (hf : fLaw_make N kv x1 σ = some σ') (hR : RO R ((5) + 1)) (hcs : cells ≤ R.cells ∧ slots ≤ R.slots) (hls : ls.size = nL) (hst : (rest.map fun v => v.category).sum ≤ 8) (hdg : decode cc pc = .ok (.invokevirtual idx, 3)) (kk : ∀ (H1 : Heap) (locs1 : List Loc), Wd Z (cmb σ' μ) s H1 locs1 → True → W p l e R s m args below meth c H1 locs1 cells slots Q (F0 m (pc + 3) ls rest)) : W p l e R s m args below meth c H locs cells slots Q (F0 m pc ls (.int x1 :: .ref (Z.1 + (197 + 187 * kv)) :: rest)) :=
  x_iv hc hw (c_Law_make hkv hf) yv_Law_make (wd_view (r := 5) hkv (by decide) (by omega)).1 (wd_view (r := 5) hkv (by decide) (by omega)).2 rfl hl (RO.call hR (by decide)) hcs rfl hls hst hdg rfl kk
set_option maxRecDepth 10000 in
theorem w_Life_begin {N : Nat} {kv kp : Nat} (hc : Cxz p s m meth c args prog_8_method_2_code "LabourExchange$Life" 1 Z) (hr : meth.sig.returnType = none) (hR : RO R 1) (hkv : kv < 2) (hkp : kp < 20) {σ' : St} : ∀ {σ : St} {H : Heap} {locs : List Loc} {ls : Array Slot}, Wd Z (cmb σ μ) s H locs → lv_has ls 1 [(0, .ref (Z.1 + (279 + 187 * kv + 5 * kp)))] → fLife_begin N kv kp σ = some σ' → W p l e R s m args below meth c H locs 0 0 (MQ below (Qr Z none True (cmb σ' μ)) args s 0 0 (fun q => Z.1 ≤ q)) (F0 m 0 ls []) := by
  have hx := hc.hx
  have hb := hc.hb
  intro σ H locs ls hw hl hf
  unfold fLife_begin at hf
  refine lv_aload_n hx hb (dq tk_Life_begin 0 rfl) rfl (lv_at hl 0 rfl) ?_
  refine lv_sipush (v := 311) hx hb (dq tk_Life_begin 1 rfl) (by decide) ?_
  obtain ⟨σ1, hσ1, hf⟩ := nm_some hf
  refine P_Life_upTo hkv hkp hc hw wd_560 hσ1 (dq tk_Life_begin 2 rfl) (fun H locs hw => ?_)
  refine lv_aload_n hx hb (dq tk_Life_begin 3 rfl) rfl (lv_at hl 0 rfl) ?_
  refine lv_iconst (v := 0) hx hb (dq tk_Life_begin 4 rfl) (by decide) ?_
  obtain ⟨σ2, hσ2, hf⟩ := nm_some hf
  refine P_Life_claimCount hkv hkp hc hw wd_562 hσ2 (dq tk_Life_begin 5 rfl) (fun H locs hw => ?_)
  refine lv_aload_n hx hb (dq tk_Life_begin 6 rfl) rfl (lv_at hl 0 rfl) ?_
  refine lv_iconst (v := 0) hx hb (dq tk_Life_begin 7 rfl) (by decide) ?_
  obtain ⟨σ3, hσ3, hf⟩ := nm_some hf
  refine P_Life_open hkv hkp hc hw wd_564 (by decide) hσ3 (dq tk_Life_begin 8 rfl) (fun H locs hw => ?_)
  refine lv_aload_n hx hb (dq tk_Life_begin 9 rfl) rfl (lv_at hl 0 rfl) ?_
  refine lv_iconst (v := (-1)) hx hb (dq tk_Life_begin 10 rfl) (by decide) ?_
  obtain ⟨σ4, hσ4, hf⟩ := nm_some hf
  refine P_Life_closedOn hkv hkp hc hw wd_566 hσ4 (dq tk_Life_begin 11 rfl) (fun H locs hw => ?_)
  refine lv_aload_n hx hb (dq tk_Life_begin 12 rfl) rfl (lv_at hl 0 rfl) ?_
  refine lv_iconst (v := 1) hx hb (dq tk_Life_begin 13 rfl) (by decide) ?_
  obtain ⟨σ5, hσ5, hf⟩ := nm_some hf
  refine P_Life_inWork hkv hkp hc hw wd_567 (by decide) hσ5 (dq tk_Life_begin 14 rfl) (fun H locs hw => ?_)
  refine lv_aload_n hx hb (dq tk_Life_begin 15 rfl) rfl (lv_at hl 0 rfl) ?_
  refine lv_iconst (v := 0) hx hb (dq tk_Life_begin 16 rfl) (by decide) ?_
  obtain ⟨σ6, hσ6, hf⟩ := nm_some hf
  refine P_Life_away hkv hkp hc hw wd_568 (by decide) hσ6 (dq tk_Life_begin 17 rfl) (fun H locs hw => ?_)
  refine lv_aload_n hx hb (dq tk_Life_begin 18 rfl) rfl (lv_at hl 0 rfl) ?_
  refine lv_iconst (v := 0) hx hb (dq tk_Life_begin 19 rfl) (by decide) ?_
  obtain ⟨σ7, hσ7, hf⟩ := nm_some hf
  refine P_Life_daysShort hkv hkp hc hw wd_569 hσ7 (dq tk_Life_begin 20 rfl) (fun H locs hw => ?_)
  refine lv_aload_n hx hb (dq tk_Life_begin 21 rfl) rfl (lv_at hl 0 rfl) ?_
  refine lv_iconst (v := (-1)) hx hb (dq tk_Life_begin 22 rfl) (by decide) ?_
  obtain ⟨σ8, hσ8, hf⟩ := nm_some hf
  refine P_Life_barredTo hkv hkp hc hw wd_570 hσ8 (dq tk_Life_begin 23 rfl) (fun H locs hw => ?_)
  refine lv_aload_n hx hb (dq tk_Life_begin 24 rfl) rfl (lv_at hl 0 rfl) ?_
  refine lv_iconst (v := (-1)) hx hb (dq tk_Life_begin 25 rfl) (by decide) ?_
  obtain ⟨σ9, hσ9, hf⟩ := nm_some hf
  refine P_Life_leftOn hkv hkp hc hw wd_571 hσ9 (dq tk_Life_begin 26 rfl) (fun H locs hw => ?_)
  refine lv_aload_n hx hb (dq tk_Life_begin 27 rfl) rfl (lv_at hl 0 rfl) ?_
  refine lv_iconst (v := 0) hx hb (dq tk_Life_begin 28 rfl) (by decide) ?_
  obtain ⟨σ10, hσ10, hf⟩ := nm_some hf
  refine P_Life_reason hkv hkp hc hw wd_572 hσ10 (dq tk_Life_begin 29 rfl) (fun H locs hw => ?_)
  refine lv_aload_n hx hb (dq tk_Life_begin 30 rfl) rfl (lv_at hl 0 rfl) ?_
  refine lv_aload_n hx hb (dq tk_Life_begin 31 rfl) rfl (lv_at hl 0 rfl) ?_
  refine G_Life_land hkv hkp hc hw wd_547 (dq tk_Life_begin 32 rfl) ?_
  refine G_Land_wage hc hw wd_100 (dq tk_Life_begin 33 rfl) ?_
  refine lv_aload_n hx hb (dq tk_Life_begin 34 rfl) rfl (lv_at hl 0 rfl) ?_
  refine G_Life_person hkv hkp hc hw wd_545 (dq tk_Life_begin 35 rfl) ?_
  obtain ⟨c1, hf⟩ := chk_some hf
  refine AL_Land_wage hc hw c1 (dq tk_Life_begin 36 rfl) ?_
  obtain ⟨σ11, hσ11, hf⟩ := nm_some hf
  refine P_Life_usual hkv hkp hc hw wd_573 hσ11 (dq tk_Life_begin 37 rfl) (fun H locs hw => ?_)
  refine lv_aload_n hx hb (dq tk_Life_begin 38 rfl) rfl (lv_at hl 0 rfl) ?_
  refine lv_iconst (v := 0) hx hb (dq tk_Life_begin 39 rfl) (by decide) ?_
  obtain ⟨σ12, hσ12, hf⟩ := nm_some hf
  refine P_Life_means hkv hkp hc hw wd_574 hσ12 (dq tk_Life_begin 40 rfl) (fun H locs hw => ?_)
  refine lv_aload_n hx hb (dq tk_Life_begin 41 rfl) rfl (lv_at hl 0 rfl) ?_
  refine G_Life_totals hkv hkp hc hw wd_556 (dq tk_Life_begin 42 rfl) ?_
  refine lv_iconst (v := 0) hx hb (dq tk_Life_begin 43 rfl) (by decide) ?_
  obtain ⟨σ13, h44, hf⟩ := bn1_someZ hf
  refine K_Arrays_fill_Life_totals hc hw hkv hkp wd_787 h44 (hR.mono (by decide)) ⟨Nat.zero_le _, Nat.zero_le _⟩ hl.1 (Nat.le_of_ble_eq_true rfl) (dq tk_Life_begin 44 rfl) (fun H locs hw _ => ?_)
  cases hf
  exact x_vret hc hw hr (dq tk_Life_begin 45 rfl)
theorem c_Life_begin {N : Nat} {kv kp : Nat}  {σ' : St} {σ : St} (hkv : kv < 2) (hkp : kp < 20) (hf : fLife_begin N kv kp σ = some σ') : Ct l Z y_Life_begin prog_8_method_2_code 1 none (rmo (1)) [.ref (Z.1 + (279 + 187 * kv + 5 * kp))] (cmb σ μ) none True (cmb σ' μ) := by
  refine x_met (by decide) (Nat.le_of_ble_eq_true rfl) (fun p e s m args below meth c ls hc hr hw hl => ?_)
  exact w_Life_begin hc hr RO.self hkv hkp hw hl hf
theorem K_Life_begin {idx : Nat} {N : Nat} {kv kp : Nat}  {σ' : St} {σ : St} (hc : Cxz p s m meth c args cc own nL Z) (hw : Wd Z (cmb σ μ) s H locs) (hkv : kv < 2) (hkp : kp < 20) (hl : Cond.methodLink own idx y_Life_begin ∈ TB) (hf : fLife_begin N kv kp σ = some σ') (hR : RO R ((1) + 1)) (hcs : cells ≤ R.cells ∧ slots ≤ R.slots) (hls : ls.size = nL) (hst : (rest.map fun v => v.category).sum ≤ 8) (hdg : decode cc pc = .ok (.invokevirtual idx, 3)) (kk : ∀ (H1 : Heap) (locs1 : List Loc), Wd Z (cmb σ' μ) s H1 locs1 → True → W p l e R s m args below meth c H1 locs1 cells slots Q (F0 m (pc + 3) ls rest)) : W p l e R s m args below meth c H locs cells slots Q (F0 m pc ls (.ref (Z.1 + (279 + 187 * kv + 5 * kp)) :: rest)) :=
  x_iv hc hw (c_Life_begin hkv hkp hf) yv_Life_begin (wd_life (r := 0) hkv hkp (by decide) (by omega)).1 (wd_life (r := 0) hkv hkp (by decide) (by omega)).2 rfl hl (RO.call hR (by decide)) hcs rfl hls hst hdg rfl kk
set_option maxRecDepth 10000 in
theorem w_Life_rowOfLatest {N : Nat} {kv kp : Nat} (hc : Cxz p s m meth c args prog_8_method_17_code "LabourExchange$Life" 1 Z) (hr : meth.sig.returnType = (some .int)) (hR : RO R 1) (hkv : kv < 2) (hkp : kp < 20) {rv : Int32} {σ : St} : ∀ {H : Heap} {locs : List Loc} {ls : Array Slot}, Wd Z (cmb σ μ) s H locs → lv_has ls 1 [(0, .ref (Z.1 + (279 + 187 * kv + 5 * kp)))] → fLife_rowOfLatest N kv kp σ = some rv → W p l e R s m args below meth c H locs 0 0 (MQ below (Qr Z (some (.int rv)) True (cmb σ μ)) args s 0 0 (fun q => Z.1 ≤ q)) (F0 m 0 ls []) := by
  have hx := hc.hx
  have hb := hc.hb
  intro H locs ls hw hl hf
  unfold fLife_rowOfLatest at hf
  refine lv_iconst (v := 0) hx hb (dq tk_Life_rowOfLatest 0 rfl) (by decide) ?_
  refine lv_aload_n hx hb (dq tk_Life_rowOfLatest 1 rfl) rfl (lv_at hl 0 rfl) ?_
  refine G_Life_claimCount hkv hkp hc hw wd_562 (dq tk_Life_rowOfLatest 2 rfl) ?_
  refine lv_iconst (v := 1) hx hb (dq tk_Life_rowOfLatest 3 rfl) (by decide) ?_
  refine lv_isub hx hb (dq tk_Life_rowOfLatest 4 rfl) ?_
  obtain ⟨r1, h5, hf⟩ := bn1_someZ hf
  refine K_Math_max_I hc hw wd_829 h5 (hR.mono (by decide)) ⟨Nat.zero_le _, Nat.zero_le _⟩ hl.1 (Nat.le_of_ble_eq_true rfl) (dq tk_Life_rowOfLatest 5 rfl) (fun H locs hw _ => ?_)
  refine lv_bipush (v := 11) hx hb (dq tk_Life_rowOfLatest 6 rfl) (by decide) ?_
  refine lv_imul hx hb (dq tk_Life_rowOfLatest 7 rfl) ?_
  cases hf
  exact x_iret hc hw hr (dq tk_Life_rowOfLatest 8 rfl)
theorem c_Life_rowOfLatest {N : Nat} {kv kp : Nat}  {rv : Int32} {σ : St} (hkv : kv < 2) (hkp : kp < 20) (hf : fLife_rowOfLatest N kv kp σ = some rv) : Ct l Z y_Life_rowOfLatest prog_8_method_17_code 1 (some .int) (rmo (1)) [.ref (Z.1 + (279 + 187 * kv + 5 * kp))] (cmb σ μ) (some (.int rv)) True (cmb σ μ) := by
  refine x_met (by decide) (Nat.le_of_ble_eq_true rfl) (fun p e s m args below meth c ls hc hr hw hl => ?_)
  exact w_Life_rowOfLatest hc hr RO.self hkv hkp hw hl hf
theorem K_Life_rowOfLatest {idx : Nat} {N : Nat} {kv kp : Nat}  {rv : Int32} {σ : St} (hc : Cxz p s m meth c args cc own nL Z) (hw : Wd Z (cmb σ μ) s H locs) (hkv : kv < 2) (hkp : kp < 20) (hl : Cond.methodLink own idx y_Life_rowOfLatest ∈ TB) (hf : fLife_rowOfLatest N kv kp σ = some rv) (hR : RO R ((1) + 1)) (hcs : cells ≤ R.cells ∧ slots ≤ R.slots) (hls : ls.size = nL) (hst : (rest.map fun v => v.category).sum ≤ 8) (hdg : decode cc pc = .ok (.invokevirtual idx, 3)) (kk : ∀ (H1 : Heap) (locs1 : List Loc), Wd Z (cmb σ μ) s H1 locs1 → True → W p l e R s m args below meth c H1 locs1 cells slots Q (F0 m (pc + 3) ls (.int rv :: rest))) : W p l e R s m args below meth c H locs cells slots Q (F0 m pc ls (.ref (Z.1 + (279 + 187 * kv + 5 * kp)) :: rest)) :=
  x_iv hc hw (c_Life_rowOfLatest hkv hkp hf) yv_Life_rowOfLatest (wd_life (r := 0) hkv hkp (by decide) (by omega)).1 (wd_life (r := 0) hkv hkp (by decide) (by omega)).2 rfl hl (RO.call hR (by decide)) hcs rfl hls hst hdg rfl kk
set_option maxRecDepth 10000 in
theorem w_Law_param {N : Nat} {kv : Nat} (hc : Cxz p s m meth c args prog_7_method_7_code "LabourExchange$Law" 3 Z) (hr : meth.sig.returnType = (some .int)) (hR : RO R 0) (hkv : kv < 2) {rv : Int32} {σ : St} : ∀ {x1 : Int32} {x2 : Int32} {H : Heap} {locs : List Loc} {ls : Array Slot}, Wd Z (cmb σ μ) s H locs → lv_has ls 3 [(0, .ref (Z.1 + (197 + 187 * kv))), (1, .int x1), (2, .int x2)] → fLaw_param N kv x1 x2 σ = some rv → W p l e R s m args below meth c H locs 0 0 (MQ below (Qr Z (some (.int rv)) True (cmb σ μ)) args s 0 0 (fun q => Z.1 ≤ q)) (F0 m 0 ls []) := by
  have hx := hc.hx
  have hb := hc.hb
  intro x1 x2 H locs ls hw hl hf
  unfold fLaw_param at hf
  refine lv_aload_n hx hb (dq tk_Law_param 0 rfl) rfl (lv_at hl 0 rfl) ?_
  refine G_Law_params hkv hc hw wd_499 (dq tk_Law_param 1 rfl) ?_
  refine lv_aload_n hx hb (dq tk_Law_param 2 rfl) rfl (lv_at hl 0 rfl) ?_
  refine G_Law_spanOf hkv hc hw wd_498 (dq tk_Law_param 3 rfl) ?_
  refine lv_iload_n hx hb (dq tk_Law_param 4 rfl) rfl (lv_at hl 2 rfl) ?_
  obtain ⟨c1, hf⟩ := chk_some hf
  refine AL_Law_spanOf hkv hc hw c1 (dq tk_Law_param 5 rfl) ?_
  obtain ⟨c2, hf⟩ := chk_some hf
  refine AL_Law_params hkv hc hw c2 (dq tk_Law_param 6 rfl) ?_
  refine lv_iload_n hx hb (dq tk_Law_param 7 rfl) rfl (lv_at hl 1 rfl) ?_
  obtain ⟨c3, hf⟩ := chk_some hf
  refine AL_Law_paramsr hkv (inb_lt c2) hc hw c3 (dq tk_Law_param 8 rfl) ?_
  cases hf
  exact x_iret hc hw hr (dq tk_Law_param 9 rfl)
theorem c_Law_param {N : Nat} {kv : Nat}  {x1 : Int32} {x2 : Int32} {rv : Int32} {σ : St} (hkv : kv < 2) (hf : fLaw_param N kv x1 x2 σ = some rv) : Ct l Z y_Law_param prog_7_method_7_code 3 (some .int) (rmo (0)) [.ref (Z.1 + (197 + 187 * kv)), .int x1, .int x2] (cmb σ μ) (some (.int rv)) True (cmb σ μ) := by
  refine x_met (by decide) (Nat.le_of_ble_eq_true rfl) (fun p e s m args below meth c ls hc hr hw hl => ?_)
  exact w_Law_param hc hr RO.self hkv hw hl hf
theorem K_Law_param {idx : Nat} {N : Nat} {kv : Nat}  {x1 : Int32} {x2 : Int32} {rv : Int32} {σ : St} (hc : Cxz p s m meth c args cc own nL Z) (hw : Wd Z (cmb σ μ) s H locs) (hkv : kv < 2) (hl : Cond.methodLink own idx y_Law_param ∈ TB) (hf : fLaw_param N kv x1 x2 σ = some rv) (hR : RO R ((0) + 1)) (hcs : cells ≤ R.cells ∧ slots ≤ R.slots) (hls : ls.size = nL) (hst : (rest.map fun v => v.category).sum ≤ 8) (hdg : decode cc pc = .ok (.invokevirtual idx, 3)) (kk : ∀ (H1 : Heap) (locs1 : List Loc), Wd Z (cmb σ μ) s H1 locs1 → True → W p l e R s m args below meth c H1 locs1 cells slots Q (F0 m (pc + 3) ls (.int rv :: rest))) : W p l e R s m args below meth c H locs cells slots Q (F0 m pc ls (.int x2 :: .int x1 :: .ref (Z.1 + (197 + 187 * kv)) :: rest)) :=
  x_iv hc hw (c_Law_param hkv hf) yv_Law_param (wd_view (r := 5) hkv (by decide) (by omega)).1 (wd_view (r := 5) hkv (by decide) (by omega)).2 rfl hl (RO.call hR (by decide)) hcs rfl hls hst hdg rfl kk
set_option maxRecDepth 10000 in
theorem w_Life_stampsAhead_17 {N : Nat} {kv kp : Nat} (hc : Cxz p s m meth c args prog_8_method_22_code "LabourExchange$Life" 5 Z) (hr : meth.sig.returnType = (some .int)) (hR : RO R 1) (hkv : kv < 2) (hkp : kp < 20) {rv : Int32} {σ : St} (n : Nat) : ∀ {x2 : Int32} {x3 : Int32} {x4 : Int32} {H : Heap} {locs : List Loc} {ls : Array Slot}, Wd Z (cmb σ μ) s H locs → lv_has ls 5 [(0, .ref (Z.1 + (279 + 187 * kv + 5 * kp))), (2, .int x2), (3, .int x3), (4, .int x4)] → fLife_stampsAhead_17 N kv kp n x2 x3 x4 σ = some rv → W p l e R s m args below meth c H locs 0 0 (MQ below (Qr Z (some (.int rv)) True (cmb σ μ)) args s 0 0 (fun q => Z.1 ≤ q)) (F0 m 17 ls []) := by
  have hx := hc.hx
  have hb := hc.hb
  induction n with
  | zero =>
    intro x2 x3 x4 H locs ls hw hl hf
    have hf : none = some _ := hf
    cases hf
  | succ n ih =>
    intro x2 x3 x4 H locs ls hw hl hf
    unfold fLife_stampsAhead_17 at hf
    refine lv_iload hx hb (dq tk_Life_stampsAhead 12 rfl) (lv_at hl 3 rfl) ?_
    refine lv_iload_n hx hb (dq tk_Life_stampsAhead 13 rfl) rfl (lv_at hl 2 rfl) ?_
    refine lv_icmp_ge (tgt := 43) hx hb (dq tk_Life_stampsAhead 14 rfl) (by decide) (fun c1 => ?_) (fun c1 => ?_)
    · replace hf := if_t hf c1
      refine lv_iload_n hx hb (dq tk_Life_stampsAhead 26 rfl) rfl (lv_at hl 1 rfl) ?_
      cases hf
      exact x_iret hc hw hr (dq tk_Life_stampsAhead 27 rfl)
    · replace hf := if_f hf c1
      refine lv_iload_n hx hb (dq tk_Life_stampsAhead 15 rfl) rfl (lv_at hl 1 rfl) ?_
      refine lv_iconst (v := 0) hx hb (dq tk_Life_stampsAhead 16 rfl) (by decide) ?_
      refine lv_aload_n hx hb (dq tk_Life_stampsAhead 17 rfl) rfl (lv_at hl 0 rfl) ?_
      refine G_Life_stamps hkv hkp hc hw wd_554 (dq tk_Life_stampsAhead 18 rfl) ?_
      refine lv_iload hx hb (dq tk_Life_stampsAhead 19 rfl) (lv_at hl 3 rfl) ?_
      obtain ⟨c2, hf⟩ := chk_some hf
      refine AL_Life_stamps hkv hkp hc hw c2 (dq tk_Life_stampsAhead 20 rfl) ?_
      obtain ⟨r1, h21, hf⟩ := bn1_someZ hf
      refine K_Math_max_I hc hw wd_829 h21 (hR.mono (by decide)) ⟨Nat.zero_le _, Nat.zero_le _⟩ hl.1 (Nat.le_of_ble_eq_true rfl) (dq tk_Life_stampsAhead 21 rfl) (fun H locs hw _ => ?_)
      refine lv_iadd hx hb (dq tk_Life_stampsAhead 22 rfl) ?_
      obtain ⟨y2, hy2, hf⟩ := nm_some hf
      refine tst (congrArg Value.int hy2) ?_
      refine lv_istore_n (lv' := [(2, .int y2), (0, .ref (Z.1 + (279 + 187 * kv + 5 * kp))), (3, .int x3), (4, .int x4)]) hx hb (dq tk_Life_stampsAhead 23 rfl) rfl hl (by decide) rfl (fun ls hl => ?_)
      refine lv_iinc (v := (x4 + 1)) (lv' := [(4, .int (x4 + 1)), (2, .int y2), (0, .ref (Z.1 + (279 + 187 * kv + 5 * kp))), (3, .int x3)]) hx hb (dq tk_Life_stampsAhead 24 rfl) hl (k := 3) rfl rfl (by decide) rfl (fun ls hl => ?_)
      refine lv_goto (tgt := 17) hx hb (dq tk_Life_stampsAhead 25 rfl) (by decide) ?_
      exact ih hw (lv_sub hl [2, 1, 3, 0] rfl) hf
set_option maxRecDepth 10000 in
theorem w_Life_stampsAhead {N : Nat} {kv kp : Nat} (hc : Cxz p s m meth c args prog_8_method_22_code "LabourExchange$Life" 5 Z) (hr : meth.sig.returnType = (some .int)) (hR : RO R 1) (hkv : kv < 2) (hkp : kp < 20) {rv : Int32} {σ : St} : ∀ {x1 : Int32} {H : Heap} {locs : List Loc} {ls : Array Slot}, Wd Z (cmb σ μ) s H locs → lv_has ls 5 [(0, .ref (Z.1 + (279 + 187 * kv + 5 * kp))), (1, .int x1)] → fLife_stampsAhead N kv kp x1 σ = some rv → W p l e R s m args below meth c H locs 0 0 (MQ below (Qr Z (some (.int rv)) True (cmb σ μ)) args s 0 0 (fun q => Z.1 ≤ q)) (F0 m 0 ls []) := by
  have hx := hc.hx
  have hb := hc.hb
  intro x1 H locs ls hw hl hf
  unfold fLife_stampsAhead at hf
  refine lv_iconst (v := 0) hx hb (dq tk_Life_stampsAhead 0 rfl) (by decide) ?_
  refine lv_istore_n (lv' := [(2, .int 0), (0, .ref (Z.1 + (279 + 187 * kv + 5 * kp))), (1, .int x1)]) hx hb (dq tk_Life_stampsAhead 1 rfl) rfl hl (by decide) rfl (fun ls hl => ?_)
  refine lv_iload_n hx hb (dq tk_Life_stampsAhead 2 rfl) rfl (lv_at hl 2 rfl) ?_
  refine lv_bipush (v := 6) hx hb (dq tk_Life_stampsAhead 3 rfl) (by decide) ?_
  refine lv_idiv hx hb (dq tk_Life_stampsAhead 4 rfl) (by decide) ?_
  obtain ⟨y1, hy1, hf⟩ := nm_some hf
  refine tst (congrArg Value.int hy1) ?_
  refine lv_istore_n (lv' := [(3, .int y1), (2, .int 0), (0, .ref (Z.1 + (279 + 187 * kv + 5 * kp))), (1, .int x1)]) hx hb (dq tk_Life_stampsAhead 5 rfl) rfl hl (by decide) rfl (fun ls hl => ?_)
  refine lv_iconst (v := 0) hx hb (dq tk_Life_stampsAhead 6 rfl) (by decide) ?_
  refine lv_iload_n hx hb (dq tk_Life_stampsAhead 7 rfl) rfl (lv_at hl 0 rfl) ?_
  refine lv_bipush (v := 52) hx hb (dq tk_Life_stampsAhead 8 rfl) (by decide) ?_
  refine lv_isub hx hb (dq tk_Life_stampsAhead 9 rfl) ?_
  obtain ⟨r2, h10, hf⟩ := bn1_someZ hf
  refine K_Math_max_I hc hw wd_829 h10 (hR.mono (by decide)) ⟨Nat.zero_le _, Nat.zero_le _⟩ hl.1 (Nat.le_of_ble_eq_true rfl) (dq tk_Life_stampsAhead 10 rfl) (fun H locs hw _ => ?_)
  refine lv_istore (lv' := [(4, .int r2), (3, .int y1), (2, .int 0), (0, .ref (Z.1 + (279 + 187 * kv + 5 * kp))), (1, .int x1)]) hx hb (dq tk_Life_stampsAhead 11 rfl) hl (by decide) rfl (fun ls hl => ?_)
  exact w_Life_stampsAhead_17 hc hr hR hkv hkp N hw (lv_sub hl [3, 2, 1, 0] rfl) hf
theorem c_Life_stampsAhead {N : Nat} {kv kp : Nat}  {x1 : Int32} {rv : Int32} {σ : St} (hkv : kv < 2) (hkp : kp < 20) (hf : fLife_stampsAhead N kv kp x1 σ = some rv) : Ct l Z y_Life_stampsAhead prog_8_method_22_code 5 (some .int) (rmo (1)) [.ref (Z.1 + (279 + 187 * kv + 5 * kp)), .int x1] (cmb σ μ) (some (.int rv)) True (cmb σ μ) := by
  refine x_met (by decide) (Nat.le_of_ble_eq_true rfl) (fun p e s m args below meth c ls hc hr hw hl => ?_)
  exact w_Life_stampsAhead hc hr RO.self hkv hkp hw hl hf
theorem K_Life_stampsAhead {idx : Nat} {N : Nat} {kv kp : Nat}  {x1 : Int32} {rv : Int32} {σ : St} (hc : Cxz p s m meth c args cc own nL Z) (hw : Wd Z (cmb σ μ) s H locs) (hkv : kv < 2) (hkp : kp < 20) (hl : Cond.methodLink own idx y_Life_stampsAhead ∈ TB) (hf : fLife_stampsAhead N kv kp x1 σ = some rv) (hR : RO R ((1) + 1)) (hcs : cells ≤ R.cells ∧ slots ≤ R.slots) (hls : ls.size = nL) (hst : (rest.map fun v => v.category).sum ≤ 8) (hdg : decode cc pc = .ok (.invokevirtual idx, 3)) (kk : ∀ (H1 : Heap) (locs1 : List Loc), Wd Z (cmb σ μ) s H1 locs1 → True → W p l e R s m args below meth c H1 locs1 cells slots Q (F0 m (pc + 3) ls (.int rv :: rest))) : W p l e R s m args below meth c H locs cells slots Q (F0 m pc ls (.int x1 :: .ref (Z.1 + (279 + 187 * kv + 5 * kp)) :: rest)) :=
  x_iv hc hw (c_Life_stampsAhead hkv hkp hf) yv_Life_stampsAhead (wd_life (r := 0) hkv hkp (by decide) (by omega)).1 (wd_life (r := 0) hkv hkp (by decide) (by omega)).2 rfl hl (RO.call hR (by decide)) hcs rfl hls hst hdg rfl kk
set_option maxRecDepth 10000 in
theorem w_Life_unknownAhead_40 {N : Nat} {kv kp : Nat} (hc : Cxz p s m meth c args prog_8_method_23_code "LabourExchange$Life" 5 Z) (hr : meth.sig.returnType = (some .int)) (hR : RO R 1) (hkv : kv < 2) (hkp : kp < 20) {rv : Int32} {σ : St} {go17 : Int32 → Int32 → Int32 → St → Option Int32} (hgo17 : ∀ {x2 : Int32} {x3 : Int32} {x4 : Int32} {H : Heap} {locs : List Loc} {ls : Array Slot}, Wd Z (cmb σ μ) s H locs → lv_has ls 5 [(0, .ref (Z.1 + (279 + 187 * kv + 5 * kp))), (2, .int x2), (3, .int x3), (4, .int x4)] → go17 x2 x3 x4 σ = some rv → W p l e R s m args below meth c H locs 0 0 (MQ below (Qr Z (some (.int rv)) True (cmb σ μ)) args s 0 0 (fun q => Z.1 ≤ q)) (F0 m 17 ls [])) : ∀ {x3 : Int32} {x4 : Int32} {s0 : Int32} {s1 : Int32} {H : Heap} {locs : List Loc} {ls : Array Slot}, Wd Z (cmb σ μ) s H locs → lv_has ls 5 [(0, .ref (Z.1 + (279 + 187 * kv + 5 * kp))), (3, .int x3), (4, .int x4)] → fLife_unknownAhead_40 N kv kp go17 x3 x4 s0 s1 σ = some rv → W p l e R s m args below meth c H locs 0 0 (MQ below (Qr Z (some (.int rv)) True (cmb σ μ)) args s 0 0 (fun q => Z.1 ≤ q)) (F0 m 40 ls [.int s1, .int s0]) := by
  have hx := hc.hx
  have hb := hc.hb
  intro x3 x4 s0 s1 H locs ls hw hl hf
  unfold fLife_unknownAhead_40 at hf
  refine lv_iadd hx hb (dq tk_Life_unknownAhead 25 rfl) ?_
  obtain ⟨y1, hy1, hf⟩ := nm_some hf
  refine tst (congrArg Value.int hy1) ?_
  refine lv_istore_n (lv' := [(2, .int y1), (0, .ref (Z.1 + (279 + 187 * kv + 5 * kp))), (3, .int x3), (4, .int x4)]) hx hb (dq tk_Life_unknownAhead 26 rfl) rfl hl (by decide) rfl (fun ls hl => ?_)
  refine lv_iinc (v := (x4 + 1)) (lv' := [(4, .int (x4 + 1)), (2, .int y1), (0, .ref (Z.1 + (279 + 187 * kv + 5 * kp))), (3, .int x3)]) hx hb (dq tk_Life_unknownAhead 27 rfl) hl (k := 3) rfl rfl (by decide) rfl (fun ls hl => ?_)
  refine lv_goto (tgt := 17) hx hb (dq tk_Life_unknownAhead 28 rfl) (by decide) ?_
  exact hgo17 hw (lv_sub hl [2, 1, 3, 0] rfl) hf
set_option maxRecDepth 10000 in
theorem w_Life_unknownAhead_17 {N : Nat} {kv kp : Nat} (hc : Cxz p s m meth c args prog_8_method_23_code "LabourExchange$Life" 5 Z) (hr : meth.sig.returnType = (some .int)) (hR : RO R 1) (hkv : kv < 2) (hkp : kp < 20) {rv : Int32} {σ : St} (n : Nat) : ∀ {x2 : Int32} {x3 : Int32} {x4 : Int32} {H : Heap} {locs : List Loc} {ls : Array Slot}, Wd Z (cmb σ μ) s H locs → lv_has ls 5 [(0, .ref (Z.1 + (279 + 187 * kv + 5 * kp))), (2, .int x2), (3, .int x3), (4, .int x4)] → fLife_unknownAhead_17 N kv kp n x2 x3 x4 σ = some rv → W p l e R s m args below meth c H locs 0 0 (MQ below (Qr Z (some (.int rv)) True (cmb σ μ)) args s 0 0 (fun q => Z.1 ≤ q)) (F0 m 17 ls []) := by
  have hx := hc.hx
  have hb := hc.hb
  induction n with
  | zero =>
    intro x2 x3 x4 H locs ls hw hl hf
    have hf : none = some _ := hf
    cases hf
  | succ n ih =>
    intro x2 x3 x4 H locs ls hw hl hf
    unfold fLife_unknownAhead_17 at hf
    refine lv_iload hx hb (dq tk_Life_unknownAhead 12 rfl) (lv_at hl 3 rfl) ?_
    refine lv_iload_n hx hb (dq tk_Life_unknownAhead 13 rfl) rfl (lv_at hl 2 rfl) ?_
    refine lv_icmp_ge (tgt := 48) hx hb (dq tk_Life_unknownAhead 14 rfl) (by decide) (fun c1 => ?_) (fun c1 => ?_)
    · replace hf := if_t hf c1
      refine lv_iload_n hx hb (dq tk_Life_unknownAhead 29 rfl) rfl (lv_at hl 1 rfl) ?_
      cases hf
      exact x_iret hc hw hr (dq tk_Life_unknownAhead 30 rfl)
    · replace hf := if_f hf c1
      refine lv_iload_n hx hb (dq tk_Life_unknownAhead 15 rfl) rfl (lv_at hl 1 rfl) ?_
      refine lv_aload_n hx hb (dq tk_Life_unknownAhead 16 rfl) rfl (lv_at hl 0 rfl) ?_
      refine G_Life_stamps hkv hkp hc hw wd_554 (dq tk_Life_unknownAhead 17 rfl) ?_
      refine lv_iload hx hb (dq tk_Life_unknownAhead 18 rfl) (lv_at hl 3 rfl) ?_
      obtain ⟨c2, hf⟩ := chk_some hf
      refine AL_Life_stamps hkv hkp hc hw c2 (dq tk_Life_unknownAhead 19 rfl) ?_
      refine lv_iconst (v := (-1)) hx hb (dq tk_Life_unknownAhead 20 rfl) (by decide) ?_
      refine lv_icmp_ne (tgt := 39) hx hb (dq tk_Life_unknownAhead 21 rfl) (by decide) (fun c3 => ?_) (fun c3 => ?_)
      · replace hf := if_f hf c3
        refine lv_iconst (v := 0) hx hb (dq tk_Life_unknownAhead 24 rfl) (by decide) ?_
        exact w_Life_unknownAhead_40 hc hr hR hkv hkp ih hw (lv_sub hl [0, 2, 3] rfl) hf
      · replace hf := if_t hf c3
        refine lv_iconst (v := 1) hx hb (dq tk_Life_unknownAhead 22 rfl) (by decide) ?_
        refine lv_goto (tgt := 40) hx hb (dq tk_Life_unknownAhead 23 rfl) (by decide) ?_
        exact w_Life_unknownAhead_40 hc hr hR hkv hkp ih hw (lv_sub hl [0, 2, 3] rfl) hf
set_option maxRecDepth 10000 in
theorem w_Life_unknownAhead {N : Nat} {kv kp : Nat} (hc : Cxz p s m meth c args prog_8_method_23_code "LabourExchange$Life" 5 Z) (hr : meth.sig.returnType = (some .int)) (hR : RO R 1) (hkv : kv < 2) (hkp : kp < 20) {rv : Int32} {σ : St} : ∀ {x1 : Int32} {H : Heap} {locs : List Loc} {ls : Array Slot}, Wd Z (cmb σ μ) s H locs → lv_has ls 5 [(0, .ref (Z.1 + (279 + 187 * kv + 5 * kp))), (1, .int x1)] → fLife_unknownAhead N kv kp x1 σ = some rv → W p l e R s m args below meth c H locs 0 0 (MQ below (Qr Z (some (.int rv)) True (cmb σ μ)) args s 0 0 (fun q => Z.1 ≤ q)) (F0 m 0 ls []) := by
  have hx := hc.hx
  have hb := hc.hb
  intro x1 H locs ls hw hl hf
  unfold fLife_unknownAhead at hf
  refine lv_iconst (v := 0) hx hb (dq tk_Life_unknownAhead 0 rfl) (by decide) ?_
  refine lv_istore_n (lv' := [(2, .int 0), (0, .ref (Z.1 + (279 + 187 * kv + 5 * kp))), (1, .int x1)]) hx hb (dq tk_Life_unknownAhead 1 rfl) rfl hl (by decide) rfl (fun ls hl => ?_)
  refine lv_iload_n hx hb (dq tk_Life_unknownAhead 2 rfl) rfl (lv_at hl 2 rfl) ?_
  refine lv_bipush (v := 6) hx hb (dq tk_Life_unknownAhead 3 rfl) (by decide) ?_
  refine lv_idiv hx hb (dq tk_Life_unknownAhead 4 rfl) (by decide) ?_
  obtain ⟨y1, hy1, hf⟩ := nm_some hf
  refine tst (congrArg Value.int hy1) ?_
  refine lv_istore_n (lv' := [(3, .int y1), (2, .int 0), (0, .ref (Z.1 + (279 + 187 * kv + 5 * kp))), (1, .int x1)]) hx hb (dq tk_Life_unknownAhead 5 rfl) rfl hl (by decide) rfl (fun ls hl => ?_)
  refine lv_iconst (v := 0) hx hb (dq tk_Life_unknownAhead 6 rfl) (by decide) ?_
  refine lv_iload_n hx hb (dq tk_Life_unknownAhead 7 rfl) rfl (lv_at hl 0 rfl) ?_
  refine lv_bipush (v := 52) hx hb (dq tk_Life_unknownAhead 8 rfl) (by decide) ?_
  refine lv_isub hx hb (dq tk_Life_unknownAhead 9 rfl) ?_
  obtain ⟨r2, h10, hf⟩ := bn1_someZ hf
  refine K_Math_max_I hc hw wd_829 h10 (hR.mono (by decide)) ⟨Nat.zero_le _, Nat.zero_le _⟩ hl.1 (Nat.le_of_ble_eq_true rfl) (dq tk_Life_unknownAhead 10 rfl) (fun H locs hw _ => ?_)
  refine lv_istore (lv' := [(4, .int r2), (3, .int y1), (2, .int 0), (0, .ref (Z.1 + (279 + 187 * kv + 5 * kp))), (1, .int x1)]) hx hb (dq tk_Life_unknownAhead 11 rfl) hl (by decide) rfl (fun ls hl => ?_)
  exact w_Life_unknownAhead_17 hc hr hR hkv hkp N hw (lv_sub hl [3, 2, 1, 0] rfl) hf
theorem c_Life_unknownAhead {N : Nat} {kv kp : Nat}  {x1 : Int32} {rv : Int32} {σ : St} (hkv : kv < 2) (hkp : kp < 20) (hf : fLife_unknownAhead N kv kp x1 σ = some rv) : Ct l Z y_Life_unknownAhead prog_8_method_23_code 5 (some .int) (rmo (1)) [.ref (Z.1 + (279 + 187 * kv + 5 * kp)), .int x1] (cmb σ μ) (some (.int rv)) True (cmb σ μ) := by
  refine x_met (by decide) (Nat.le_of_ble_eq_true rfl) (fun p e s m args below meth c ls hc hr hw hl => ?_)
  exact w_Life_unknownAhead hc hr RO.self hkv hkp hw hl hf
theorem K_Life_unknownAhead {idx : Nat} {N : Nat} {kv kp : Nat}  {x1 : Int32} {rv : Int32} {σ : St} (hc : Cxz p s m meth c args cc own nL Z) (hw : Wd Z (cmb σ μ) s H locs) (hkv : kv < 2) (hkp : kp < 20) (hl : Cond.methodLink own idx y_Life_unknownAhead ∈ TB) (hf : fLife_unknownAhead N kv kp x1 σ = some rv) (hR : RO R ((1) + 1)) (hcs : cells ≤ R.cells ∧ slots ≤ R.slots) (hls : ls.size = nL) (hst : (rest.map fun v => v.category).sum ≤ 8) (hdg : decode cc pc = .ok (.invokevirtual idx, 3)) (kk : ∀ (H1 : Heap) (locs1 : List Loc), Wd Z (cmb σ μ) s H1 locs1 → True → W p l e R s m args below meth c H1 locs1 cells slots Q (F0 m (pc + 3) ls (.int rv :: rest))) : W p l e R s m args below meth c H locs cells slots Q (F0 m pc ls (.int x1 :: .ref (Z.1 + (279 + 187 * kv + 5 * kp)) :: rest)) :=
  x_iv hc hw (c_Life_unknownAhead hkv hkp hf) yv_Life_unknownAhead (wd_life (r := 0) hkv hkp (by decide) (by omega)).1 (wd_life (r := 0) hkv hkp (by decide) (by omega)).2 rfl hl (RO.call hR (by decide)) hcs rfl hls hst hdg rfl kk
set_option maxRecDepth 10000 in
theorem w_Life_setOut_214 {N : Nat} {kv kp : Nat} (hc : Cxz p s m meth c args prog_8_method_21_code "LabourExchange$Life" 4 Z) (hr : meth.sig.returnType = none) (hR : RO R 2) (hkv : kv < 2) (hkp : kp < 20) {σ' : St} : ∀ {s1 : Int32} {s2 : Int64} {σ : St} {H : Heap} {locs : List Loc} {ls : Array Slot}, Wd Z (cmb σ μ) s H locs → lv_has ls 4 [(0, .ref (Z.1 + (279 + 187 * kv + 5 * kp))), (2, .ref (Z.1 + (277 + 187 * kv)))] → fLife_setOut_214 N kv kp s1 s2 σ = some σ' → W p l e R s m args below meth c H locs 0 0 (MQ below (Qr Z none True (cmb σ' μ)) args s 0 0 (fun q => Z.1 ≤ q)) (F0 m 214 ls [.long s2, .int s1, .ref (Z.1 + (277 + 187 * kv))]) := by
  have hx := hc.hx
  have hb := hc.hb
  intro s1 s2 σ H locs ls hw hl hf
  unfold fLife_setOut_214 at hf
  obtain ⟨c1, hf⟩ := chk_some hf
  obtain ⟨σ1, hσ1, hf⟩ := nm_some hf
  refine AS_Law_values hkv hc hw c1 hσ1 (dq tk_Life_setOut 130 rfl) (fun H locs hw => ?_)
  refine lv_aload_n hx hb (dq tk_Life_setOut 131 rfl) rfl (lv_at hl 1 rfl) ?_
  refine lv_bipush (v := 15) hx hb (dq tk_Life_setOut 132 rfl) (by decide) ?_
  refine lv_aload_n hx hb (dq tk_Life_setOut 133 rfl) rfl (lv_at hl 0 rfl) ?_
  refine G_Life_means hkv hkp hc hw wd_574 (dq tk_Life_setOut 134 rfl) ?_
  refine lv_i2l hx hb (dq tk_Life_setOut 135 rfl) rfl ?_
  obtain ⟨σ2, hσ2, hf⟩ := nm_some hf
  refine AS_Law_values hkv hc hw (by decide) hσ2 (dq tk_Life_setOut 136 rfl) (fun H locs hw => ?_)
  refine lv_aload_n hx hb (dq tk_Life_setOut 137 rfl) rfl (lv_at hl 1 rfl) ?_
  refine lv_bipush (v := 16) hx hb (dq tk_Life_setOut 138 rfl) (by decide) ?_
  refine lv_aload_n hx hb (dq tk_Life_setOut 139 rfl) rfl (lv_at hl 0 rfl) ?_
  refine G_Life_reason hkv hkp hc hw wd_572 (dq tk_Life_setOut 140 rfl) ?_
  refine lv_i2l hx hb (dq tk_Life_setOut 141 rfl) rfl ?_
  obtain ⟨σ3, hσ3, hf⟩ := nm_some hf
  refine AS_Law_values hkv hc hw (by decide) hσ3 (dq tk_Life_setOut 142 rfl) (fun H locs hw => ?_)
  refine lv_aload_n hx hb (dq tk_Life_setOut 143 rfl) rfl (lv_at hl 1 rfl) ?_
  refine lv_bipush (v := 17) hx hb (dq tk_Life_setOut 144 rfl) (by decide) ?_
  refine lv_lconst (v := 0) hx hb (dq tk_Life_setOut 145 rfl) (by decide) ?_
  obtain ⟨σ4, hσ4, hf⟩ := nm_some hf
  refine AS_Law_values hkv hc hw (by decide) hσ4 (dq tk_Life_setOut 146 rfl) (fun H locs hw => ?_)
  refine lv_aload_n hx hb (dq tk_Life_setOut 147 rfl) rfl (lv_at hl 1 rfl) ?_
  refine lv_bipush (v := 18) hx hb (dq tk_Life_setOut 148 rfl) (by decide) ?_
  refine lv_lconst (v := 0) hx hb (dq tk_Life_setOut 149 rfl) (by decide) ?_
  obtain ⟨σ5, hσ5, hf⟩ := nm_some hf
  refine AS_Law_values hkv hc hw (by decide) hσ5 (dq tk_Life_setOut 150 rfl) (fun H locs hw => ?_)
  refine lv_aload_n hx hb (dq tk_Life_setOut 151 rfl) rfl (lv_at hl 1 rfl) ?_
  refine lv_bipush (v := 19) hx hb (dq tk_Life_setOut 152 rfl) (by decide) ?_
  refine lv_lconst (v := 0) hx hb (dq tk_Life_setOut 153 rfl) (by decide) ?_
  obtain ⟨σ6, hσ6, hf⟩ := nm_some hf
  refine AS_Law_values hkv hc hw (by decide) hσ6 (dq tk_Life_setOut 154 rfl) (fun H locs hw => ?_)
  cases hf
  exact x_vret hc hw hr (dq tk_Life_setOut 155 rfl)
set_option maxRecDepth 10000 in
theorem w_Life_setOut_184 {N : Nat} {kv kp : Nat} (hc : Cxz p s m meth c args prog_8_method_21_code "LabourExchange$Life" 4 Z) (hr : meth.sig.returnType = none) (hR : RO R 2) (hkv : kv < 2) (hkp : kp < 20) {σ' : St} : ∀ {x1 : Int32} {x3 : Int32} {s1 : Int32} {s2 : Int64} {σ : St} {H : Heap} {locs : List Loc} {ls : Array Slot}, Wd Z (cmb σ μ) s H locs → lv_has ls 4 [(0, .ref (Z.1 + (279 + 187 * kv + 5 * kp))), (1, .int x1), (2, .ref (Z.1 + (277 + 187 * kv))), (3, .int x3)] → fLife_setOut_184 N kv kp x1 x3 s1 s2 σ = some σ' → W p l e R s m args below meth c H locs 0 0 (MQ below (Qr Z none True (cmb σ' μ)) args s 0 0 (fun q => Z.1 ≤ q)) (F0 m 184 ls [.long s2, .int s1, .ref (Z.1 + (277 + 187 * kv))]) := by
  have hx := hc.hx
  have hb := hc.hb
  intro x1 x3 s1 s2 σ H locs ls hw hl hf
  unfold fLife_setOut_184 at hf
  obtain ⟨c1, hf⟩ := chk_some hf
  obtain ⟨σ1, hσ1, hf⟩ := nm_some hf
  refine AS_Law_values hkv hc hw c1 hσ1 (dq tk_Life_setOut 112 rfl) (fun H locs hw => ?_)
  refine lv_aload_n hx hb (dq tk_Life_setOut 113 rfl) rfl (lv_at hl 2 rfl) ?_
  refine lv_bipush (v := 14) hx hb (dq tk_Life_setOut 114 rfl) (by decide) ?_
  refine lv_aload_n hx hb (dq tk_Life_setOut 115 rfl) rfl (lv_at hl 0 rfl) ?_
  refine G_Life_open hkv hkp hc hw wd_564 (dq tk_Life_setOut 116 rfl) ?_
  refine lv_if_eq (tgt := 208) hx hb (dq tk_Life_setOut 117 rfl) (by decide) (fun c2 => ?_) (fun c2 => ?_)
  · replace hf := if_t hf c2
    refine lv_aload_n hx hb (dq tk_Life_setOut 126 rfl) rfl (lv_at hl 0 rfl) ?_
    refine lv_iload_n hx hb (dq tk_Life_setOut 127 rfl) rfl (lv_at hl 1 rfl) ?_
    obtain ⟨r2, h128, hf⟩ := bn1_someZ hf
    refine K_Life_unknownAhead hc hw hkv hkp wd_836 h128 (hR.mono (by decide)) ⟨Nat.zero_le _, Nat.zero_le _⟩ hl.1 (Nat.le_of_ble_eq_true rfl) (dq tk_Life_setOut 128 rfl) (fun H locs hw _ => ?_)
    refine lv_i2l hx hb (dq tk_Life_setOut 129 rfl) rfl ?_
    exact w_Life_setOut_214 hc hr hR hkv hkp hw (lv_sub hl [0, 2] rfl) hf
  · replace hf := if_f hf c2
    refine lv_aload_n hx hb (dq tk_Life_setOut 118 rfl) rfl (lv_at hl 0 rfl) ?_
    refine G_Life_claims hkv hkp hc hw wd_552 (dq tk_Life_setOut 119 rfl) ?_
    refine lv_iload_n hx hb (dq tk_Life_setOut 120 rfl) rfl (lv_at hl 3 rfl) ?_
    refine lv_bipush (v := 10) hx hb (dq tk_Life_setOut 121 rfl) (by decide) ?_
    refine lv_iadd hx hb (dq tk_Life_setOut 122 rfl) ?_
    obtain ⟨c3, hf⟩ := chk_some hf
    refine AL_Life_claims hkv hkp hc hw c3 (dq tk_Life_setOut 123 rfl) ?_
    refine lv_i2l hx hb (dq tk_Life_setOut 124 rfl) rfl ?_
    refine lv_goto (tgt := 214) hx hb (dq tk_Life_setOut 125 rfl) (by decide) ?_
    exact w_Life_setOut_214 hc hr hR hkv hkp hw (lv_sub hl [0, 2] rfl) hf
set_option maxRecDepth 10000 in
theorem w_Life_setOut_154 {N : Nat} {kv kp : Nat} (hc : Cxz p s m meth c args prog_8_method_21_code "LabourExchange$Life" 4 Z) (hr : meth.sig.returnType = none) (hR : RO R 2) (hkv : kv < 2) (hkp : kp < 20) {σ' : St} : ∀ {x1 : Int32} {x3 : Int32} {s1 : Int32} {s2 : Int64} {σ : St} {H : Heap} {locs : List Loc} {ls : Array Slot}, Wd Z (cmb σ μ) s H locs → lv_has ls 4 [(0, .ref (Z.1 + (279 + 187 * kv + 5 * kp))), (1, .int x1), (2, .ref (Z.1 + (277 + 187 * kv))), (3, .int x3)] → fLife_setOut_154 N kv kp x1 x3 s1 s2 σ = some σ' → W p l e R s m args below meth c H locs 0 0 (MQ below (Qr Z none True (cmb σ' μ)) args s 0 0 (fun q => Z.1 ≤ q)) (F0 m 154 ls [.long s2, .int s1, .ref (Z.1 + (277 + 187 * kv))]) := by
  have hx := hc.hx
  have hb := hc.hb
  intro x1 x3 s1 s2 σ H locs ls hw hl hf
  unfold fLife_setOut_154 at hf
  obtain ⟨c1, hf⟩ := chk_some hf
  obtain ⟨σ1, hσ1, hf⟩ := nm_some hf
  refine AS_Law_values hkv hc hw c1 hσ1 (dq tk_Life_setOut 94 rfl) (fun H locs hw => ?_)
  refine lv_aload_n hx hb (dq tk_Life_setOut 95 rfl) rfl (lv_at hl 2 rfl) ?_
  refine lv_bipush (v := 13) hx hb (dq tk_Life_setOut 96 rfl) (by decide) ?_
  refine lv_aload_n hx hb (dq tk_Life_setOut 97 rfl) rfl (lv_at hl 0 rfl) ?_
  refine G_Life_open hkv hkp hc hw wd_564 (dq tk_Life_setOut 98 rfl) ?_
  refine lv_if_eq (tgt := 178) hx hb (dq tk_Life_setOut 99 rfl) (by decide) (fun c2 => ?_) (fun c2 => ?_)
  · replace hf := if_t hf c2
    refine lv_aload_n hx hb (dq tk_Life_setOut 108 rfl) rfl (lv_at hl 0 rfl) ?_
    refine lv_iload_n hx hb (dq tk_Life_setOut 109 rfl) rfl (lv_at hl 1 rfl) ?_
    obtain ⟨r2, h110, hf⟩ := bn1_someZ hf
    refine K_Life_stampsAhead hc hw hkv hkp wd_832 h110 (hR.mono (by decide)) ⟨Nat.zero_le _, Nat.zero_le _⟩ hl.1 (Nat.le_of_ble_eq_true rfl) (dq tk_Life_setOut 110 rfl) (fun H locs hw _ => ?_)
    refine lv_i2l hx hb (dq tk_Life_setOut 111 rfl) rfl ?_
    exact w_Life_setOut_184 hc hr hR hkv hkp hw (lv_sub hl [0, 1, 2, 3] rfl) hf
  · replace hf := if_f hf c2
    refine lv_aload_n hx hb (dq tk_Life_setOut 100 rfl) rfl (lv_at hl 0 rfl) ?_
    refine G_Life_claims hkv hkp hc hw wd_552 (dq tk_Life_setOut 101 rfl) ?_
    refine lv_iload_n hx hb (dq tk_Life_setOut 102 rfl) rfl (lv_at hl 3 rfl) ?_
    refine lv_bipush (v := 9) hx hb (dq tk_Life_setOut 103 rfl) (by decide) ?_
    refine lv_iadd hx hb (dq tk_Life_setOut 104 rfl) ?_
    obtain ⟨c3, hf⟩ := chk_some hf
    refine AL_Life_claims hkv hkp hc hw c3 (dq tk_Life_setOut 105 rfl) ?_
    refine lv_i2l hx hb (dq tk_Life_setOut 106 rfl) rfl ?_
    refine lv_goto (tgt := 184) hx hb (dq tk_Life_setOut 107 rfl) (by decide) ?_
    exact w_Life_setOut_184 hc hr hR hkv hkp hw (lv_sub hl [0, 1, 2, 3] rfl) hf
set_option maxRecDepth 10000 in
theorem w_Life_setOut_112 {N : Nat} {kv kp : Nat} (hc : Cxz p s m meth c args prog_8_method_21_code "LabourExchange$Life" 4 Z) (hr : meth.sig.returnType = none) (hR : RO R 2) (hkv : kv < 2) (hkp : kp < 20) {σ' : St} : ∀ {x1 : Int32} {x3 : Int32} {s1 : Int32} {s2 : Int64} {σ : St} {H : Heap} {locs : List Loc} {ls : Array Slot}, Wd Z (cmb σ μ) s H locs → lv_has ls 4 [(0, .ref (Z.1 + (279 + 187 * kv + 5 * kp))), (1, .int x1), (2, .ref (Z.1 + (277 + 187 * kv))), (3, .int x3)] → fLife_setOut_112 N kv kp x1 x3 s1 s2 σ = some σ' → W p l e R s m args below meth c H locs 0 0 (MQ below (Qr Z none True (cmb σ' μ)) args s 0 0 (fun q => Z.1 ≤ q)) (F0 m 112 ls [.long s2, .int s1, .ref (Z.1 + (277 + 187 * kv))]) := by
  have hx := hc.hx
  have hb := hc.hb
  intro x1 x3 s1 s2 σ H locs ls hw hl hf
  unfold fLife_setOut_112 at hf
  obtain ⟨c1, hf⟩ := chk_some hf
  obtain ⟨σ1, hσ1, hf⟩ := nm_some hf
  refine AS_Law_values hkv hc hw c1 hσ1 (dq tk_Life_setOut 65 rfl) (fun H locs hw => ?_)
  refine lv_aload_n hx hb (dq tk_Life_setOut 66 rfl) rfl (lv_at hl 2 rfl) ?_
  refine lv_bipush (v := 12) hx hb (dq tk_Life_setOut 67 rfl) (by decide) ?_
  refine lv_aload_n hx hb (dq tk_Life_setOut 68 rfl) rfl (lv_at hl 0 rfl) ?_
  refine G_Life_open hkv hkp hc hw wd_564 (dq tk_Life_setOut 69 rfl) ?_
  refine lv_if_eq (tgt := 153) hx hb (dq tk_Life_setOut 70 rfl) (by decide) (fun c2 => ?_) (fun c2 => ?_)
  · replace hf := if_t hf c2
    refine lv_lconst (v := 0) hx hb (dq tk_Life_setOut 93 rfl) (by decide) ?_
    exact w_Life_setOut_154 hc hr hR hkv hkp hw (lv_sub hl [0, 1, 2, 3] rfl) hf
  · replace hf := if_f hf c2
    refine lv_aload_n hx hb (dq tk_Life_setOut 71 rfl) rfl (lv_at hl 0 rfl) ?_
    refine G_Life_claims hkv hkp hc hw wd_552 (dq tk_Life_setOut 72 rfl) ?_
    refine lv_iload_n hx hb (dq tk_Life_setOut 73 rfl) rfl (lv_at hl 3 rfl) ?_
    refine lv_iconst (v := 3) hx hb (dq tk_Life_setOut 74 rfl) (by decide) ?_
    refine lv_iadd hx hb (dq tk_Life_setOut 75 rfl) ?_
    obtain ⟨c3, hf⟩ := chk_some hf
    refine AL_Life_claims hkv hkp hc hw c3 (dq tk_Life_setOut 76 rfl) ?_
    refine lv_aload_n hx hb (dq tk_Life_setOut 77 rfl) rfl (lv_at hl 0 rfl) ?_
    refine G_Life_claims hkv hkp hc hw wd_552 (dq tk_Life_setOut 78 rfl) ?_
    refine lv_iload_n hx hb (dq tk_Life_setOut 79 rfl) rfl (lv_at hl 3 rfl) ?_
    refine lv_iconst (v := 4) hx hb (dq tk_Life_setOut 80 rfl) (by decide) ?_
    refine lv_iadd hx hb (dq tk_Life_setOut 81 rfl) ?_
    obtain ⟨c4, hf⟩ := chk_some hf
    refine AL_Life_claims hkv hkp hc hw c4 (dq tk_Life_setOut 82 rfl) ?_
    refine lv_iadd hx hb (dq tk_Life_setOut 83 rfl) ?_
    refine lv_aload_n hx hb (dq tk_Life_setOut 84 rfl) rfl (lv_at hl 0 rfl) ?_
    refine G_Life_claims hkv hkp hc hw wd_552 (dq tk_Life_setOut 85 rfl) ?_
    refine lv_iload_n hx hb (dq tk_Life_setOut 86 rfl) rfl (lv_at hl 3 rfl) ?_
    refine lv_iconst (v := 5) hx hb (dq tk_Life_setOut 87 rfl) (by decide) ?_
    refine lv_iadd hx hb (dq tk_Life_setOut 88 rfl) ?_
    obtain ⟨c5, hf⟩ := chk_some hf
    refine AL_Life_claims hkv hkp hc hw c5 (dq tk_Life_setOut 89 rfl) ?_
    refine lv_iadd hx hb (dq tk_Life_setOut 90 rfl) ?_
    refine lv_i2l hx hb (dq tk_Life_setOut 91 rfl) rfl ?_
    refine lv_goto (tgt := 154) hx hb (dq tk_Life_setOut 92 rfl) (by decide) ?_
    exact w_Life_setOut_154 hc hr hR hkv hkp hw (lv_sub hl [0, 1, 2, 3] rfl) hf
set_option maxRecDepth 10000 in
theorem w_Life_setOut_101 {N : Nat} {kv kp : Nat} (hc : Cxz p s m meth c args prog_8_method_21_code "LabourExchange$Life" 4 Z) (hr : meth.sig.returnType = none) (hR : RO R 2) (hkv : kv < 2) (hkp : kp < 20) {σ' : St} : ∀ {x1 : Int32} {x3 : Int32} {s1 : Int32} {σ : St} {H : Heap} {locs : List Loc} {ls : Array Slot}, Wd Z (cmb σ μ) s H locs → lv_has ls 4 [(0, .ref (Z.1 + (279 + 187 * kv + 5 * kp))), (1, .int x1), (2, .ref (Z.1 + (277 + 187 * kv))), (3, .int x3)] → fLife_setOut_101 N kv kp x1 x3 s1 σ = some σ' → W p l e R s m args below meth c H locs 0 0 (MQ below (Qr Z none True (cmb σ' μ)) args s 0 0 (fun q => Z.1 ≤ q)) (F0 m 101 ls [.int s1, .ref (Z.1 + (277 + 187 * kv))]) := by
  have hx := hc.hx
  have hb := hc.hb
  intro x1 x3 s1 σ H locs ls hw hl hf
  unfold fLife_setOut_101 at hf
  refine lv_lconst (v := 0) hx hb (dq tk_Life_setOut 58 rfl) (by decide) ?_
  refine lv_goto (tgt := 112) hx hb (dq tk_Life_setOut 59 rfl) (by decide) ?_
  exact w_Life_setOut_112 hc hr hR hkv hkp hw (lv_sub hl [0, 1, 2, 3] rfl) hf
set_option maxRecDepth 10000 in
theorem w_Life_setOut_10 {N : Nat} {kv kp : Nat} (hc : Cxz p s m meth c args prog_8_method_21_code "LabourExchange$Life" 4 Z) (hr : meth.sig.returnType = none) (hR : RO R 2) (hkv : kv < 2) (hkp : kp < 20) {σ' : St} (n : Nat) : ∀ {x1 : Int32} {x3 : Int32} {σ : St} {H : Heap} {locs : List Loc} {ls : Array Slot}, Wd Z (cmb σ μ) s H locs → lv_has ls 4 [(0, .ref (Z.1 + (279 + 187 * kv + 5 * kp))), (1, .int x1), (2, .ref (Z.1 + (277 + 187 * kv))), (3, .int x3)] → fLife_setOut_10 N kv kp n x1 x3 σ = some σ' → W p l e R s m args below meth c H locs 0 0 (MQ below (Qr Z none True (cmb σ' μ)) args s 0 0 (fun q => Z.1 ≤ q)) (F0 m 10 ls []) := by
  have hx := hc.hx
  have hb := hc.hb
  induction n with
  | zero =>
    intro x1 x3 σ H locs ls hw hl hf
    have hf : none = some _ := hf
    cases hf
  | succ n ih =>
    intro x1 x3 σ H locs ls hw hl hf
    unfold fLife_setOut_10 at hf
    refine lv_iload_n hx hb (dq tk_Life_setOut 6 rfl) rfl (lv_at hl 3 rfl) ?_
    refine lv_bipush (v := 8) hx hb (dq tk_Life_setOut 7 rfl) (by decide) ?_
    refine lv_icmp_ge (tgt := 35) hx hb (dq tk_Life_setOut 8 rfl) (by decide) (fun c1 => ?_) (fun c1 => ?_)
    · replace hf := if_t hf c1
      refine lv_aload_n hx hb (dq tk_Life_setOut 20 rfl) rfl (lv_at hl 0 rfl) ?_
      obtain ⟨r1, h21, hf⟩ := bn1_someZ hf
      refine K_Life_rowOfLatest hc hw hkv hkp wd_825 h21 (hR.mono (by decide)) ⟨Nat.zero_le _, Nat.zero_le _⟩ hl.1 (Nat.le_of_ble_eq_true rfl) (dq tk_Life_setOut 21 rfl) (fun H locs hw _ => ?_)
      refine lv_istore_n (lv' := [(3, .int r1), (0, .ref (Z.1 + (279 + 187 * kv + 5 * kp))), (1, .int x1), (2, .ref (Z.1 + (277 + 187 * kv)))]) hx hb (dq tk_Life_setOut 22 rfl) rfl hl (by decide) rfl (fun ls hl => ?_)
      refine lv_aload_n hx hb (dq tk_Life_setOut 23 rfl) rfl (lv_at hl 3 rfl) ?_
      refine lv_bipush (v := 8) hx hb (dq tk_Life_setOut 24 rfl) (by decide) ?_
      refine lv_aload_n hx hb (dq tk_Life_setOut 25 rfl) rfl (lv_at hl 1 rfl) ?_
      refine G_Life_land hkv hkp hc hw wd_547 (dq tk_Life_setOut 26 rfl) ?_
      refine G_Land_age hc hw wd_96 (dq tk_Life_setOut 27 rfl) ?_
      refine lv_aload_n hx hb (dq tk_Life_setOut 28 rfl) rfl (lv_at hl 1 rfl) ?_
      refine G_Life_person hkv hkp hc hw wd_545 (dq tk_Life_setOut 29 rfl) ?_
      obtain ⟨c2, hf⟩ := chk_some hf
      refine AL_Land_age hc hw c2 (dq tk_Life_setOut 30 rfl) ?_
      refine lv_i2l hx hb (dq tk_Life_setOut 31 rfl) rfl ?_
      obtain ⟨σ2, hσ2, hf⟩ := nm_some hf
      refine AS_Law_values hkv hc hw (by decide) hσ2 (dq tk_Life_setOut 32 rfl) (fun H locs hw => ?_)
      refine lv_aload_n hx hb (dq tk_Life_setOut 33 rfl) rfl (lv_at hl 3 rfl) ?_
      refine lv_bipush (v := 9) hx hb (dq tk_Life_setOut 34 rfl) (by decide) ?_
      refine lv_aload_n hx hb (dq tk_Life_setOut 35 rfl) rfl (lv_at hl 1 rfl) ?_
      refine G_Life_land hkv hkp hc hw wd_547 (dq tk_Life_setOut 36 rfl) ?_
      refine G_Land_trade hc hw wd_93 (dq tk_Life_setOut 37 rfl) ?_
      refine lv_aload_n hx hb (dq tk_Life_setOut 38 rfl) rfl (lv_at hl 1 rfl) ?_
      refine G_Life_person hkv hkp hc hw wd_545 (dq tk_Life_setOut 39 rfl) ?_
      obtain ⟨c3, hf⟩ := chk_some hf
      refine AL_Land_trade hc hw c3 (dq tk_Life_setOut 40 rfl) ?_
      refine lv_i2l hx hb (dq tk_Life_setOut 41 rfl) rfl ?_
      obtain ⟨σ3, hσ3, hf⟩ := nm_some hf
      refine AS_Law_values hkv hc hw (by decide) hσ3 (dq tk_Life_setOut 42 rfl) (fun H locs hw => ?_)
      refine lv_aload_n hx hb (dq tk_Life_setOut 43 rfl) rfl (lv_at hl 3 rfl) ?_
      refine lv_bipush (v := 10) hx hb (dq tk_Life_setOut 44 rfl) (by decide) ?_
      refine lv_aload_n hx hb (dq tk_Life_setOut 45 rfl) rfl (lv_at hl 1 rfl) ?_
      refine G_Life_usual hkv hkp hc hw wd_573 (dq tk_Life_setOut 46 rfl) ?_
      refine lv_i2l hx hb (dq tk_Life_setOut 47 rfl) rfl ?_
      obtain ⟨σ4, hσ4, hf⟩ := nm_some hf
      refine AS_Law_values hkv hc hw (by decide) hσ4 (dq tk_Life_setOut 48 rfl) (fun H locs hw => ?_)
      refine lv_aload_n hx hb (dq tk_Life_setOut 49 rfl) rfl (lv_at hl 3 rfl) ?_
      refine lv_bipush (v := 11) hx hb (dq tk_Life_setOut 50 rfl) (by decide) ?_
      refine lv_aload_n hx hb (dq tk_Life_setOut 51 rfl) rfl (lv_at hl 1 rfl) ?_
      refine G_Life_inWork hkv hkp hc hw wd_567 (dq tk_Life_setOut 52 rfl) ?_
      refine lv_if_ne (tgt := 101) hx hb (dq tk_Life_setOut 53 rfl) (by decide) (fun c4 => ?_) (fun c4 => ?_)
      · replace hf := if_f hf c4
        exact w_Life_setOut_101 hc hr hR hkv hkp hw (lv_sub hl [1, 2, 3, 0] rfl) hf
      · replace hf := if_t hf c4
        refine lv_aload_n hx hb (dq tk_Life_setOut 54 rfl) rfl (lv_at hl 1 rfl) ?_
        refine G_Life_leftOn hkv hkp hc hw wd_571 (dq tk_Life_setOut 55 rfl) ?_
        refine lv_iconst (v := (-1)) hx hb (dq tk_Life_setOut 56 rfl) (by decide) ?_
        refine lv_icmp_ne (tgt := 105) hx hb (dq tk_Life_setOut 57 rfl) (by decide) (fun c5 => ?_) (fun c5 => ?_)
        · replace hf := if_f hf c5
          refine lv_iload_n hx hb (dq tk_Life_setOut 60 rfl) rfl (lv_at hl 2 rfl) ?_
          refine lv_aload_n hx hb (dq tk_Life_setOut 61 rfl) rfl (lv_at hl 1 rfl) ?_
          refine G_Life_leftOn hkv hkp hc hw wd_571 (dq tk_Life_setOut 62 rfl) ?_
          refine lv_isub hx hb (dq tk_Life_setOut 63 rfl) ?_
          refine lv_i2l hx hb (dq tk_Life_setOut 64 rfl) rfl ?_
          exact w_Life_setOut_112 hc hr hR hkv hkp hw (lv_sub hl [1, 2, 3, 0] rfl) hf
        · replace hf := if_t hf c5
          exact w_Life_setOut_101 hc hr hR hkv hkp hw (lv_sub hl [1, 2, 3, 0] rfl) hf
    · replace hf := if_f hf c1
      refine lv_aload_n hx hb (dq tk_Life_setOut 9 rfl) rfl (lv_at hl 2 rfl) ?_
      refine lv_iload_n hx hb (dq tk_Life_setOut 10 rfl) rfl (lv_at hl 3 rfl) ?_
      refine lv_aload_n hx hb (dq tk_Life_setOut 11 rfl) rfl (lv_at hl 0 rfl) ?_
      refine G_Life_law hkv hkp hc hw wd_549 (dq tk_Life_setOut 12 rfl) ?_
      refine lv_iload_n hx hb (dq tk_Life_setOut 13 rfl) rfl (lv_at hl 3 rfl) ?_
      refine lv_iload_n hx hb (dq tk_Life_setOut 14 rfl) rfl (lv_at hl 1 rfl) ?_
      obtain ⟨r5, h15, hf⟩ := bn1_someZ hf
      refine K_Law_param hc hw hkv wd_821 h15 (hR.mono (by decide)) ⟨Nat.zero_le _, Nat.zero_le _⟩ hl.1 (Nat.le_of_ble_eq_true rfl) (dq tk_Life_setOut 15 rfl) (fun H locs hw _ => ?_)
      refine lv_i2l hx hb (dq tk_Life_setOut 16 rfl) rfl ?_
      obtain ⟨c6, hf⟩ := chk_some hf
      obtain ⟨σ6, hσ6, hf⟩ := nm_some hf
      refine AS_Law_values hkv hc hw c6 hσ6 (dq tk_Life_setOut 17 rfl) (fun H locs hw => ?_)
      refine lv_iinc (v := (x3 + 1)) (lv' := [(3, .int (x3 + 1)), (0, .ref (Z.1 + (279 + 187 * kv + 5 * kp))), (1, .int x1), (2, .ref (Z.1 + (277 + 187 * kv)))]) hx hb (dq tk_Life_setOut 18 rfl) hl (k := 3) rfl rfl (by decide) rfl (fun ls hl => ?_)
      refine lv_goto (tgt := 10) hx hb (dq tk_Life_setOut 19 rfl) (by decide) ?_
      exact ih hw (lv_sub hl [1, 2, 3, 0] rfl) hf
set_option maxRecDepth 10000 in
theorem w_Life_setOut {N : Nat} {kv kp : Nat} (hc : Cxz p s m meth c args prog_8_method_21_code "LabourExchange$Life" 4 Z) (hr : meth.sig.returnType = none) (hR : RO R 2) (hkv : kv < 2) (hkp : kp < 20) {σ' : St} : ∀ {x1 : Int32} {σ : St} {H : Heap} {locs : List Loc} {ls : Array Slot}, Wd Z (cmb σ μ) s H locs → lv_has ls 4 [(0, .ref (Z.1 + (279 + 187 * kv + 5 * kp))), (1, .int x1)] → fLife_setOut N kv kp x1 σ = some σ' → W p l e R s m args below meth c H locs 0 0 (MQ below (Qr Z none True (cmb σ' μ)) args s 0 0 (fun q => Z.1 ≤ q)) (F0 m 0 ls []) := by
  have hx := hc.hx
  have hb := hc.hb
  intro x1 σ H locs ls hw hl hf
  unfold fLife_setOut at hf
  refine lv_aload_n hx hb (dq tk_Life_setOut 0 rfl) rfl (lv_at hl 0 rfl) ?_
  refine G_Life_law hkv hkp hc hw wd_549 (dq tk_Life_setOut 1 rfl) ?_
  refine G_Law_values hkv hc hw wd_509 (dq tk_Life_setOut 2 rfl) ?_
  refine lv_astore_n (lv' := [(2, .ref (Z.1 + (277 + 187 * kv))), (0, .ref (Z.1 + (279 + 187 * kv + 5 * kp))), (1, .int x1)]) hx hb (dq tk_Life_setOut 3 rfl) rfl hl (by decide) rfl (fun ls hl => ?_)
  refine lv_iconst (v := 0) hx hb (dq tk_Life_setOut 4 rfl) (by decide) ?_
  refine lv_istore_n (lv' := [(3, .int 0), (2, .ref (Z.1 + (277 + 187 * kv))), (0, .ref (Z.1 + (279 + 187 * kv + 5 * kp))), (1, .int x1)]) hx hb (dq tk_Life_setOut 5 rfl) rfl hl (by decide) rfl (fun ls hl => ?_)
  exact w_Life_setOut_10 hc hr hR hkv hkp N hw (lv_sub hl [2, 3, 1, 0] rfl) hf
theorem c_Life_setOut {N : Nat} {kv kp : Nat}  {x1 : Int32} {σ' : St} {σ : St} (hkv : kv < 2) (hkp : kp < 20) (hf : fLife_setOut N kv kp x1 σ = some σ') : Ct l Z y_Life_setOut prog_8_method_21_code 4 none (rmo (2)) [.ref (Z.1 + (279 + 187 * kv + 5 * kp)), .int x1] (cmb σ μ) none True (cmb σ' μ) := by
  refine x_met (by decide) (Nat.le_of_ble_eq_true rfl) (fun p e s m args below meth c ls hc hr hw hl => ?_)
  exact w_Life_setOut hc hr RO.self hkv hkp hw hl hf
theorem K_Life_setOut {idx : Nat} {N : Nat} {kv kp : Nat}  {x1 : Int32} {σ' : St} {σ : St} (hc : Cxz p s m meth c args cc own nL Z) (hw : Wd Z (cmb σ μ) s H locs) (hkv : kv < 2) (hkp : kp < 20) (hl : Cond.methodLink own idx y_Life_setOut ∈ TB) (hf : fLife_setOut N kv kp x1 σ = some σ') (hR : RO R ((2) + 1)) (hcs : cells ≤ R.cells ∧ slots ≤ R.slots) (hls : ls.size = nL) (hst : (rest.map fun v => v.category).sum ≤ 8) (hdg : decode cc pc = .ok (.invokevirtual idx, 3)) (kk : ∀ (H1 : Heap) (locs1 : List Loc), Wd Z (cmb σ' μ) s H1 locs1 → True → W p l e R s m args below meth c H1 locs1 cells slots Q (F0 m (pc + 3) ls rest)) : W p l e R s m args below meth c H locs cells slots Q (F0 m pc ls (.int x1 :: .ref (Z.1 + (279 + 187 * kv + 5 * kp)) :: rest)) :=
  x_iv hc hw (c_Life_setOut hkv hkp hf) yv_Life_setOut (wd_life (r := 0) hkv hkp (by decide) (by omega)).1 (wd_life (r := 0) hkv hkp (by decide) (by omega)).2 rfl hl (RO.call hR (by decide)) hcs rfl hls hst hdg rfl kk
set_option maxRecDepth 10000 in
theorem w_Law_limited {N : Nat} (hc : Cxz p s m meth c args prog_7_method_13_code "LabourExchange$Law" 2 Z) (hr : meth.sig.returnType = (some .int)) (hR : RO R 1) {rv : Int32} {σ : St} : ∀ {x0 : Int64} {H : Heap} {locs : List Loc} {ls : Array Slot}, Wd Z (cmb σ μ) s H locs → lv_has ls 2 [(0, .long x0)] → fLaw_limited N x0 σ = some rv → W p l e R s m args below meth c H locs 0 0 (MQ below (Qr Z (some (.int rv)) True (cmb σ μ)) args s 0 0 (fun q => Z.1 ≤ q)) (F0 m 0 ls []) := by
  have hx := hc.hx
  have hb := hc.hb
  intro x0 H locs ls hw hl hf
  unfold fLaw_limited at hf
  refine lv_lconst (v := 0) hx hb (dq tk_Law_limited 0 rfl) (by decide) ?_
  refine lv_ldc2 hx hb hc.ho (hc.ht _ wd_856) (dq tk_Law_limited 1 rfl) ?_
  refine lv_lload_n hx hb (dq tk_Law_limited 2 rfl) rfl (lv_at hl 0 rfl) ?_
  obtain ⟨r1, h3, hf⟩ := bn1_someZ hf
  refine K_Math_min_J hc hw wd_857 h3 (hR.mono (by decide)) ⟨Nat.zero_le _, Nat.zero_le _⟩ hl.1 (Nat.le_of_ble_eq_true rfl) (dq tk_Law_limited 3 rfl) (fun H locs hw _ => ?_)
  obtain ⟨r2, h4, hf⟩ := bn1_someZ hf
  refine K_Math_max_J hc hw wd_860 h4 (hR.mono (by decide)) ⟨Nat.zero_le _, Nat.zero_le _⟩ hl.1 (Nat.le_of_ble_eq_true rfl) (dq tk_Law_limited 4 rfl) (fun H locs hw _ => ?_)
  refine lv_l2i hx hb (dq tk_Law_limited 5 rfl) rfl ?_
  cases hf
  exact x_iret hc hw hr (dq tk_Law_limited 6 rfl)
theorem c_Law_limited {N : Nat}  {x0 : Int64} {rv : Int32} {σ : St} (hf : fLaw_limited N x0 σ = some rv) : Ct l Z y_Law_limited prog_7_method_13_code 2 (some .int) (rmo (1)) [.long x0] (cmb σ μ) (some (.int rv)) True (cmb σ μ) := by
  refine x_met (by decide) (Nat.le_of_ble_eq_true rfl) (fun p e s m args below meth c ls hc hr hw hl => ?_)
  exact w_Law_limited hc hr RO.self hw hl hf
theorem K_Law_limited {idx : Nat} {N : Nat}  {x0 : Int64} {rv : Int32} {σ : St} (hc : Cxz p s m meth c args cc own nL Z) (hw : Wd Z (cmb σ μ) s H locs) (hl : Cond.methodLink own idx y_Law_limited ∈ TB) (hf : fLaw_limited N x0 σ = some rv) (hR : RO R ((1) + 1)) (hcs : cells ≤ R.cells ∧ slots ≤ R.slots) (hls : ls.size = nL) (hst : (rest.map fun v => v.category).sum ≤ 8) (hdg : decode cc pc = .ok (.invokestatic idx, 3)) (kk : ∀ (H1 : Heap) (locs1 : List Loc), Wd Z (cmb σ μ) s H1 locs1 → True → W p l e R s m args below meth c H1 locs1 cells slots Q (F0 m (pc + 3) ls (.int rv :: rest))) : W p l e R s m args below meth c H locs cells slots Q (F0 m pc ls (.long x0 :: rest)) :=
  x_is hc hw (c_Law_limited hf) ys_Law_limited hl (RO.call hR (by decide)) hcs rfl hls hst hdg rfl kk
set_option maxRecDepth 10000 in
theorem w_Law_barDays_37 {N : Nat} {kv : Nat} (hc : Cxz p s m meth c args prog_7_method_11_code "LabourExchange$Law" 6 Z) (hr : meth.sig.returnType = (some .int)) (hR : RO R 2) (hkv : kv < 2) {rv : Int32} {σ' : St} {go9 : Int32 → Int32 → St → Option (Int32 × St)} (hgo9 : ∀ {x2 : Int32} {x3 : Int32} {σ : St} {H : Heap} {locs : List Loc} {ls : Array Slot}, Wd Z (cmb σ μ) s H locs → lv_has ls 6 [(0, .ref (Z.1 + (197 + 187 * kv))), (2, .int x2), (3, .int x3)] → go9 x2 x3 σ = some (rv, σ') → W p l e R s m args below meth c H locs 0 0 (MQ below (Qr Z (some (.int rv)) True (cmb σ' μ)) args s 0 0 (fun q => Z.1 ≤ q)) (F0 m 9 ls [])) (n : Nat) : ∀ {x2 : Int32} {x3 : Int32} {k4_0 : Nat} {x5 : Int32} {σ : St} {H : Heap} {locs : List Loc} {ls : Array Slot} (hk4_0 : k4_0 < 17), Wd Z (cmb σ μ) s H locs → lv_has ls 6 [(0, .ref (Z.1 + (197 + 187 * kv))), (2, .int x2), (3, .int x3), (4, .ref (Z.1 + (90 + 6 * k4_0))), (5, .int x5)] → fLaw_barDays_37 N kv go9 n x2 x3 k4_0 x5 σ = some (rv, σ') → W p l e R s m args below meth c H locs 0 0 (MQ below (Qr Z (some (.int rv)) True (cmb σ' μ)) args s 0 0 (fun q => Z.1 ≤ q)) (F0 m 37 ls []) := by
  have hx := hc.hx
  have hb := hc.hb
  induction n with
  | zero =>
    intro x2 x3 k4_0 x5 σ H locs ls hk4_0 hw hl hf
    have hf : none = some _ := hf
    cases hf
  | succ n ih =>
    intro x2 x3 k4_0 x5 σ H locs ls hk4_0 hw hl hf
    unfold fLaw_barDays_37 at hf
    refine lv_iload hx hb (dq tk_Law_barDays 25 rfl) (lv_at hl 4 rfl) ?_
    refine lv_aload hx hb (dq tk_Law_barDays 26 rfl) (lv_at hl 3 rfl) ?_
    refine G_Act_likeCount hk4_0 hc hw wd_442 (dq tk_Law_barDays 27 rfl) ?_
    refine lv_icmp_ge (tgt := 92) hx hb (dq tk_Law_barDays 28 rfl) (by decide) (fun c1 => ?_) (fun c1 => ?_)
    · replace hf := if_t hf c1
      refine lv_iinc (v := (x3 + 1)) (lv' := [(3, .int (x3 + 1)), (0, .ref (Z.1 + (197 + 187 * kv))), (2, .int x2), (4, .ref (Z.1 + (90 + 6 * k4_0))), (5, .int x5)]) hx hb (dq tk_Law_barDays 51 rfl) hl (k := 2) rfl rfl (by decide) rfl (fun ls hl => ?_)
      refine lv_goto (tgt := 9) hx hb (dq tk_Law_barDays 52 rfl) (by decide) ?_
      exact hgo9 hw (lv_sub hl [1, 2, 0] rfl) hf
    · replace hf := if_f hf c1
      refine lv_aload hx hb (dq tk_Law_barDays 29 rfl) (lv_at hl 3 rfl) ?_
      refine lv_aload hx hb (dq tk_Law_barDays 30 rfl) (lv_at hl 3 rfl) ?_
      refine G_Act_likes hk4_0 hc hw wd_438 (dq tk_Law_barDays 31 rfl) ?_
      refine lv_iload hx hb (dq tk_Law_barDays 32 rfl) (lv_at hl 4 rfl) ?_
      obtain ⟨c2, hf⟩ := chk_some hf
      refine AL_Act_likes hk4_0 hc hw c2 (dq tk_Law_barDays 33 rfl) ?_
      refine lv_aload_n hx hb (dq tk_Law_barDays 34 rfl) rfl (lv_at hl 0 rfl) ?_
      refine G_Law_values hkv hc hw wd_507 (dq tk_Law_barDays 35 rfl) ?_
      refine lv_aload_n hx hb (dq tk_Law_barDays 36 rfl) rfl (lv_at hl 0 rfl) ?_
      refine G_Law_stack hkv hc hw wd_511 (dq tk_Law_barDays 37 rfl) ?_
      obtain ⟨r1, σ2, h38, hf⟩ := bnd_some hf
      refine K_Act_work hc hw hk4_0 hkv hkv wd_844 h38 (hR.mono (by decide)) ⟨Nat.zero_le _, Nat.zero_le _⟩ hl.1 (Nat.le_of_ble_eq_true rfl) (dq tk_Law_barDays 38 rfl) (fun H locs hw _ => ?_)
      refine lv_lconst (v := 0) hx hb (dq tk_Law_barDays 39 rfl) (by decide) ?_
      refine W.lcmp hx hb (dq tk_Law_barDays 40 rfl) ?_
      refine lv_if_eq (tgt := 86) hx hb (dq tk_Law_barDays 41 rfl) (by decide) (fun c3 => ?_) (fun c3 => ?_)
      · replace hf := if_t hf c3
        refine lv_iinc (v := (x5 + 1)) (lv' := [(5, .int (x5 + 1)), (0, .ref (Z.1 + (197 + 187 * kv))), (2, .int x2), (3, .int x3), (4, .ref (Z.1 + (90 + 6 * k4_0)))]) hx hb (dq tk_Law_barDays 49 rfl) hl (k := 4) rfl rfl (by decide) rfl (fun ls hl => ?_)
        refine lv_goto (tgt := 37) hx hb (dq tk_Law_barDays 50 rfl) (by decide) ?_
        exact ih hk4_0 hw (lv_sub hl [1, 2, 3, 4, 0] rfl) hf
      · replace hf := if_f hf c3
        refine lv_aload hx hb (dq tk_Law_barDays 42 rfl) (lv_at hl 3 rfl) ?_
        refine G_Act_likeDays hk4_0 hc hw wd_440 (dq tk_Law_barDays 43 rfl) ?_
        refine lv_iload hx hb (dq tk_Law_barDays 44 rfl) (lv_at hl 4 rfl) ?_
        refine AL_Act_likeDays hk4_0 hc hw c2 (dq tk_Law_barDays 45 rfl) ?_
        refine lv_i2l hx hb (dq tk_Law_barDays 46 rfl) rfl ?_
        obtain ⟨r3, h47, hf⟩ := bn1_someZ hf
        refine K_Law_limited hc hw wd_853 h47 (hR.mono (by decide)) ⟨Nat.zero_le _, Nat.zero_le _⟩ hl.1 (Nat.le_of_ble_eq_true rfl) (dq tk_Law_barDays 47 rfl) (fun H locs hw _ => ?_)
        cases hf
        exact x_iret hc hw hr (dq tk_Law_barDays 48 rfl)
set_option maxRecDepth 10000 in
theorem w_Law_barDays_9 {N : Nat} {kv : Nat} (hc : Cxz p s m meth c args prog_7_method_11_code "LabourExchange$Law" 6 Z) (hr : meth.sig.returnType = (some .int)) (hR : RO R 2) (hkv : kv < 2) {rv : Int32} {σ' : St} (n : Nat) : ∀ {x2 : Int32} {x3 : Int32} {σ : St} {H : Heap} {locs : List Loc} {ls : Array Slot}, Wd Z (cmb σ μ) s H locs → lv_has ls 6 [(0, .ref (Z.1 + (197 + 187 * kv))), (2, .int x2), (3, .int x3)] → fLaw_barDays_9 N kv n x2 x3 σ = some (rv, σ') → W p l e R s m args below meth c H locs 0 0 (MQ below (Qr Z (some (.int rv)) True (cmb σ' μ)) args s 0 0 (fun q => Z.1 ≤ q)) (F0 m 9 ls []) := by
  have hx := hc.hx
  have hb := hc.hb
  induction n with
  | zero =>
    intro x2 x3 σ H locs ls hw hl hf
    have hf : none = some _ := hf
    cases hf
  | succ n ih =>
    intro x2 x3 σ H locs ls hw hl hf
    unfold fLaw_barDays_9 at hf
    refine lv_iload_n hx hb (dq tk_Law_barDays 7 rfl) rfl (lv_at hl 2 rfl) ?_
    refine lv_aload_n hx hb (dq tk_Law_barDays 8 rfl) rfl (lv_at hl 0 rfl) ?_
    refine G_Law_forceCount hkv hc hw wd_501 (dq tk_Law_barDays 9 rfl) ?_
    refine lv_iload_n hx hb (dq tk_Law_barDays 10 rfl) rfl (lv_at hl 1 rfl) ?_
    obtain ⟨c1, hf⟩ := chk_some hf
    refine AL_Law_forceCount hkv hc hw c1 (dq tk_Law_barDays 11 rfl) ?_
    refine lv_icmp_ge (tgt := 98) hx hb (dq tk_Law_barDays 12 rfl) (by decide) (fun c2 => ?_) (fun c2 => ?_)
    · replace hf := if_t hf c2
      refine lv_aload_n hx hb (dq tk_Law_barDays 53 rfl) rfl (lv_at hl 0 rfl) ?_
      refine G_Law_barAct hkv hc hw wd_505 (dq tk_Law_barDays 54 rfl) ?_
      refine lv_iload_n hx hb (dq tk_Law_barDays 55 rfl) rfl (lv_at hl 1 rfl) ?_
      refine AL_Law_barAct hkv hc hw c1 (dq tk_Law_barDays 56 rfl) ?_
      obtain ⟨y1, hy1, hf⟩ := nm_some hf
      refine tst (congrArg Value.int hy1) ?_
      refine lv_istore_n (lv' := [(3, .int y1), (0, .ref (Z.1 + (197 + 187 * kv))), (2, .int x2)]) hx hb (dq tk_Law_barDays 57 rfl) rfl hl (by decide) rfl (fun ls hl => ?_)
      refine lv_iload_n hx hb (dq tk_Law_barDays 58 rfl) rfl (lv_at hl 0 rfl) ?_
      refine lv_iconst (v := (-1)) hx hb (dq tk_Law_barDays 59 rfl) (by decide) ?_
      refine lv_icmp_ne (tgt := 114) hx hb (dq tk_Law_barDays 60 rfl) (by decide) (fun c3 => ?_) (fun c3 => ?_)
      · replace hf := if_f hf c3
        refine lv_aload_n hx hb (dq tk_Law_barDays 63 rfl) rfl (lv_at hl 1 rfl) ?_
        refine G_Law_acts hkv hc hw wd_495 (dq tk_Law_barDays 64 rfl) ?_
        refine lv_iload_n hx hb (dq tk_Law_barDays 65 rfl) rfl (lv_at hl 0 rfl) ?_
        obtain ⟨c4, hf⟩ := chk_some hf
        refine AL_X_acts hc hw c4 (dq tk_Law_barDays 66 rfl) ?_
        refine lv_aload_n hx hb (dq tk_Law_barDays 67 rfl) rfl (lv_at hl 1 rfl) ?_
        refine G_Law_acts hkv hc hw wd_495 (dq tk_Law_barDays 68 rfl) ?_
        refine lv_iload_n hx hb (dq tk_Law_barDays 69 rfl) rfl (lv_at hl 0 rfl) ?_
        refine AL_X_acts hc hw c4 (dq tk_Law_barDays 70 rfl) ?_
        refine G_Act_bar (inb_lt c4) hc hw wd_431 (dq tk_Law_barDays 71 rfl) ?_
        refine lv_aload_n hx hb (dq tk_Law_barDays 72 rfl) rfl (lv_at hl 1 rfl) ?_
        refine G_Law_values hkv hc hw wd_507 (dq tk_Law_barDays 73 rfl) ?_
        refine lv_aload_n hx hb (dq tk_Law_barDays 74 rfl) rfl (lv_at hl 1 rfl) ?_
        refine G_Law_stack hkv hc hw wd_511 (dq tk_Law_barDays 75 rfl) ?_
        obtain ⟨r2, σ3, h76, hf⟩ := bnd_some hf
        refine K_Act_work hc hw (inb_lt c4) hkv hkv wd_844 h76 (hR.mono (by decide)) ⟨Nat.zero_le _, Nat.zero_le _⟩ hl.1 (Nat.le_of_ble_eq_true rfl) (dq tk_Law_barDays 76 rfl) (fun H locs hw _ => ?_)
        obtain ⟨r4, h77, hf⟩ := bn1_someZ hf
        refine K_Law_limited hc hw wd_853 h77 (hR.mono (by decide)) ⟨Nat.zero_le _, Nat.zero_le _⟩ hl.1 (Nat.le_of_ble_eq_true rfl) (dq tk_Law_barDays 77 rfl) (fun H locs hw _ => ?_)
        cases hf
        exact x_iret hc hw hr (dq tk_Law_barDays 78 rfl)
      · replace hf := if_t hf c3
        refine lv_iconst (v := 0) hx hb (dq tk_Law_barDays 61 rfl) (by decide) ?_
        refine lv_goto (tgt := 143) hx hb (dq tk_Law_barDays 62 rfl) (by decide) ?_
        cases hf
        exact x_iret hc hw hr (dq tk_Law_barDays 78 rfl)
    · replace hf := if_f hf c2
      refine lv_aload_n hx hb (dq tk_Law_barDays 13 rfl) rfl (lv_at hl 0 rfl) ?_
      refine G_Law_acts hkv hc hw wd_495 (dq tk_Law_barDays 14 rfl) ?_
      refine lv_aload_n hx hb (dq tk_Law_barDays 15 rfl) rfl (lv_at hl 0 rfl) ?_
      refine G_Law_inForce hkv hc hw wd_500 (dq tk_Law_barDays 16 rfl) ?_
      refine lv_iload_n hx hb (dq tk_Law_barDays 17 rfl) rfl (lv_at hl 1 rfl) ?_
      refine AL_Law_inForce hkv hc hw c1 (dq tk_Law_barDays 18 rfl) ?_
      refine lv_iload_n hx hb (dq tk_Law_barDays 19 rfl) rfl (lv_at hl 2 rfl) ?_
      obtain ⟨c5, hf⟩ := chk_some hf
      refine AL_Law_inForcer hkv (inb_lt c1) hc hw c5 (dq tk_Law_barDays 20 rfl) ?_
      obtain ⟨c6, hf⟩ := chk_some hf
      refine AL_X_acts hc hw c6 (dq tk_Law_barDays 21 rfl) ?_
      refine lv_astore (lv' := [(4, .ref (Z.1 + (90 + 6 * ((σ.1 65 kv (x2.toNatClampNeg) x3.toNatClampNeg).toNatClampNeg)))), (0, .ref (Z.1 + (197 + 187 * kv))), (2, .int x2), (3, .int x3)]) hx hb (dq tk_Law_barDays 22 rfl) hl (by decide) rfl (fun ls hl => ?_)
      refine lv_iconst (v := 0) hx hb (dq tk_Law_barDays 23 rfl) (by decide) ?_
      refine lv_istore (lv' := [(5, .int 0), (4, .ref (Z.1 + (90 + 6 * ((σ.1 65 kv (x2.toNatClampNeg) x3.toNatClampNeg).toNatClampNeg)))), (0, .ref (Z.1 + (197 + 187 * kv))), (2, .int x2), (3, .int x3)]) hx hb (dq tk_Law_barDays 24 rfl) hl (by decide) rfl (fun ls hl => ?_)
      exact w_Law_barDays_37 hc hr hR hkv ih N (inb_lt c6) hw (lv_sub hl [2, 3, 4, 1, 0] rfl) hf
set_option maxRecDepth 10000 in
theorem w_Law_barDays {N : Nat} {kv : Nat} (hc : Cxz p s m meth c args prog_7_method_11_code "LabourExchange$Law" 6 Z) (hr : meth.sig.returnType = (some .int)) (hR : RO R 2) (hkv : kv < 2) {rv : Int32} {σ' : St} : ∀ {x1 : Int32} {σ : St} {H : Heap} {locs : List Loc} {ls : Array Slot}, Wd Z (cmb σ μ) s H locs → lv_has ls 6 [(0, .ref (Z.1 + (197 + 187 * kv))), (1, .int x1)] → fLaw_barDays N kv x1 σ = some (rv, σ') → W p l e R s m args below meth c H locs 0 0 (MQ below (Qr Z (some (.int rv)) True (cmb σ' μ)) args s 0 0 (fun q => Z.1 ≤ q)) (F0 m 0 ls []) := by
  have hx := hc.hx
  have hb := hc.hb
  intro x1 σ H locs ls hw hl hf
  unfold fLaw_barDays at hf
  refine lv_aload_n hx hb (dq tk_Law_barDays 0 rfl) rfl (lv_at hl 0 rfl) ?_
  refine G_Law_spanOf hkv hc hw wd_498 (dq tk_Law_barDays 1 rfl) ?_
  refine lv_iload_n hx hb (dq tk_Law_barDays 2 rfl) rfl (lv_at hl 1 rfl) ?_
  obtain ⟨c1, hf⟩ := chk_some hf
  refine AL_Law_spanOf hkv hc hw c1 (dq tk_Law_barDays 3 rfl) ?_
  obtain ⟨y1, hy1, hf⟩ := nm_some hf
  refine tst (congrArg Value.int hy1) ?_
  refine lv_istore_n (lv' := [(2, .int y1), (0, .ref (Z.1 + (197 + 187 * kv))), (1, .int x1)]) hx hb (dq tk_Law_barDays 4 rfl) rfl hl (by decide) rfl (fun ls hl => ?_)
  refine lv_iconst (v := 0) hx hb (dq tk_Law_barDays 5 rfl) (by decide) ?_
  refine lv_istore_n (lv' := [(3, .int 0), (2, .int y1), (0, .ref (Z.1 + (197 + 187 * kv))), (1, .int x1)]) hx hb (dq tk_Law_barDays 6 rfl) rfl hl (by decide) rfl (fun ls hl => ?_)
  exact w_Law_barDays_9 hc hr hR hkv N hw (lv_sub hl [2, 1, 0] rfl) hf
theorem c_Law_barDays {N : Nat} {kv : Nat}  {x1 : Int32} {rv : Int32} {σ' : St} {σ : St} (hkv : kv < 2) (hf : fLaw_barDays N kv x1 σ = some (rv, σ')) : Ct l Z y_Law_barDays prog_7_method_11_code 6 (some .int) (rmo (2)) [.ref (Z.1 + (197 + 187 * kv)), .int x1] (cmb σ μ) (some (.int rv)) True (cmb σ' μ) := by
  refine x_met (by decide) (Nat.le_of_ble_eq_true rfl) (fun p e s m args below meth c ls hc hr hw hl => ?_)
  exact w_Law_barDays hc hr RO.self hkv hw hl hf
theorem K_Law_barDays {idx : Nat} {N : Nat} {kv : Nat}  {x1 : Int32} {rv : Int32} {σ' : St} {σ : St} (hc : Cxz p s m meth c args cc own nL Z) (hw : Wd Z (cmb σ μ) s H locs) (hkv : kv < 2) (hl : Cond.methodLink own idx y_Law_barDays ∈ TB) (hf : fLaw_barDays N kv x1 σ = some (rv, σ')) (hR : RO R ((2) + 1)) (hcs : cells ≤ R.cells ∧ slots ≤ R.slots) (hls : ls.size = nL) (hst : (rest.map fun v => v.category).sum ≤ 8) (hdg : decode cc pc = .ok (.invokevirtual idx, 3)) (kk : ∀ (H1 : Heap) (locs1 : List Loc), Wd Z (cmb σ' μ) s H1 locs1 → True → W p l e R s m args below meth c H1 locs1 cells slots Q (F0 m (pc + 3) ls (.int rv :: rest))) : W p l e R s m args below meth c H locs cells slots Q (F0 m pc ls (.int x1 :: .ref (Z.1 + (197 + 187 * kv)) :: rest)) :=
  x_iv hc hw (c_Law_barDays hkv hf) yv_Law_barDays (wd_view (r := 5) hkv (by decide) (by omega)).1 (wd_view (r := 5) hkv (by decide) (by omega)).2 rfl hl (RO.call hR (by decide)) hcs rfl hls hst hdg rfl kk
set_option maxRecDepth 10000 in
theorem w_Life_leaves {N : Nat} {kv kp : Nat} (hc : Cxz p s m meth c args prog_8_method_8_code "LabourExchange$Life" 4 Z) (hr : meth.sig.returnType = (some .boolean)) (hR : RO R 3) (hkv : kv < 2) (hkp : kp < 20) {rv : Int32} {σ' : St} : ∀ {x1 : Int32} {x2 : Int32} {x3 : Int32} {σ : St} {H : Heap} {locs : List Loc} {ls : Array Slot}, Wd Z (cmb σ μ) s H locs → lv_has ls 4 [(0, .ref (Z.1 + (279 + 187 * kv + 5 * kp))), (1, .int x1), (2, .int x2), (3, .int x3)] → fLife_leaves N kv kp x1 x2 x3 σ = some (rv, σ') → W p l e R s m args below meth c H locs 0 0 (MQ below (Qr Z (some (.int rv)) True (cmb σ' μ)) args s 0 0 (fun q => Z.1 ≤ q)) (F0 m 0 ls []) := by
  have hx := hc.hx
  have hb := hc.hb
  intro x1 x2 x3 σ H locs ls hw hl hf
  unfold fLife_leaves at hf
  refine lv_aload_n hx hb (dq tk_Life_leaves 0 rfl) rfl (lv_at hl 0 rfl) ?_
  refine G_Life_inWork hkv hkp hc hw wd_567 (dq tk_Life_leaves 1 rfl) ?_
  refine lv_if_ne (tgt := 9) hx hb (dq tk_Life_leaves 2 rfl) (by decide) (fun c1 => ?_) (fun c1 => ?_)
  · replace hf := if_f hf c1
    refine lv_aload_n hx hb (dq tk_Life_leaves 5 rfl) rfl (lv_at hl 0 rfl) ?_
    refine lv_iconst (v := 0) hx hb (dq tk_Life_leaves 6 rfl) (by decide) ?_
    obtain ⟨σ1, hσ1, hf⟩ := nm_some hf
    refine P_Life_inWork hkv hkp hc hw wd_567 (by decide) hσ1 (dq tk_Life_leaves 7 rfl) (fun H locs hw => ?_)
    refine lv_aload_n hx hb (dq tk_Life_leaves 8 rfl) rfl (lv_at hl 0 rfl) ?_
    refine lv_iconst (v := 0) hx hb (dq tk_Life_leaves 9 rfl) (by decide) ?_
    obtain ⟨σ2, hσ2, hf⟩ := nm_some hf
    refine P_Life_daysShort hkv hkp hc hw wd_569 hσ2 (dq tk_Life_leaves 10 rfl) (fun H locs hw => ?_)
    refine lv_aload_n hx hb (dq tk_Life_leaves 11 rfl) rfl (lv_at hl 0 rfl) ?_
    refine lv_iload_n hx hb (dq tk_Life_leaves 12 rfl) rfl (lv_at hl 2 rfl) ?_
    obtain ⟨σ3, hσ3, hf⟩ := nm_some hf
    refine P_Life_leftOn hkv hkp hc hw wd_571 hσ3 (dq tk_Life_leaves 13 rfl) (fun H locs hw => ?_)
    refine lv_aload_n hx hb (dq tk_Life_leaves 14 rfl) rfl (lv_at hl 0 rfl) ?_
    refine lv_iload_n hx hb (dq tk_Life_leaves 15 rfl) rfl (lv_at hl 1 rfl) ?_
    obtain ⟨σ4, hσ4, hf⟩ := nm_some hf
    refine P_Life_reason hkv hkp hc hw wd_572 hσ4 (dq tk_Life_leaves 16 rfl) (fun H locs hw => ?_)
    refine lv_iload_n hx hb (dq tk_Life_leaves 17 rfl) rfl (lv_at hl 3 rfl) ?_
    refine lv_if_ne (tgt := 61) hx hb (dq tk_Life_leaves 18 rfl) (by decide) (fun c2 => ?_) (fun c2 => ?_)
    · replace hf := if_f hf c2
      refine lv_iconst (v := 1) hx hb (dq tk_Life_leaves 35 rfl) (by decide) ?_
      cases hf
      exact x_zret hc hw hr (by decide) (dq tk_Life_leaves 36 rfl)
    · replace hf := if_t hf c2
      refine lv_aload_n hx hb (dq tk_Life_leaves 19 rfl) rfl (lv_at hl 0 rfl) ?_
      refine lv_iload_n hx hb (dq tk_Life_leaves 20 rfl) rfl (lv_at hl 2 rfl) ?_
      obtain ⟨σ5, h21, hf⟩ := bn1_someZ hf
      refine K_Life_setOut hc hw hkv hkp wd_817 h21 (hR.mono (by decide)) ⟨Nat.zero_le _, Nat.zero_le _⟩ hl.1 (Nat.le_of_ble_eq_true rfl) (dq tk_Life_leaves 21 rfl) (fun H locs hw _ => ?_)
      refine lv_aload_n hx hb (dq tk_Life_leaves 22 rfl) rfl (lv_at hl 0 rfl) ?_
      refine lv_aload_n hx hb (dq tk_Life_leaves 23 rfl) rfl (lv_at hl 0 rfl) ?_
      refine G_Life_barredTo hkv hkp hc hw wd_570 (dq tk_Life_leaves 24 rfl) ?_
      refine lv_iload_n hx hb (dq tk_Life_leaves 25 rfl) rfl (lv_at hl 2 rfl) ?_
      refine lv_aload_n hx hb (dq tk_Life_leaves 26 rfl) rfl (lv_at hl 0 rfl) ?_
      refine G_Life_law hkv hkp hc hw wd_549 (dq tk_Life_leaves 27 rfl) ?_
      refine lv_iload_n hx hb (dq tk_Life_leaves 28 rfl) rfl (lv_at hl 2 rfl) ?_
      obtain ⟨r6, σ7, h29, hf⟩ := bnd_some hf
      refine K_Law_barDays hc hw hkv wd_840 h29 (hR.mono (by decide)) ⟨Nat.zero_le _, Nat.zero_le _⟩ hl.1 (Nat.le_of_ble_eq_true rfl) (dq tk_Life_leaves 29 rfl) (fun H locs hw _ => ?_)
      refine lv_iadd hx hb (dq tk_Life_leaves 30 rfl) ?_
      refine lv_iconst (v := 1) hx hb (dq tk_Life_leaves 31 rfl) (by decide) ?_
      refine lv_isub hx hb (dq tk_Life_leaves 32 rfl) ?_
      obtain ⟨r8, h33, hf⟩ := bn1_someZ hf
      refine K_Math_max_I hc hw wd_829 h33 (hR.mono (by decide)) ⟨Nat.zero_le _, Nat.zero_le _⟩ hl.1 (Nat.le_of_ble_eq_true rfl) (dq tk_Life_leaves 33 rfl) (fun H locs hw _ => ?_)
      obtain ⟨σ9, hσ9, hf⟩ := nm_some hf
      refine P_Life_barredTo hkv hkp hc hw wd_570 hσ9 (dq tk_Life_leaves 34 rfl) (fun H locs hw => ?_)
      refine lv_iconst (v := 1) hx hb (dq tk_Life_leaves 35 rfl) (by decide) ?_
      cases hf
      exact x_zret hc hw hr (by decide) (dq tk_Life_leaves 36 rfl)
  · replace hf := if_t hf c1
    refine lv_iconst (v := 0) hx hb (dq tk_Life_leaves 3 rfl) (by decide) ?_
    cases hf
    exact x_zret hc hw hr (by decide) (dq tk_Life_leaves 4 rfl)
theorem c_Life_leaves {N : Nat} {kv kp : Nat}  {x1 : Int32} {x2 : Int32} {x3 : Int32} {rv : Int32} {σ' : St} {σ : St} (hkv : kv < 2) (hkp : kp < 20) (hf : fLife_leaves N kv kp x1 x2 x3 σ = some (rv, σ')) : Ct l Z y_Life_leaves prog_8_method_8_code 4 (some .boolean) (rmo (3)) [.ref (Z.1 + (279 + 187 * kv + 5 * kp)), .int x1, .int x2, .int x3] (cmb σ μ) (some (.int rv)) True (cmb σ' μ) := by
  refine x_met (by decide) (Nat.le_of_ble_eq_true rfl) (fun p e s m args below meth c ls hc hr hw hl => ?_)
  exact w_Life_leaves hc hr RO.self hkv hkp hw hl hf
theorem K_Life_leaves {idx : Nat} {N : Nat} {kv kp : Nat}  {x1 : Int32} {x2 : Int32} {x3 : Int32} {rv : Int32} {σ' : St} {σ : St} (hc : Cxz p s m meth c args cc own nL Z) (hw : Wd Z (cmb σ μ) s H locs) (hkv : kv < 2) (hkp : kp < 20) (hl : Cond.methodLink own idx y_Life_leaves ∈ TB) (hf : fLife_leaves N kv kp x1 x2 x3 σ = some (rv, σ')) (hR : RO R ((3) + 1)) (hcs : cells ≤ R.cells ∧ slots ≤ R.slots) (hls : ls.size = nL) (hst : (rest.map fun v => v.category).sum ≤ 8) (hdg : decode cc pc = .ok (.invokevirtual idx, 3)) (kk : ∀ (H1 : Heap) (locs1 : List Loc), Wd Z (cmb σ' μ) s H1 locs1 → True → W p l e R s m args below meth c H1 locs1 cells slots Q (F0 m (pc + 3) ls (.int rv :: rest))) : W p l e R s m args below meth c H locs cells slots Q (F0 m pc ls (.int x3 :: .int x2 :: .int x1 :: .ref (Z.1 + (279 + 187 * kv + 5 * kp)) :: rest)) :=
  x_iv hc hw (c_Life_leaves hkv hkp hf) yv_Life_leaves (wd_life (r := 0) hkv hkp (by decide) (by omega)).1 (wd_life (r := 0) hkv hkp (by decide) (by omega)).2 rfl hl (RO.call hR (by decide)) hcs rfl hls hst hdg rfl kk
set_option maxRecDepth 10000 in
theorem w_Life_closeClaim {N : Nat} {kv kp : Nat} (hc : Cxz p s m meth c args prog_8_method_16_code "LabourExchange$Life" 2 Z) (hr : meth.sig.returnType = none) (hR : RO R 2) (hkv : kv < 2) (hkp : kp < 20) {σ' : St} : ∀ {x1 : Int32} {σ : St} {H : Heap} {locs : List Loc} {ls : Array Slot}, Wd Z (cmb σ μ) s H locs → lv_has ls 2 [(0, .ref (Z.1 + (279 + 187 * kv + 5 * kp))), (1, .int x1)] → fLife_closeClaim N kv kp x1 σ = some σ' → W p l e R s m args below meth c H locs 0 0 (MQ below (Qr Z none True (cmb σ' μ)) args s 0 0 (fun q => Z.1 ≤ q)) (F0 m 0 ls []) := by
  have hx := hc.hx
  have hb := hc.hb
  intro x1 σ H locs ls hw hl hf
  unfold fLife_closeClaim at hf
  refine lv_aload_n hx hb (dq tk_Life_closeClaim 0 rfl) rfl (lv_at hl 0 rfl) ?_
  refine G_Life_open hkv hkp hc hw wd_564 (dq tk_Life_closeClaim 1 rfl) ?_
  refine lv_if_eq (tgt := 30) hx hb (dq tk_Life_closeClaim 2 rfl) (by decide) (fun c1 => ?_) (fun c1 => ?_)
  · replace hf := if_t hf c1
    cases hf
    exact x_vret hc hw hr (dq tk_Life_closeClaim 17 rfl)
  · replace hf := if_f hf c1
    refine lv_aload_n hx hb (dq tk_Life_closeClaim 3 rfl) rfl (lv_at hl 0 rfl) ?_
    refine lv_iconst (v := 0) hx hb (dq tk_Life_closeClaim 4 rfl) (by decide) ?_
    obtain ⟨σ1, hσ1, hf⟩ := nm_some hf
    refine P_Life_open hkv hkp hc hw wd_564 (by decide) hσ1 (dq tk_Life_closeClaim 5 rfl) (fun H locs hw => ?_)
    refine lv_aload_n hx hb (dq tk_Life_closeClaim 6 rfl) rfl (lv_at hl 0 rfl) ?_
    refine lv_iload_n hx hb (dq tk_Life_closeClaim 7 rfl) rfl (lv_at hl 1 rfl) ?_
    obtain ⟨σ2, hσ2, hf⟩ := nm_some hf
    refine P_Life_closedOn hkv hkp hc hw wd_566 hσ2 (dq tk_Life_closeClaim 8 rfl) (fun H locs hw => ?_)
    refine lv_aload_n hx hb (dq tk_Life_closeClaim 9 rfl) rfl (lv_at hl 0 rfl) ?_
    refine G_Life_claims hkv hkp hc hw wd_552 (dq tk_Life_closeClaim 10 rfl) ?_
    refine lv_aload_n hx hb (dq tk_Life_closeClaim 11 rfl) rfl (lv_at hl 0 rfl) ?_
    obtain ⟨r3, h12, hf⟩ := bn1_someZ hf
    refine K_Life_rowOfLatest hc hw hkv hkp wd_825 h12 (hR.mono (by decide)) ⟨Nat.zero_le _, Nat.zero_le _⟩ hl.1 (Nat.le_of_ble_eq_true rfl) (dq tk_Life_closeClaim 12 rfl) (fun H locs hw _ => ?_)
    refine lv_bipush (v := 8) hx hb (dq tk_Life_closeClaim 13 rfl) (by decide) ?_
    refine lv_iadd hx hb (dq tk_Life_closeClaim 14 rfl) ?_
    refine lv_iconst (v := 0) hx hb (dq tk_Life_closeClaim 15 rfl) (by decide) ?_
    obtain ⟨c2, hf⟩ := chk_some hf
    obtain ⟨σ4, hσ4, hf⟩ := nm_some hf
    refine AS_Life_claims hkv hkp hc hw c2 hσ4 (dq tk_Life_closeClaim 16 rfl) (fun H locs hw => ?_)
    cases hf
    exact x_vret hc hw hr (dq tk_Life_closeClaim 17 rfl)
theorem c_Life_closeClaim {N : Nat} {kv kp : Nat}  {x1 : Int32} {σ' : St} {σ : St} (hkv : kv < 2) (hkp : kp < 20) (hf : fLife_closeClaim N kv kp x1 σ = some σ') : Ct l Z y_Life_closeClaim prog_8_method_16_code 2 none (rmo (2)) [.ref (Z.1 + (279 + 187 * kv + 5 * kp)), .int x1] (cmb σ μ) none True (cmb σ' μ) := by
  refine x_met (by decide) (Nat.le_of_ble_eq_true rfl) (fun p e s m args below meth c ls hc hr hw hl => ?_)
  exact w_Life_closeClaim hc hr RO.self hkv hkp hw hl hf
theorem K_Life_closeClaim {idx : Nat} {N : Nat} {kv kp : Nat}  {x1 : Int32} {σ' : St} {σ : St} (hc : Cxz p s m meth c args cc own nL Z) (hw : Wd Z (cmb σ μ) s H locs) (hkv : kv < 2) (hkp : kp < 20) (hl : Cond.methodLink own idx y_Life_closeClaim ∈ TB) (hf : fLife_closeClaim N kv kp x1 σ = some σ') (hR : RO R ((2) + 1)) (hcs : cells ≤ R.cells ∧ slots ≤ R.slots) (hls : ls.size = nL) (hst : (rest.map fun v => v.category).sum ≤ 8) (hdg : decode cc pc = .ok (.invokevirtual idx, 3)) (kk : ∀ (H1 : Heap) (locs1 : List Loc), Wd Z (cmb σ' μ) s H1 locs1 → True → W p l e R s m args below meth c H1 locs1 cells slots Q (F0 m (pc + 3) ls rest)) : W p l e R s m args below meth c H locs cells slots Q (F0 m pc ls (.int x1 :: .ref (Z.1 + (279 + 187 * kv + 5 * kp)) :: rest)) :=
  x_iv hc hw (c_Life_closeClaim hkv hkp hf) yv_Life_closeClaim (wd_life (r := 0) hkv hkp (by decide) (by omega)).1 (wd_life (r := 0) hkv hkp (by decide) (by omega)).2 rfl hl (RO.call hR (by decide)) hcs rfl hls hst hdg rfl kk
set_option maxRecDepth 10000 in
theorem w_Life_isHired {N : Nat} {kv kp : Nat} (hc : Cxz p s m meth c args prog_8_method_9_code "LabourExchange$Life" 3 Z) (hr : meth.sig.returnType = (some .boolean)) (hR : RO R 3) (hkv : kv < 2) (hkp : kp < 20) {rv : Int32} {σ' : St} : ∀ {x1 : Int32} {x2 : Int32} {σ : St} {H : Heap} {locs : List Loc} {ls : Array Slot}, Wd Z (cmb σ μ) s H locs → lv_has ls 3 [(0, .ref (Z.1 + (279 + 187 * kv + 5 * kp))), (1, .int x1), (2, .int x2)] → fLife_isHired N kv kp x1 x2 σ = some (rv, σ') → W p l e R s m args below meth c H locs 0 0 (MQ below (Qr Z (some (.int rv)) True (cmb σ' μ)) args s 0 0 (fun q => Z.1 ≤ q)) (F0 m 0 ls []) := by
  have hx := hc.hx
  have hb := hc.hb
  intro x1 x2 σ H locs ls hw hl hf
  unfold fLife_isHired at hf
  refine lv_aload_n hx hb (dq tk_Life_isHired 0 rfl) rfl (lv_at hl 0 rfl) ?_
  refine G_Life_inWork hkv hkp hc hw wd_567 (dq tk_Life_isHired 1 rfl) ?_
  refine lv_if_ne (tgt := 14) hx hb (dq tk_Life_isHired 2 rfl) (by decide) (fun c1 => ?_) (fun c1 => ?_)
  · replace hf := if_f hf c1
    refine lv_iconst (v := 0) hx hb (dq tk_Life_isHired 6 rfl) (by decide) ?_
    cases hf
    exact x_zret hc hw hr (by decide) (dq tk_Life_isHired 7 rfl)
  · replace hf := if_t hf c1
    refine lv_aload_n hx hb (dq tk_Life_isHired 3 rfl) rfl (lv_at hl 0 rfl) ?_
    refine G_Life_away hkv hkp hc hw wd_568 (dq tk_Life_isHired 4 rfl) ?_
    refine lv_if_eq (tgt := 16) hx hb (dq tk_Life_isHired 5 rfl) (by decide) (fun c2 => ?_) (fun c2 => ?_)
    · replace hf := if_t hf c2
      refine lv_aload_n hx hb (dq tk_Life_isHired 8 rfl) rfl (lv_at hl 0 rfl) ?_
      refine lv_iconst (v := 1) hx hb (dq tk_Life_isHired 9 rfl) (by decide) ?_
      obtain ⟨σ1, hσ1, hf⟩ := nm_some hf
      refine P_Life_inWork hkv hkp hc hw wd_567 (by decide) hσ1 (dq tk_Life_isHired 10 rfl) (fun H locs hw => ?_)
      refine lv_aload_n hx hb (dq tk_Life_isHired 11 rfl) rfl (lv_at hl 0 rfl) ?_
      refine lv_iload_n hx hb (dq tk_Life_isHired 12 rfl) rfl (lv_at hl 1 rfl) ?_
      obtain ⟨σ2, hσ2, hf⟩ := nm_some hf
      refine P_Life_usual hkv hkp hc hw wd_573 hσ2 (dq tk_Life_isHired 13 rfl) (fun H locs hw => ?_)
      refine lv_aload_n hx hb (dq tk_Life_isHired 14 rfl) rfl (lv_at hl 0 rfl) ?_
      refine lv_iload_n hx hb (dq tk_Life_isHired 15 rfl) rfl (lv_at hl 2 rfl) ?_
      obtain ⟨σ3, h16, hf⟩ := bn1_someZ hf
      refine K_Life_closeClaim hc hw hkv hkp wd_867 h16 (hR.mono (by decide)) ⟨Nat.zero_le _, Nat.zero_le _⟩ hl.1 (Nat.le_of_ble_eq_true rfl) (dq tk_Life_isHired 16 rfl) (fun H locs hw _ => ?_)
      refine lv_iconst (v := 1) hx hb (dq tk_Life_isHired 17 rfl) (by decide) ?_
      cases hf
      exact x_zret hc hw hr (by decide) (dq tk_Life_isHired 18 rfl)
    · replace hf := if_f hf c2
      refine lv_iconst (v := 0) hx hb (dq tk_Life_isHired 6 rfl) (by decide) ?_
      cases hf
      exact x_zret hc hw hr (by decide) (dq tk_Life_isHired 7 rfl)
theorem c_Life_isHired {N : Nat} {kv kp : Nat}  {x1 : Int32} {x2 : Int32} {rv : Int32} {σ' : St} {σ : St} (hkv : kv < 2) (hkp : kp < 20) (hf : fLife_isHired N kv kp x1 x2 σ = some (rv, σ')) : Ct l Z y_Life_isHired prog_8_method_9_code 3 (some .boolean) (rmo (3)) [.ref (Z.1 + (279 + 187 * kv + 5 * kp)), .int x1, .int x2] (cmb σ μ) (some (.int rv)) True (cmb σ' μ) := by
  refine x_met (by decide) (Nat.le_of_ble_eq_true rfl) (fun p e s m args below meth c ls hc hr hw hl => ?_)
  exact w_Life_isHired hc hr RO.self hkv hkp hw hl hf
theorem K_Life_isHired {idx : Nat} {N : Nat} {kv kp : Nat}  {x1 : Int32} {x2 : Int32} {rv : Int32} {σ' : St} {σ : St} (hc : Cxz p s m meth c args cc own nL Z) (hw : Wd Z (cmb σ μ) s H locs) (hkv : kv < 2) (hkp : kp < 20) (hl : Cond.methodLink own idx y_Life_isHired ∈ TB) (hf : fLife_isHired N kv kp x1 x2 σ = some (rv, σ')) (hR : RO R ((3) + 1)) (hcs : cells ≤ R.cells ∧ slots ≤ R.slots) (hls : ls.size = nL) (hst : (rest.map fun v => v.category).sum ≤ 8) (hdg : decode cc pc = .ok (.invokevirtual idx, 3)) (kk : ∀ (H1 : Heap) (locs1 : List Loc), Wd Z (cmb σ' μ) s H1 locs1 → True → W p l e R s m args below meth c H1 locs1 cells slots Q (F0 m (pc + 3) ls (.int rv :: rest))) : W p l e R s m args below meth c H locs cells slots Q (F0 m pc ls (.int x2 :: .int x1 :: .ref (Z.1 + (279 + 187 * kv + 5 * kp)) :: rest)) :=
  x_iv hc hw (c_Life_isHired hkv hkp hf) yv_Life_isHired (wd_life (r := 0) hkv hkp (by decide) (by omega)).1 (wd_life (r := 0) hkv hkp (by decide) (by omega)).2 rfl hl (RO.call hR (by decide)) hcs rfl hls hst hdg rfl kk
set_option maxRecDepth 10000 in
theorem w_Law_insures {N : Nat} {kv : Nat} (hc : Cxz p s m meth c args prog_7_method_8_code "LabourExchange$Law" 3 Z) (hr : meth.sig.returnType = (some .boolean)) (hR : RO R 0) (hkv : kv < 2) {rv : Int32} {σ : St} : ∀ {x1 : Int32} {x2 : Int32} {H : Heap} {locs : List Loc} {ls : Array Slot}, Wd Z (cmb σ μ) s H locs → lv_has ls 3 [(0, .ref (Z.1 + (197 + 187 * kv))), (1, .int x1), (2, .int x2)] → fLaw_insures N kv x1 x2 σ = some rv → W p l e R s m args below meth c H locs 0 0 (MQ below (Qr Z (some (.int rv)) True (cmb σ μ)) args s 0 0 (fun q => Z.1 ≤ q)) (F0 m 0 ls []) := by
  have hx := hc.hx
  have hb := hc.hb
  intro x1 x2 H locs ls hw hl hf
  unfold fLaw_insures at hf
  refine lv_aload_n hx hb (dq tk_Law_insures 0 rfl) rfl (lv_at hl 0 rfl) ?_
  refine G_Law_insured hkv hc hw wd_502 (dq tk_Law_insures 1 rfl) ?_
  refine lv_aload_n hx hb (dq tk_Law_insures 2 rfl) rfl (lv_at hl 0 rfl) ?_
  refine G_Law_spanOf hkv hc hw wd_498 (dq tk_Law_insures 3 rfl) ?_
  refine lv_iload_n hx hb (dq tk_Law_insures 4 rfl) rfl (lv_at hl 2 rfl) ?_
  obtain ⟨c1, hf⟩ := chk_some hf
  refine AL_Law_spanOf hkv hc hw c1 (dq tk_Law_insures 5 rfl) ?_
  obtain ⟨c2, hf⟩ := chk_some hf
  refine AL_Law_insured hkv hc hw c2 (dq tk_Law_insures 6 rfl) ?_
  refine lv_iload_n hx hb (dq tk_Law_insures 7 rfl) rfl (lv_at hl 1 rfl) ?_
  refine lv_ishr hx hb (dq tk_Law_insures 8 rfl) ?_
  refine lv_iconst (v := 1) hx hb (dq tk_Law_insures 9 rfl) (by decide) ?_
  refine lv_iand hx hb (dq tk_Law_insures 10 rfl) ?_
  refine lv_if_eq (tgt := 22) hx hb (dq tk_Law_insures 11 rfl) (by decide) (fun c3 => ?_) (fun c3 => ?_)
  · replace hf := if_t hf c3
    refine lv_iconst (v := 0) hx hb (dq tk_Law_insures 14 rfl) (by decide) ?_
    cases hf
    exact x_zret hc hw hr (by decide) (dq tk_Law_insures 15 rfl)
  · replace hf := if_f hf c3
    refine lv_iconst (v := 1) hx hb (dq tk_Law_insures 12 rfl) (by decide) ?_
    refine lv_goto (tgt := 23) hx hb (dq tk_Law_insures 13 rfl) (by decide) ?_
    cases hf
    exact x_zret hc hw hr (by decide) (dq tk_Law_insures 15 rfl)
theorem c_Law_insures {N : Nat} {kv : Nat}  {x1 : Int32} {x2 : Int32} {rv : Int32} {σ : St} (hkv : kv < 2) (hf : fLaw_insures N kv x1 x2 σ = some rv) : Ct l Z y_Law_insures prog_7_method_8_code 3 (some .boolean) (rmo (0)) [.ref (Z.1 + (197 + 187 * kv)), .int x1, .int x2] (cmb σ μ) (some (.int rv)) True (cmb σ μ) := by
  refine x_met (by decide) (Nat.le_of_ble_eq_true rfl) (fun p e s m args below meth c ls hc hr hw hl => ?_)
  exact w_Law_insures hc hr RO.self hkv hw hl hf
theorem K_Law_insures {idx : Nat} {N : Nat} {kv : Nat}  {x1 : Int32} {x2 : Int32} {rv : Int32} {σ : St} (hc : Cxz p s m meth c args cc own nL Z) (hw : Wd Z (cmb σ μ) s H locs) (hkv : kv < 2) (hl : Cond.methodLink own idx y_Law_insures ∈ TB) (hf : fLaw_insures N kv x1 x2 σ = some rv) (hR : RO R ((0) + 1)) (hcs : cells ≤ R.cells ∧ slots ≤ R.slots) (hls : ls.size = nL) (hst : (rest.map fun v => v.category).sum ≤ 8) (hdg : decode cc pc = .ok (.invokevirtual idx, 3)) (kk : ∀ (H1 : Heap) (locs1 : List Loc), Wd Z (cmb σ μ) s H1 locs1 → True → W p l e R s m args below meth c H1 locs1 cells slots Q (F0 m (pc + 3) ls (.int rv :: rest))) : W p l e R s m args below meth c H locs cells slots Q (F0 m pc ls (.int x2 :: .int x1 :: .ref (Z.1 + (197 + 187 * kv)) :: rest)) :=
  x_iv hc hw (c_Law_insures hkv hf) yv_Law_insures (wd_view (r := 5) hkv (by decide) (by omega)).1 (wd_view (r := 5) hkv (by decide) (by omega)).2 rfl hl (RO.call hR (by decide)) hcs rfl hls hst hdg rfl kk
set_option maxRecDepth 10000 in
theorem w_Life_startClaim_24 {N : Nat} {kv kp : Nat} (hc : Cxz p s m meth c args prog_8_method_11_code "LabourExchange$Life" 6 Z) (hr : meth.sig.returnType = none) (hR : RO R 2) (hkv : kv < 2) (hkp : kp < 20) {σ' : St} (n : Nat) : ∀ {x1 : Int32} {x2 : Int32} {x3 : Int32} {x4 : Int32} {x5 : Int32} {σ : St} {H : Heap} {locs : List Loc} {ls : Array Slot}, Wd Z (cmb σ μ) s H locs → lv_has ls 6 [(0, .ref (Z.1 + (279 + 187 * kv + 5 * kp))), (1, .int x1), (2, .int x2), (3, .int x3), (4, .int x4), (5, .int x5)] → fLife_startClaim_24 N kv kp n x1 x2 x3 x4 x5 σ = some σ' → W p l e R s m args below meth c H locs 0 0 (MQ below (Qr Z none True (cmb σ' μ)) args s 0 0 (fun q => Z.1 ≤ q)) (F0 m 24 ls []) := by
  have hx := hc.hx
  have hb := hc.hb
  induction n with
  | zero =>
    intro x1 x2 x3 x4 x5 σ H locs ls hw hl hf
    have hf : none = some _ := hf
    cases hf
  | succ n ih =>
    intro x1 x2 x3 x4 x5 σ H locs ls hw hl hf
    unfold fLife_startClaim_24 at hf
    refine lv_iload hx hb (dq tk_Life_startClaim 14 rfl) (lv_at hl 5 rfl) ?_
    refine lv_bipush (v := 11) hx hb (dq tk_Life_startClaim 15 rfl) (by decide) ?_
    refine lv_icmp_ge (tgt := 47) hx hb (dq tk_Life_startClaim 16 rfl) (by decide) (fun c1 => ?_) (fun c1 => ?_)
    · replace hf := if_t hf c1
      refine lv_aload_n hx hb (dq tk_Life_startClaim 26 rfl) rfl (lv_at hl 0 rfl) ?_
      refine G_Life_claims hkv hkp hc hw wd_552 (dq tk_Life_startClaim 27 rfl) ?_
      refine lv_iload_n hx hb (dq tk_Life_startClaim 28 rfl) rfl (lv_at hl 1 rfl) ?_
      refine lv_iconst (v := 0) hx hb (dq tk_Life_startClaim 29 rfl) (by decide) ?_
      refine lv_iadd hx hb (dq tk_Life_startClaim 30 rfl) ?_
      refine lv_iload_n hx hb (dq tk_Life_startClaim 31 rfl) rfl (lv_at hl 2 rfl) ?_
      obtain ⟨c2, hf⟩ := chk_some hf
      obtain ⟨σ1, hσ1, hf⟩ := nm_some hf
      refine AS_Life_claims hkv hkp hc hw c2 hσ1 (dq tk_Life_startClaim 32 rfl) (fun H locs hw => ?_)
      refine lv_aload_n hx hb (dq tk_Life_startClaim 33 rfl) rfl (lv_at hl 0 rfl) ?_
      refine G_Life_claims hkv hkp hc hw wd_552 (dq tk_Life_startClaim 34 rfl) ?_
      refine lv_iload_n hx hb (dq tk_Life_startClaim 35 rfl) rfl (lv_at hl 1 rfl) ?_
      refine lv_iconst (v := 1) hx hb (dq tk_Life_startClaim 36 rfl) (by decide) ?_
      refine lv_iadd hx hb (dq tk_Life_startClaim 37 rfl) ?_
      refine lv_iload_n hx hb (dq tk_Life_startClaim 38 rfl) rfl (lv_at hl 3 rfl) ?_
      refine lv_iload hx hb (dq tk_Life_startClaim 39 rfl) (lv_at hl 4 rfl) ?_
      obtain ⟨c3, hf⟩ := chk_some hf
      refine lv_idiv hx hb (dq tk_Life_startClaim 40 rfl) c3 ?_
      refine lv_aload_n hx hb (dq tk_Life_startClaim 41 rfl) rfl (lv_at hl 0 rfl) ?_
      refine G_Life_law hkv hkp hc hw wd_549 (dq tk_Life_startClaim 42 rfl) ?_
      refine lv_iconst (v := 3) hx hb (dq tk_Life_startClaim 43 rfl) (by decide) ?_
      refine lv_iload_n hx hb (dq tk_Life_startClaim 44 rfl) rfl (lv_at hl 2 rfl) ?_
      obtain ⟨r2, h45, hf⟩ := bn1_someZ hf
      refine K_Law_param hc hw hkv wd_821 h45 (hR.mono (by decide)) ⟨Nat.zero_le _, Nat.zero_le _⟩ hl.1 (Nat.le_of_ble_eq_true rfl) (dq tk_Life_startClaim 45 rfl) (fun H locs hw _ => ?_)
      obtain ⟨r3, h46, hf⟩ := bn1_someZ hf
      refine K_Math_min_I hc hw wd_883 h46 (hR.mono (by decide)) ⟨Nat.zero_le _, Nat.zero_le _⟩ hl.1 (Nat.le_of_ble_eq_true rfl) (dq tk_Life_startClaim 46 rfl) (fun H locs hw _ => ?_)
      obtain ⟨c4, hf⟩ := chk_some hf
      obtain ⟨σ4, hσ4, hf⟩ := nm_some hf
      refine AS_Life_claims hkv hkp hc hw c4 hσ4 (dq tk_Life_startClaim 47 rfl) (fun H locs hw => ?_)
      refine lv_aload_n hx hb (dq tk_Life_startClaim 48 rfl) rfl (lv_at hl 0 rfl) ?_
      refine G_Life_claims hkv hkp hc hw wd_552 (dq tk_Life_startClaim 49 rfl) ?_
      refine lv_iload_n hx hb (dq tk_Life_startClaim 50 rfl) rfl (lv_at hl 1 rfl) ?_
      refine lv_bipush (v := 9) hx hb (dq tk_Life_startClaim 51 rfl) (by decide) ?_
      refine lv_iadd hx hb (dq tk_Life_startClaim 52 rfl) ?_
      refine lv_iload_n hx hb (dq tk_Life_startClaim 53 rfl) rfl (lv_at hl 3 rfl) ?_
      obtain ⟨c5, hf⟩ := chk_some hf
      obtain ⟨σ5, hσ5, hf⟩ := nm_some hf
      refine AS_Life_claims hkv hkp hc hw c5 hσ5 (dq tk_Life_startClaim 54 rfl) (fun H locs hw => ?_)
      refine lv_aload_n hx hb (dq tk_Life_startClaim 55 rfl) rfl (lv_at hl 0 rfl) ?_
      refine G_Life_claims hkv hkp hc hw wd_552 (dq tk_Life_startClaim 56 rfl) ?_
      refine lv_iload_n hx hb (dq tk_Life_startClaim 57 rfl) rfl (lv_at hl 1 rfl) ?_
      refine lv_bipush (v := 10) hx hb (dq tk_Life_startClaim 58 rfl) (by decide) ?_
      refine lv_iadd hx hb (dq tk_Life_startClaim 59 rfl) ?_
      refine lv_aload_n hx hb (dq tk_Life_startClaim 60 rfl) rfl (lv_at hl 0 rfl) ?_
      refine lv_iload_n hx hb (dq tk_Life_startClaim 61 rfl) rfl (lv_at hl 2 rfl) ?_
      obtain ⟨r6, h62, hf⟩ := bn1_someZ hf
      refine K_Life_unknownAhead hc hw hkv hkp wd_836 h62 (hR.mono (by decide)) ⟨Nat.zero_le _, Nat.zero_le _⟩ hl.1 (Nat.le_of_ble_eq_true rfl) (dq tk_Life_startClaim 62 rfl) (fun H locs hw _ => ?_)
      obtain ⟨c6, hf⟩ := chk_some hf
      obtain ⟨σ7, hσ7, hf⟩ := nm_some hf
      refine AS_Life_claims hkv hkp hc hw c6 hσ7 (dq tk_Life_startClaim 63 rfl) (fun H locs hw => ?_)
      cases hf
      exact x_vret hc hw hr (dq tk_Life_startClaim 64 rfl)
    · replace hf := if_f hf c1
      refine lv_aload_n hx hb (dq tk_Life_startClaim 17 rfl) rfl (lv_at hl 0 rfl) ?_
      refine G_Life_claims hkv hkp hc hw wd_552 (dq tk_Life_startClaim 18 rfl) ?_
      refine lv_iload_n hx hb (dq tk_Life_startClaim 19 rfl) rfl (lv_at hl 1 rfl) ?_
      refine lv_iload hx hb (dq tk_Life_startClaim 20 rfl) (lv_at hl 5 rfl) ?_
      refine lv_iadd hx hb (dq tk_Life_startClaim 21 rfl) ?_
      refine lv_iconst (v := 0) hx hb (dq tk_Life_startClaim 22 rfl) (by decide) ?_
      obtain ⟨c7, hf⟩ := chk_some hf
      obtain ⟨σ8, hσ8, hf⟩ := nm_some hf
      refine AS_Life_claims hkv hkp hc hw c7 hσ8 (dq tk_Life_startClaim 23 rfl) (fun H locs hw => ?_)
      refine lv_iinc (v := (x5 + 1)) (lv' := [(5, .int (x5 + 1)), (0, .ref (Z.1 + (279 + 187 * kv + 5 * kp))), (1, .int x1), (2, .int x2), (3, .int x3), (4, .int x4)]) hx hb (dq tk_Life_startClaim 24 rfl) hl (k := 5) rfl rfl (by decide) rfl (fun ls hl => ?_)
      refine lv_goto (tgt := 24) hx hb (dq tk_Life_startClaim 25 rfl) (by decide) ?_
      exact ih hw (lv_sub hl [1, 2, 3, 4, 5, 0] rfl) hf
set_option maxRecDepth 10000 in
theorem w_Life_startClaim {N : Nat} {kv kp : Nat} (hc : Cxz p s m meth c args prog_8_method_11_code "LabourExchange$Life" 6 Z) (hr : meth.sig.returnType = none) (hR : RO R 2) (hkv : kv < 2) (hkp : kp < 20) {σ' : St} : ∀ {x1 : Int32} {x2 : Int32} {σ : St} {H : Heap} {locs : List Loc} {ls : Array Slot}, Wd Z (cmb σ μ) s H locs → lv_has ls 6 [(0, .ref (Z.1 + (279 + 187 * kv + 5 * kp))), (1, .int x1), (2, .int x2)] → fLife_startClaim N kv kp x1 x2 σ = some σ' → W p l e R s m args below meth c H locs 0 0 (MQ below (Qr Z none True (cmb σ' μ)) args s 0 0 (fun q => Z.1 ≤ q)) (F0 m 0 ls []) := by
  have hx := hc.hx
  have hb := hc.hb
  intro x1 x2 σ H locs ls hw hl hf
  unfold fLife_startClaim at hf
  refine lv_aload_n hx hb (dq tk_Life_startClaim 0 rfl) rfl (lv_at hl 0 rfl) ?_
  refine lv_iload_n hx hb (dq tk_Life_startClaim 1 rfl) rfl (lv_at hl 2 rfl) ?_
  obtain ⟨r1, h2, hf⟩ := bn1_someZ hf
  refine K_Life_stampsAhead hc hw hkv hkp wd_832 h2 (hR.mono (by decide)) ⟨Nat.zero_le _, Nat.zero_le _⟩ hl.1 (Nat.le_of_ble_eq_true rfl) (dq tk_Life_startClaim 2 rfl) (fun H locs hw _ => ?_)
  refine lv_istore_n (lv' := [(3, .int r1), (0, .ref (Z.1 + (279 + 187 * kv + 5 * kp))), (1, .int x1), (2, .int x2)]) hx hb (dq tk_Life_startClaim 3 rfl) rfl hl (by decide) rfl (fun ls hl => ?_)
  refine lv_iconst (v := 1) hx hb (dq tk_Life_startClaim 4 rfl) (by decide) ?_
  refine lv_aload_n hx hb (dq tk_Life_startClaim 5 rfl) rfl (lv_at hl 1 rfl) ?_
  refine G_Life_law hkv hkp hc hw wd_549 (dq tk_Life_startClaim 6 rfl) ?_
  refine lv_iconst (v := 4) hx hb (dq tk_Life_startClaim 7 rfl) (by decide) ?_
  refine lv_iload_n hx hb (dq tk_Life_startClaim 8 rfl) rfl (lv_at hl 3 rfl) ?_
  obtain ⟨r2, h9, hf⟩ := bn1_someZ hf
  refine K_Law_param hc hw hkv wd_821 h9 (hR.mono (by decide)) ⟨Nat.zero_le _, Nat.zero_le _⟩ hl.1 (Nat.le_of_ble_eq_true rfl) (dq tk_Life_startClaim 9 rfl) (fun H locs hw _ => ?_)
  obtain ⟨r3, h10, hf⟩ := bn1_someZ hf
  refine K_Math_max_I hc hw wd_829 h10 (hR.mono (by decide)) ⟨Nat.zero_le _, Nat.zero_le _⟩ hl.1 (Nat.le_of_ble_eq_true rfl) (dq tk_Life_startClaim 10 rfl) (fun H locs hw _ => ?_)
  refine lv_istore (lv' := [(4, .int r3), (3, .int r1), (0, .ref (Z.1 + (279 + 187 * kv + 5 * kp))), (1, .int x1), (2, .int x2)]) hx hb (dq tk_Life_startClaim 11 rfl) hl (by decide) rfl (fun ls hl => ?_)
  refine lv_iconst (v := 0) hx hb (dq tk_Life_startClaim 12 rfl) (by decide) ?_
  refine lv_istore (lv' := [(5, .int 0), (4, .int r3), (3, .int r1), (0, .ref (Z.1 + (279 + 187 * kv + 5 * kp))), (1, .int x1), (2, .int x2)]) hx hb (dq tk_Life_startClaim 13 rfl) hl (by decide) rfl (fun ls hl => ?_)
  exact w_Life_startClaim_24 hc hr hR hkv hkp N hw (lv_sub hl [3, 4, 5, 2, 1, 0] rfl) hf
theorem c_Life_startClaim {N : Nat} {kv kp : Nat}  {x1 : Int32} {x2 : Int32} {σ' : St} {σ : St} (hkv : kv < 2) (hkp : kp < 20) (hf : fLife_startClaim N kv kp x1 x2 σ = some σ') : Ct l Z y_Life_startClaim prog_8_method_11_code 6 none (rmo (2)) [.ref (Z.1 + (279 + 187 * kv + 5 * kp)), .int x1, .int x2] (cmb σ μ) none True (cmb σ' μ) := by
  refine x_met (by decide) (Nat.le_of_ble_eq_true rfl) (fun p e s m args below meth c ls hc hr hw hl => ?_)
  exact w_Life_startClaim hc hr RO.self hkv hkp hw hl hf
theorem K_Life_startClaim {idx : Nat} {N : Nat} {kv kp : Nat}  {x1 : Int32} {x2 : Int32} {σ' : St} {σ : St} (hc : Cxz p s m meth c args cc own nL Z) (hw : Wd Z (cmb σ μ) s H locs) (hkv : kv < 2) (hkp : kp < 20) (hl : Cond.methodLink own idx y_Life_startClaim ∈ TB) (hf : fLife_startClaim N kv kp x1 x2 σ = some σ') (hR : RO R ((2) + 1)) (hcs : cells ≤ R.cells ∧ slots ≤ R.slots) (hls : ls.size = nL) (hst : (rest.map fun v => v.category).sum ≤ 8) (hdg : decode cc pc = .ok (.invokevirtual idx, 3)) (kk : ∀ (H1 : Heap) (locs1 : List Loc), Wd Z (cmb σ' μ) s H1 locs1 → True → W p l e R s m args below meth c H1 locs1 cells slots Q (F0 m (pc + 3) ls rest)) : W p l e R s m args below meth c H locs cells slots Q (F0 m pc ls (.int x2 :: .int x1 :: .ref (Z.1 + (279 + 187 * kv + 5 * kp)) :: rest)) :=
  x_iv hc hw (c_Life_startClaim hkv hkp hf) yv_Life_startClaim (wd_life (r := 0) hkv hkp (by decide) (by omega)).1 (wd_life (r := 0) hkv hkp (by decide) (by omega)).2 rfl hl (RO.call hR (by decide)) hcs rfl hls hst hdg rfl kk
set_option maxRecDepth 10000 in
theorem w_Life_signs_125 {N : Nat} {kv kp : Nat} (hc : Cxz p s m meth c args prog_8_method_10_code "LabourExchange$Life" 2 Z) (hr : meth.sig.returnType = (some .boolean)) (hR : RO R 3) (hkv : kv < 2) (hkp : kp < 20) {rv : Int32} {σ' : St} : ∀ {σ : St} {H : Heap} {locs : List Loc} {ls : Array Slot}, Wd Z (cmb σ μ) s H locs → lv_has ls 2 [(0, .ref (Z.1 + (279 + 187 * kv + 5 * kp)))] → fLife_signs_125 N kv kp σ = some (rv, σ') → W p l e R s m args below meth c H locs 0 0 (MQ below (Qr Z (some (.int rv)) True (cmb σ' μ)) args s 0 0 (fun q => Z.1 ≤ q)) (F0 m 125 ls []) := by
  have hx := hc.hx
  have hb := hc.hb
  intro σ H locs ls hw hl hf
  unfold fLife_signs_125 at hf
  refine lv_aload_n hx hb (dq tk_Life_signs 65 rfl) rfl (lv_at hl 0 rfl) ?_
  refine lv_iconst (v := 1) hx hb (dq tk_Life_signs 66 rfl) (by decide) ?_
  obtain ⟨σ1, hσ1, hf⟩ := nm_some hf
  refine P_Life_open hkv hkp hc hw wd_564 (by decide) hσ1 (dq tk_Life_signs 67 rfl) (fun H locs hw => ?_)
  refine lv_aload_n hx hb (dq tk_Life_signs 68 rfl) rfl (lv_at hl 0 rfl) ?_
  refine G_Life_claims hkv hkp hc hw wd_552 (dq tk_Life_signs 69 rfl) ?_
  refine lv_aload_n hx hb (dq tk_Life_signs 70 rfl) rfl (lv_at hl 0 rfl) ?_
  obtain ⟨r2, h71, hf⟩ := bn1_someZ hf
  refine K_Life_rowOfLatest hc hw hkv hkp wd_825 h71 (hR.mono (by decide)) ⟨Nat.zero_le _, Nat.zero_le _⟩ hl.1 (Nat.le_of_ble_eq_true rfl) (dq tk_Life_signs 71 rfl) (fun H locs hw _ => ?_)
  refine lv_bipush (v := 8) hx hb (dq tk_Life_signs 72 rfl) (by decide) ?_
  refine lv_iadd hx hb (dq tk_Life_signs 73 rfl) ?_
  refine lv_iconst (v := 1) hx hb (dq tk_Life_signs 74 rfl) (by decide) ?_
  obtain ⟨c1, hf⟩ := chk_some hf
  obtain ⟨σ3, hσ3, hf⟩ := nm_some hf
  refine AS_Life_claims hkv hkp hc hw c1 hσ3 (dq tk_Life_signs 75 rfl) (fun H locs hw => ?_)
  refine lv_iconst (v := 1) hx hb (dq tk_Life_signs 76 rfl) (by decide) ?_
  cases hf
  exact x_zret hc hw hr (by decide) (dq tk_Life_signs 77 rfl)
set_option maxRecDepth 10000 in
theorem w_Life_signs_97 {N : Nat} {kv kp : Nat} (hc : Cxz p s m meth c args prog_8_method_10_code "LabourExchange$Life" 2 Z) (hr : meth.sig.returnType = (some .boolean)) (hR : RO R 3) (hkv : kv < 2) (hkp : kp < 20) {rv : Int32} {σ' : St} : ∀ {x1 : Int32} {σ : St} {H : Heap} {locs : List Loc} {ls : Array Slot}, Wd Z (cmb σ μ) s H locs → lv_has ls 2 [(0, .ref (Z.1 + (279 + 187 * kv + 5 * kp))), (1, .int x1)] → fLife_signs_97 N kv kp x1 σ = some (rv, σ') → W p l e R s m args below meth c H locs 0 0 (MQ below (Qr Z (some (.int rv)) True (cmb σ' μ)) args s 0 0 (fun q => Z.1 ≤ q)) (F0 m 97 ls []) := by
  have hx := hc.hx
  have hb := hc.hb
  intro x1 σ H locs ls hw hl hf
  unfold fLife_signs_97 at hf
  refine lv_aload_n hx hb (dq tk_Life_signs 50 rfl) rfl (lv_at hl 0 rfl) ?_
  refine G_Life_claimCount hkv hkp hc hw wd_562 (dq tk_Life_signs 51 rfl) ?_
  refine lv_bipush (v := 55) hx hb (dq tk_Life_signs 52 rfl) (by decide) ?_
  refine lv_icmp_ge (tgt := 125) hx hb (dq tk_Life_signs 53 rfl) (by decide) (fun c1 => ?_) (fun c1 => ?_)
  · replace hf := if_t hf c1
    exact w_Life_signs_125 hc hr hR hkv hkp hw (lv_sub hl [0] rfl) hf
  · replace hf := if_f hf c1
    refine lv_aload_n hx hb (dq tk_Life_signs 54 rfl) rfl (lv_at hl 0 rfl) ?_
    refine lv_dup hx hb (dq tk_Life_signs 55 rfl) rfl ?_
    refine G_Life_claimCount hkv hkp hc hw wd_562 (dq tk_Life_signs 56 rfl) ?_
    refine lv_iconst (v := 1) hx hb (dq tk_Life_signs 57 rfl) (by decide) ?_
    refine lv_iadd hx hb (dq tk_Life_signs 58 rfl) ?_
    obtain ⟨σ1, hσ1, hf⟩ := nm_some hf
    refine P_Life_claimCount hkv hkp hc hw wd_562 hσ1 (dq tk_Life_signs 59 rfl) (fun H locs hw => ?_)
    refine lv_aload_n hx hb (dq tk_Life_signs 60 rfl) rfl (lv_at hl 0 rfl) ?_
    refine lv_aload_n hx hb (dq tk_Life_signs 61 rfl) rfl (lv_at hl 0 rfl) ?_
    obtain ⟨r2, h62, hf⟩ := bn1_someZ hf
    refine K_Life_rowOfLatest hc hw hkv hkp wd_825 h62 (hR.mono (by decide)) ⟨Nat.zero_le _, Nat.zero_le _⟩ hl.1 (Nat.le_of_ble_eq_true rfl) (dq tk_Life_signs 62 rfl) (fun H locs hw _ => ?_)
    refine lv_iload_n hx hb (dq tk_Life_signs 63 rfl) rfl (lv_at hl 1 rfl) ?_
    obtain ⟨σ3, h64, hf⟩ := bn1_someZ hf
    refine K_Life_startClaim hc hw hkv hkp wd_879 h64 (hR.mono (by decide)) ⟨Nat.zero_le _, Nat.zero_le _⟩ hl.1 (Nat.le_of_ble_eq_true rfl) (dq tk_Life_signs 64 rfl) (fun H locs hw _ => ?_)
    exact w_Life_signs_125 hc hr hR hkv hkp hw (lv_sub hl [0] rfl) hf
set_option maxRecDepth 10000 in
theorem w_Life_signs_14 {N : Nat} {kv kp : Nat} (hc : Cxz p s m meth c args prog_8_method_10_code "LabourExchange$Life" 2 Z) (hr : meth.sig.returnType = (some .boolean)) (hR : RO R 3) (hkv : kv < 2) (hkp : kp < 20) {rv : Int32} {σ' : St} : ∀ {x1 : Int32} {σ : St} {H : Heap} {locs : List Loc} {ls : Array Slot}, Wd Z (cmb σ μ) s H locs → lv_has ls 2 [(0, .ref (Z.1 + (279 + 187 * kv + 5 * kp))), (1, .int x1)] → fLife_signs_14 N kv kp x1 σ = some (rv, σ') → W p l e R s m args below meth c H locs 0 0 (MQ below (Qr Z (some (.int rv)) True (cmb σ' μ)) args s 0 0 (fun q => Z.1 ≤ q)) (F0 m 14 ls []) := by
  have hx := hc.hx
  have hb := hc.hb
  intro x1 σ H locs ls hw hl hf
  unfold fLife_signs_14 at hf
  refine lv_aload_n hx hb (dq tk_Life_signs 6 rfl) rfl (lv_at hl 0 rfl) ?_
  refine G_Life_away hkv hkp hc hw wd_568 (dq tk_Life_signs 7 rfl) ?_
  refine lv_if_ne (tgt := 51) hx hb (dq tk_Life_signs 8 rfl) (by decide) (fun c1 => ?_) (fun c1 => ?_)
  · replace hf := if_f hf c1
    refine lv_iconst (v := 0) hx hb (dq tk_Life_signs 23 rfl) (by decide) ?_
    cases hf
    exact x_zret hc hw hr (by decide) (dq tk_Life_signs 24 rfl)
  · replace hf := if_t hf c1
    refine lv_aload_n hx hb (dq tk_Life_signs 9 rfl) rfl (lv_at hl 0 rfl) ?_
    refine G_Life_open hkv hkp hc hw wd_564 (dq tk_Life_signs 10 rfl) ?_
    refine lv_if_ne (tgt := 51) hx hb (dq tk_Life_signs 11 rfl) (by decide) (fun c2 => ?_) (fun c2 => ?_)
    · replace hf := if_f hf c2
      refine lv_iconst (v := 0) hx hb (dq tk_Life_signs 23 rfl) (by decide) ?_
      cases hf
      exact x_zret hc hw hr (by decide) (dq tk_Life_signs 24 rfl)
    · replace hf := if_t hf c2
      refine lv_aload_n hx hb (dq tk_Life_signs 12 rfl) rfl (lv_at hl 0 rfl) ?_
      refine G_Life_law hkv hkp hc hw wd_549 (dq tk_Life_signs 13 rfl) ?_
      refine lv_aload_n hx hb (dq tk_Life_signs 14 rfl) rfl (lv_at hl 0 rfl) ?_
      refine G_Life_land hkv hkp hc hw wd_547 (dq tk_Life_signs 15 rfl) ?_
      refine G_Land_trade hc hw wd_93 (dq tk_Life_signs 16 rfl) ?_
      refine lv_aload_n hx hb (dq tk_Life_signs 17 rfl) rfl (lv_at hl 0 rfl) ?_
      refine G_Life_person hkv hkp hc hw wd_545 (dq tk_Life_signs 18 rfl) ?_
      obtain ⟨c3, hf⟩ := chk_some hf
      refine AL_Land_trade hc hw c3 (dq tk_Life_signs 19 rfl) ?_
      refine lv_iload_n hx hb (dq tk_Life_signs 20 rfl) rfl (lv_at hl 1 rfl) ?_
      obtain ⟨r1, h21, hf⟩ := bn1_someZ hf
      refine K_Law_insures hc hw hkv wd_875 h21 (hR.mono (by decide)) ⟨Nat.zero_le _, Nat.zero_le _⟩ hl.1 (Nat.le_of_ble_eq_true rfl) (dq tk_Life_signs 21 rfl) (fun H locs hw _ => ?_)
      refine lv_if_ne (tgt := 53) hx hb (dq tk_Life_signs 22 rfl) (by decide) (fun c4 => ?_) (fun c4 => ?_)
      · replace hf := if_f hf c4
        refine lv_aload_n hx hb (dq tk_Life_signs 25 rfl) rfl (lv_at hl 0 rfl) ?_
        refine G_Life_claimCount hkv hkp hc hw wd_562 (dq tk_Life_signs 26 rfl) ?_
        refine lv_if_le (tgt := 97) hx hb (dq tk_Life_signs 27 rfl) (by decide) (fun c5 => ?_) (fun c5 => ?_)
        · replace hf := if_t hf c5
          exact w_Life_signs_97 hc hr hR hkv hkp hw (lv_sub hl [0, 1] rfl) hf
        · replace hf := if_f hf c5
          refine lv_iload_n hx hb (dq tk_Life_signs 28 rfl) rfl (lv_at hl 1 rfl) ?_
          refine lv_aload_n hx hb (dq tk_Life_signs 29 rfl) rfl (lv_at hl 0 rfl) ?_
          refine G_Life_closedOn hkv hkp hc hw wd_566 (dq tk_Life_signs 30 rfl) ?_
          refine lv_isub hx hb (dq tk_Life_signs 31 rfl) ?_
          refine lv_aload_n hx hb (dq tk_Life_signs 32 rfl) rfl (lv_at hl 0 rfl) ?_
          refine G_Life_law hkv hkp hc hw wd_549 (dq tk_Life_signs 33 rfl) ?_
          refine lv_iconst (v := 1) hx hb (dq tk_Life_signs 34 rfl) (by decide) ?_
          refine lv_iload_n hx hb (dq tk_Life_signs 35 rfl) rfl (lv_at hl 1 rfl) ?_
          obtain ⟨r2, h36, hf⟩ := bn1_someZ hf
          refine K_Law_param hc hw hkv wd_821 h36 (hR.mono (by decide)) ⟨Nat.zero_le _, Nat.zero_le _⟩ hl.1 (Nat.le_of_ble_eq_true rfl) (dq tk_Life_signs 36 rfl) (fun H locs hw _ => ?_)
          refine lv_icmp_gt (tgt := 97) hx hb (dq tk_Life_signs 37 rfl) (by decide) (fun c6 => ?_) (fun c6 => ?_)
          · replace hf := if_t hf c6
            exact w_Life_signs_97 hc hr hR hkv hkp hw (lv_sub hl [0, 1] rfl) hf
          · replace hf := if_f hf c6
            refine lv_aload_n hx hb (dq tk_Life_signs 38 rfl) rfl (lv_at hl 0 rfl) ?_
            refine G_Life_claims hkv hkp hc hw wd_552 (dq tk_Life_signs 39 rfl) ?_
            refine lv_aload_n hx hb (dq tk_Life_signs 40 rfl) rfl (lv_at hl 0 rfl) ?_
            obtain ⟨r3, h41, hf⟩ := bn1_someZ hf
            refine K_Life_rowOfLatest hc hw hkv hkp wd_825 h41 (hR.mono (by decide)) ⟨Nat.zero_le _, Nat.zero_le _⟩ hl.1 (Nat.le_of_ble_eq_true rfl) (dq tk_Life_signs 41 rfl) (fun H locs hw _ => ?_)
            refine lv_bipush (v := 7) hx hb (dq tk_Life_signs 42 rfl) (by decide) ?_
            refine lv_iadd hx hb (dq tk_Life_signs 43 rfl) ?_
            refine lv_dup2_11 hx hb (dq tk_Life_signs 44 rfl) rfl rfl ?_
            obtain ⟨c7, hf⟩ := chk_some hf
            refine AL_Life_claims hkv hkp hc hw c7 (dq tk_Life_signs 45 rfl) ?_
            refine lv_iconst (v := 1) hx hb (dq tk_Life_signs 46 rfl) (by decide) ?_
            refine lv_iadd hx hb (dq tk_Life_signs 47 rfl) ?_
            obtain ⟨σ4, hσ4, hf⟩ := nm_some hf
            refine AS_Life_claims hkv hkp hc hw c7 hσ4 (dq tk_Life_signs 48 rfl) (fun H locs hw => ?_)
            refine lv_goto (tgt := 125) hx hb (dq tk_Life_signs 49 rfl) (by decide) ?_
            exact w_Life_signs_125 hc hr hR hkv hkp hw (lv_sub hl [0] rfl) hf
      · replace hf := if_t hf c4
        refine lv_iconst (v := 0) hx hb (dq tk_Life_signs 23 rfl) (by decide) ?_
        cases hf
        exact x_zret hc hw hr (by decide) (dq tk_Life_signs 24 rfl)
set_option maxRecDepth 10000 in
theorem w_Life_signs {N : Nat} {kv kp : Nat} (hc : Cxz p s m meth c args prog_8_method_10_code "LabourExchange$Life" 2 Z) (hr : meth.sig.returnType = (some .boolean)) (hR : RO R 3) (hkv : kv < 2) (hkp : kp < 20) {rv : Int32} {σ' : St} : ∀ {x1 : Int32} {σ : St} {H : Heap} {locs : List Loc} {ls : Array Slot}, Wd Z (cmb σ μ) s H locs → lv_has ls 2 [(0, .ref (Z.1 + (279 + 187 * kv + 5 * kp))), (1, .int x1)] → fLife_signs N kv kp x1 σ = some (rv, σ') → W p l e R s m args below meth c H locs 0 0 (MQ below (Qr Z (some (.int rv)) True (cmb σ' μ)) args s 0 0 (fun q => Z.1 ≤ q)) (F0 m 0 ls []) := by
  have hx := hc.hx
  have hb := hc.hb
  intro x1 σ H locs ls hw hl hf
  unfold fLife_signs at hf
  refine lv_aload_n hx hb (dq tk_Life_signs 0 rfl) rfl (lv_at hl 0 rfl) ?_
  refine G_Life_inWork hkv hkp hc hw wd_567 (dq tk_Life_signs 1 rfl) ?_
  refine lv_if_eq (tgt := 14) hx hb (dq tk_Life_signs 2 rfl) (by decide) (fun c1 => ?_) (fun c1 => ?_)
  · replace hf := if_t hf c1
    exact w_Life_signs_14 hc hr hR hkv hkp hw (lv_sub hl [0, 1] rfl) hf
  · replace hf := if_f hf c1
    refine lv_aload_n hx hb (dq tk_Life_signs 3 rfl) rfl (lv_at hl 0 rfl) ?_
    refine G_Life_daysShort hkv hkp hc hw wd_569 (dq tk_Life_signs 4 rfl) ?_
    refine lv_if_eq (tgt := 51) hx hb (dq tk_Life_signs 5 rfl) (by decide) (fun c2 => ?_) (fun c2 => ?_)
    · replace hf := if_t hf c2
      refine lv_iconst (v := 0) hx hb (dq tk_Life_signs 23 rfl) (by decide) ?_
      cases hf
      exact x_zret hc hw hr (by decide) (dq tk_Life_signs 24 rfl)
    · replace hf := if_f hf c2
      exact w_Life_signs_14 hc hr hR hkv hkp hw (lv_sub hl [0, 1] rfl) hf
theorem c_Life_signs {N : Nat} {kv kp : Nat}  {x1 : Int32} {rv : Int32} {σ' : St} {σ : St} (hkv : kv < 2) (hkp : kp < 20) (hf : fLife_signs N kv kp x1 σ = some (rv, σ')) : Ct l Z y_Life_signs prog_8_method_10_code 2 (some .boolean) (rmo (3)) [.ref (Z.1 + (279 + 187 * kv + 5 * kp)), .int x1] (cmb σ μ) (some (.int rv)) True (cmb σ' μ) := by
  refine x_met (by decide) (Nat.le_of_ble_eq_true rfl) (fun p e s m args below meth c ls hc hr hw hl => ?_)
  exact w_Life_signs hc hr RO.self hkv hkp hw hl hf
theorem K_Life_signs {idx : Nat} {N : Nat} {kv kp : Nat}  {x1 : Int32} {rv : Int32} {σ' : St} {σ : St} (hc : Cxz p s m meth c args cc own nL Z) (hw : Wd Z (cmb σ μ) s H locs) (hkv : kv < 2) (hkp : kp < 20) (hl : Cond.methodLink own idx y_Life_signs ∈ TB) (hf : fLife_signs N kv kp x1 σ = some (rv, σ')) (hR : RO R ((3) + 1)) (hcs : cells ≤ R.cells ∧ slots ≤ R.slots) (hls : ls.size = nL) (hst : (rest.map fun v => v.category).sum ≤ 8) (hdg : decode cc pc = .ok (.invokevirtual idx, 3)) (kk : ∀ (H1 : Heap) (locs1 : List Loc), Wd Z (cmb σ' μ) s H1 locs1 → True → W p l e R s m args below meth c H1 locs1 cells slots Q (F0 m (pc + 3) ls (.int rv :: rest))) : W p l e R s m args below meth c H locs cells slots Q (F0 m pc ls (.int x1 :: .ref (Z.1 + (279 + 187 * kv + 5 * kp)) :: rest)) :=
  x_iv hc hw (c_Life_signs hkv hkp hf) yv_Life_signs (wd_life (r := 0) hkv hkp (by decide) (by omega)).1 (wd_life (r := 0) hkv hkp (by decide) (by omega)).2 rfl hl (RO.call hR (by decide)) hcs rfl hls hst hdg rfl kk
set_option maxRecDepth 10000 in
theorem w_Life_goesAway {N : Nat} {kv kp : Nat} (hc : Cxz p s m meth c args prog_8_method_12_code "LabourExchange$Life" 2 Z) (hr : meth.sig.returnType = (some .boolean)) (hR : RO R 3) (hkv : kv < 2) (hkp : kp < 20) {rv : Int32} {σ' : St} : ∀ {x1 : Int32} {σ : St} {H : Heap} {locs : List Loc} {ls : Array Slot}, Wd Z (cmb σ μ) s H locs → lv_has ls 2 [(0, .ref (Z.1 + (279 + 187 * kv + 5 * kp))), (1, .int x1)] → fLife_goesAway N kv kp x1 σ = some (rv, σ') → W p l e R s m args below meth c H locs 0 0 (MQ below (Qr Z (some (.int rv)) True (cmb σ' μ)) args s 0 0 (fun q => Z.1 ≤ q)) (F0 m 0 ls []) := by
  have hx := hc.hx
  have hb := hc.hb
  intro x1 σ H locs ls hw hl hf
  unfold fLife_goesAway at hf
  refine lv_aload_n hx hb (dq tk_Life_goesAway 0 rfl) rfl (lv_at hl 0 rfl) ?_
  refine G_Life_away hkv hkp hc hw wd_568 (dq tk_Life_goesAway 1 rfl) ?_
  refine lv_if_eq (tgt := 9) hx hb (dq tk_Life_goesAway 2 rfl) (by decide) (fun c1 => ?_) (fun c1 => ?_)
  · replace hf := if_t hf c1
    refine lv_aload_n hx hb (dq tk_Life_goesAway 5 rfl) rfl (lv_at hl 0 rfl) ?_
    refine lv_iload_n hx hb (dq tk_Life_goesAway 6 rfl) rfl (lv_at hl 1 rfl) ?_
    obtain ⟨σ1, h7, hf⟩ := bn1_someZ hf
    refine K_Life_closeClaim hc hw hkv hkp wd_867 h7 (hR.mono (by decide)) ⟨Nat.zero_le _, Nat.zero_le _⟩ hl.1 (Nat.le_of_ble_eq_true rfl) (dq tk_Life_goesAway 7 rfl) (fun H locs hw _ => ?_)
    refine lv_aload_n hx hb (dq tk_Life_goesAway 8 rfl) rfl (lv_at hl 0 rfl) ?_
    refine lv_iconst (v := 1) hx hb (dq tk_Life_goesAway 9 rfl) (by decide) ?_
    obtain ⟨σ2, hσ2, hf⟩ := nm_some hf
    refine P_Life_away hkv hkp hc hw wd_568 (by decide) hσ2 (dq tk_Life_goesAway 10 rfl) (fun H locs hw => ?_)
    refine lv_iconst (v := 1) hx hb (dq tk_Life_goesAway 11 rfl) (by decide) ?_
    cases hf
    exact x_zret hc hw hr (by decide) (dq tk_Life_goesAway 12 rfl)
  · replace hf := if_f hf c1
    refine lv_iconst (v := 0) hx hb (dq tk_Life_goesAway 3 rfl) (by decide) ?_
    cases hf
    exact x_zret hc hw hr (by decide) (dq tk_Life_goesAway 4 rfl)
theorem c_Life_goesAway {N : Nat} {kv kp : Nat}  {x1 : Int32} {rv : Int32} {σ' : St} {σ : St} (hkv : kv < 2) (hkp : kp < 20) (hf : fLife_goesAway N kv kp x1 σ = some (rv, σ')) : Ct l Z y_Life_goesAway prog_8_method_12_code 2 (some .boolean) (rmo (3)) [.ref (Z.1 + (279 + 187 * kv + 5 * kp)), .int x1] (cmb σ μ) (some (.int rv)) True (cmb σ' μ) := by
  refine x_met (by decide) (Nat.le_of_ble_eq_true rfl) (fun p e s m args below meth c ls hc hr hw hl => ?_)
  exact w_Life_goesAway hc hr RO.self hkv hkp hw hl hf
theorem K_Life_goesAway {idx : Nat} {N : Nat} {kv kp : Nat}  {x1 : Int32} {rv : Int32} {σ' : St} {σ : St} (hc : Cxz p s m meth c args cc own nL Z) (hw : Wd Z (cmb σ μ) s H locs) (hkv : kv < 2) (hkp : kp < 20) (hl : Cond.methodLink own idx y_Life_goesAway ∈ TB) (hf : fLife_goesAway N kv kp x1 σ = some (rv, σ')) (hR : RO R ((3) + 1)) (hcs : cells ≤ R.cells ∧ slots ≤ R.slots) (hls : ls.size = nL) (hst : (rest.map fun v => v.category).sum ≤ 8) (hdg : decode cc pc = .ok (.invokevirtual idx, 3)) (kk : ∀ (H1 : Heap) (locs1 : List Loc), Wd Z (cmb σ' μ) s H1 locs1 → True → W p l e R s m args below meth c H1 locs1 cells slots Q (F0 m (pc + 3) ls (.int rv :: rest))) : W p l e R s m args below meth c H locs cells slots Q (F0 m pc ls (.int x1 :: .ref (Z.1 + (279 + 187 * kv + 5 * kp)) :: rest)) :=
  x_iv hc hw (c_Life_goesAway hkv hkp hf) yv_Life_goesAway (wd_life (r := 0) hkv hkp (by decide) (by omega)).1 (wd_life (r := 0) hkv hkp (by decide) (by omega)).2 rfl hl (RO.call hR (by decide)) hcs rfl hls hst hdg rfl kk
set_option maxRecDepth 10000 in
theorem w_Life_comesBack {N : Nat} {kv kp : Nat} (hc : Cxz p s m meth c args prog_8_method_13_code "LabourExchange$Life" 2 Z) (hr : meth.sig.returnType = (some .boolean)) (hR : RO R 0) (hkv : kv < 2) (hkp : kp < 20) {rv : Int32} {σ' : St} : ∀ {σ : St} {H : Heap} {locs : List Loc} {ls : Array Slot}, Wd Z (cmb σ μ) s H locs → lv_has ls 2 [(0, .ref (Z.1 + (279 + 187 * kv + 5 * kp)))] → fLife_comesBack N kv kp σ = some (rv, σ') → W p l e R s m args below meth c H locs 0 0 (MQ below (Qr Z (some (.int rv)) True (cmb σ' μ)) args s 0 0 (fun q => Z.1 ≤ q)) (F0 m 0 ls []) := by
  have hx := hc.hx
  have hb := hc.hb
  intro σ H locs ls hw hl hf
  unfold fLife_comesBack at hf
  refine lv_aload_n hx hb (dq tk_Life_comesBack 0 rfl) rfl (lv_at hl 0 rfl) ?_
  refine G_Life_away hkv hkp hc hw wd_568 (dq tk_Life_comesBack 1 rfl) ?_
  obtain ⟨y1, hy1, hf⟩ := nm_some hf
  refine tst (congrArg Value.int hy1) ?_
  refine lv_istore_n (lv' := [(1, .int y1), (0, .ref (Z.1 + (279 + 187 * kv + 5 * kp)))]) hx hb (dq tk_Life_comesBack 2 rfl) rfl hl (by decide) rfl (fun ls hl => ?_)
  refine lv_aload_n hx hb (dq tk_Life_comesBack 3 rfl) rfl (lv_at hl 1 rfl) ?_
  refine lv_iconst (v := 0) hx hb (dq tk_Life_comesBack 4 rfl) (by decide) ?_
  obtain ⟨σ2, hσ2, hf⟩ := nm_some hf
  refine P_Life_away hkv hkp hc hw wd_568 (by decide) hσ2 (dq tk_Life_comesBack 5 rfl) (fun H locs hw => ?_)
  refine lv_iload_n hx hb (dq tk_Life_comesBack 6 rfl) rfl (lv_at hl 0 rfl) ?_
  cases hf
  exact x_zret hc hw hr rfl (dq tk_Life_comesBack 7 rfl)
theorem c_Life_comesBack {N : Nat} {kv kp : Nat}  {rv : Int32} {σ' : St} {σ : St} (hkv : kv < 2) (hkp : kp < 20) (hf : fLife_comesBack N kv kp σ = some (rv, σ')) : Ct l Z y_Life_comesBack prog_8_method_13_code 2 (some .boolean) (rmo (0)) [.ref (Z.1 + (279 + 187 * kv + 5 * kp))] (cmb σ μ) (some (.int rv)) True (cmb σ' μ) := by
  refine x_met (by decide) (Nat.le_of_ble_eq_true rfl) (fun p e s m args below meth c ls hc hr hw hl => ?_)
  exact w_Life_comesBack hc hr RO.self hkv hkp hw hl hf
theorem K_Life_comesBack {idx : Nat} {N : Nat} {kv kp : Nat}  {rv : Int32} {σ' : St} {σ : St} (hc : Cxz p s m meth c args cc own nL Z) (hw : Wd Z (cmb σ μ) s H locs) (hkv : kv < 2) (hkp : kp < 20) (hl : Cond.methodLink own idx y_Life_comesBack ∈ TB) (hf : fLife_comesBack N kv kp σ = some (rv, σ')) (hR : RO R ((0) + 1)) (hcs : cells ≤ R.cells ∧ slots ≤ R.slots) (hls : ls.size = nL) (hst : (rest.map fun v => v.category).sum ≤ 8) (hdg : decode cc pc = .ok (.invokevirtual idx, 3)) (kk : ∀ (H1 : Heap) (locs1 : List Loc), Wd Z (cmb σ' μ) s H1 locs1 → True → W p l e R s m args below meth c H1 locs1 cells slots Q (F0 m (pc + 3) ls (.int rv :: rest))) : W p l e R s m args below meth c H locs cells slots Q (F0 m pc ls (.ref (Z.1 + (279 + 187 * kv + 5 * kp)) :: rest)) :=
  x_iv hc hw (c_Life_comesBack hkv hkp hf) yv_Life_comesBack (wd_life (r := 0) hkv hkp (by decide) (by omega)).1 (wd_life (r := 0) hkv hkp (by decide) (by omega)).2 rfl hl (RO.call hR (by decide)) hcs rfl hls hst hdg rfl kk
set_option maxRecDepth 10000 in
theorem w_Life_goesShort_42 {N : Nat} {kv kp : Nat} (hc : Cxz p s m meth c args prog_8_method_14_code "LabourExchange$Life" 4 Z) (hr : meth.sig.returnType = (some .boolean)) (hR : RO R 3) (hkv : kv < 2) (hkp : kp < 20) {rv : Int32} {σ' : St} : ∀ {x2 : Int32} {x3 : Int32} {s1 : Int32} {σ : St} {H : Heap} {locs : List Loc} {ls : Array Slot}, Wd Z (cmb σ μ) s H locs → lv_has ls 4 [(0, .ref (Z.1 + (279 + 187 * kv + 5 * kp))), (2, .int x2), (3, .int x3)] → fLife_goesShort_42 N kv kp x2 x3 s1 σ = some (rv, σ') → W p l e R s m args below meth c H locs 0 0 (MQ below (Qr Z (some (.int rv)) True (cmb σ' μ)) args s 0 0 (fun q => Z.1 ≤ q)) (F0 m 42 ls [.int s1, .ref (Z.1 + (279 + 187 * kv + 5 * kp))]) := by
  have hx := hc.hx
  have hb := hc.hb
  intro x2 x3 s1 σ H locs ls hw hl hf
  unfold fLife_goesShort_42 at hf
  obtain ⟨σ1, hσ1, hf⟩ := nm_some hf
  refine P_Life_daysShort hkv hkp hc hw wd_569 hσ1 (dq tk_Life_goesShort 23 rfl) (fun H locs hw => ?_)
  refine lv_iload_n hx hb (dq tk_Life_goesShort 24 rfl) rfl (lv_at hl 2 rfl) ?_
  refine lv_if_eq (tgt := 54) hx hb (dq tk_Life_goesShort 25 rfl) (by decide) (fun c1 => ?_) (fun c1 => ?_)
  · replace hf := if_t hf c1
    refine lv_iconst (v := 1) hx hb (dq tk_Life_goesShort 29 rfl) (by decide) ?_
    cases hf
    exact x_zret hc hw hr (by decide) (dq tk_Life_goesShort 30 rfl)
  · replace hf := if_f hf c1
    refine lv_aload_n hx hb (dq tk_Life_goesShort 26 rfl) rfl (lv_at hl 0 rfl) ?_
    refine lv_iload_n hx hb (dq tk_Life_goesShort 27 rfl) rfl (lv_at hl 1 rfl) ?_
    obtain ⟨σ2, h28, hf⟩ := bn1_someZ hf
    refine K_Life_closeClaim hc hw hkv hkp wd_867 h28 (hR.mono (by decide)) ⟨Nat.zero_le _, Nat.zero_le _⟩ hl.1 (Nat.le_of_ble_eq_true rfl) (dq tk_Life_goesShort 28 rfl) (fun H locs hw _ => ?_)
    refine lv_iconst (v := 1) hx hb (dq tk_Life_goesShort 29 rfl) (by decide) ?_
    cases hf
    exact x_zret hc hw hr (by decide) (dq tk_Life_goesShort 30 rfl)
set_option maxRecDepth 10000 in
theorem w_Life_goesShort_32 {N : Nat} {kv kp : Nat} (hc : Cxz p s m meth c args prog_8_method_14_code "LabourExchange$Life" 4 Z) (hr : meth.sig.returnType = (some .boolean)) (hR : RO R 3) (hkv : kv < 2) (hkp : kp < 20) {rv : Int32} {σ' : St} : ∀ {x1 : Int32} {x2 : Int32} {x3 : Int32} {σ : St} {H : Heap} {locs : List Loc} {ls : Array Slot}, Wd Z (cmb σ μ) s H locs → lv_has ls 4 [(0, .ref (Z.1 + (279 + 187 * kv + 5 * kp))), (1, .int x1), (2, .int x2), (3, .int x3)] → fLife_goesShort_32 N kv kp x1 x2 x3 σ = some (rv, σ') → W p l e R s m args below meth c H locs 0 0 (MQ below (Qr Z (some (.int rv)) True (cmb σ' μ)) args s 0 0 (fun q => Z.1 ≤ q)) (F0 m 32 ls []) := by
  have hx := hc.hx
  have hb := hc.hb
  intro x1 x2 x3 σ H locs ls hw hl hf
  unfold fLife_goesShort_32 at hf
  refine lv_aload_n hx hb (dq tk_Life_goesShort 17 rfl) rfl (lv_at hl 0 rfl) ?_
  refine lv_iload_n hx hb (dq tk_Life_goesShort 18 rfl) rfl (lv_at hl 3 rfl) ?_
  refine lv_if_eq (tgt := 41) hx hb (dq tk_Life_goesShort 19 rfl) (by decide) (fun c1 => ?_) (fun c1 => ?_)
  · replace hf := if_t hf c1
    refine lv_iload_n hx hb (dq tk_Life_goesShort 22 rfl) rfl (lv_at hl 1 rfl) ?_
    exact w_Life_goesShort_42 hc hr hR hkv hkp hw (lv_sub hl [0, 2, 3] rfl) hf
  · replace hf := if_f hf c1
    refine lv_iconst (v := 0) hx hb (dq tk_Life_goesShort 20 rfl) (by decide) ?_
    refine lv_goto (tgt := 42) hx hb (dq tk_Life_goesShort 21 rfl) (by decide) ?_
    exact w_Life_goesShort_42 hc hr hR hkv hkp hw (lv_sub hl [0, 2, 3] rfl) hf
set_option maxRecDepth 10000 in
theorem w_Life_goesShort_11 {N : Nat} {kv kp : Nat} (hc : Cxz p s m meth c args prog_8_method_14_code "LabourExchange$Life" 4 Z) (hr : meth.sig.returnType = (some .boolean)) (hR : RO R 3) (hkv : kv < 2) (hkp : kp < 20) {rv : Int32} {σ' : St} : ∀ {x1 : Int32} {x2 : Int32} {s0 : Int32} {σ : St} {H : Heap} {locs : List Loc} {ls : Array Slot}, Wd Z (cmb σ μ) s H locs → lv_has ls 4 [(0, .ref (Z.1 + (279 + 187 * kv + 5 * kp))), (1, .int x1), (2, .int x2)] → fLife_goesShort_11 N kv kp x1 x2 s0 σ = some (rv, σ') → W p l e R s m args below meth c H locs 0 0 (MQ below (Qr Z (some (.int rv)) True (cmb σ' μ)) args s 0 0 (fun q => Z.1 ≤ q)) (F0 m 11 ls [.int s0]) := by
  have hx := hc.hx
  have hb := hc.hb
  intro x1 x2 s0 σ H locs ls hw hl hf
  unfold fLife_goesShort_11 at hf
  refine lv_istore_n (lv' := [(3, .int s0), (0, .ref (Z.1 + (279 + 187 * kv + 5 * kp))), (1, .int x1), (2, .int x2)]) hx hb (dq tk_Life_goesShort 6 rfl) rfl hl (by decide) rfl (fun ls hl => ?_)
  refine lv_aload_n hx hb (dq tk_Life_goesShort 7 rfl) rfl (lv_at hl 1 rfl) ?_
  refine G_Life_inWork hkv hkp hc hw wd_567 (dq tk_Life_goesShort 8 rfl) ?_
  refine lv_if_eq (tgt := 30) hx hb (dq tk_Life_goesShort 9 rfl) (by decide) (fun c1 => ?_) (fun c1 => ?_)
  · replace hf := if_t hf c1
    refine lv_iconst (v := 0) hx hb (dq tk_Life_goesShort 15 rfl) (by decide) ?_
    cases hf
    exact x_zret hc hw hr (by decide) (dq tk_Life_goesShort 16 rfl)
  · replace hf := if_f hf c1
    refine lv_iload_n hx hb (dq tk_Life_goesShort 10 rfl) rfl (lv_at hl 0 rfl) ?_
    refine lv_if_eq (tgt := 32) hx hb (dq tk_Life_goesShort 11 rfl) (by decide) (fun c2 => ?_) (fun c2 => ?_)
    · replace hf := if_t hf c2
      exact w_Life_goesShort_32 hc hr hR hkv hkp hw (lv_sub hl [1, 2, 3, 0] rfl) hf
    · replace hf := if_f hf c2
      refine lv_aload_n hx hb (dq tk_Life_goesShort 12 rfl) rfl (lv_at hl 1 rfl) ?_
      refine G_Life_daysShort hkv hkp hc hw wd_569 (dq tk_Life_goesShort 13 rfl) ?_
      refine lv_if_ne (tgt := 32) hx hb (dq tk_Life_goesShort 14 rfl) (by decide) (fun c3 => ?_) (fun c3 => ?_)
      · replace hf := if_f hf c3
        exact w_Life_goesShort_32 hc hr hR hkv hkp hw (lv_sub hl [1, 2, 3, 0] rfl) hf
      · replace hf := if_t hf c3
        refine lv_iconst (v := 0) hx hb (dq tk_Life_goesShort 15 rfl) (by decide) ?_
        cases hf
        exact x_zret hc hw hr (by decide) (dq tk_Life_goesShort 16 rfl)
set_option maxRecDepth 10000 in
theorem w_Life_goesShort {N : Nat} {kv kp : Nat} (hc : Cxz p s m meth c args prog_8_method_14_code "LabourExchange$Life" 4 Z) (hr : meth.sig.returnType = (some .boolean)) (hR : RO R 3) (hkv : kv < 2) (hkp : kp < 20) {rv : Int32} {σ' : St} : ∀ {x1 : Int32} {x2 : Int32} {σ : St} {H : Heap} {locs : List Loc} {ls : Array Slot}, Wd Z (cmb σ μ) s H locs → lv_has ls 4 [(0, .ref (Z.1 + (279 + 187 * kv + 5 * kp))), (1, .int x1), (2, .int x2)] → fLife_goesShort N kv kp x1 x2 σ = some (rv, σ') → W p l e R s m args below meth c H locs 0 0 (MQ below (Qr Z (some (.int rv)) True (cmb σ' μ)) args s 0 0 (fun q => Z.1 ≤ q)) (F0 m 0 ls []) := by
  have hx := hc.hx
  have hb := hc.hb
  intro x1 x2 σ H locs ls hw hl hf
  unfold fLife_goesShort at hf
  refine lv_iload_n hx hb (dq tk_Life_goesShort 0 rfl) rfl (lv_at hl 1 rfl) ?_
  refine lv_bipush (v := 6) hx hb (dq tk_Life_goesShort 1 rfl) (by decide) ?_
  refine lv_icmp_ne (tgt := 10) hx hb (dq tk_Life_goesShort 2 rfl) (by decide) (fun c1 => ?_) (fun c1 => ?_)
  · replace hf := if_f hf c1
    refine lv_iconst (v := 0) hx hb (dq tk_Life_goesShort 5 rfl) (by decide) ?_
    exact w_Life_goesShort_11 hc hr hR hkv hkp hw (lv_sub hl [0, 1, 2] rfl) hf
  · replace hf := if_t hf c1
    refine lv_iconst (v := 1) hx hb (dq tk_Life_goesShort 3 rfl) (by decide) ?_
    refine lv_goto (tgt := 11) hx hb (dq tk_Life_goesShort 4 rfl) (by decide) ?_
    exact w_Life_goesShort_11 hc hr hR hkv hkp hw (lv_sub hl [0, 1, 2] rfl) hf
theorem c_Life_goesShort {N : Nat} {kv kp : Nat}  {x1 : Int32} {x2 : Int32} {rv : Int32} {σ' : St} {σ : St} (hkv : kv < 2) (hkp : kp < 20) (hf : fLife_goesShort N kv kp x1 x2 σ = some (rv, σ')) : Ct l Z y_Life_goesShort prog_8_method_14_code 4 (some .boolean) (rmo (3)) [.ref (Z.1 + (279 + 187 * kv + 5 * kp)), .int x1, .int x2] (cmb σ μ) (some (.int rv)) True (cmb σ' μ) := by
  refine x_met (by decide) (Nat.le_of_ble_eq_true rfl) (fun p e s m args below meth c ls hc hr hw hl => ?_)
  exact w_Life_goesShort hc hr RO.self hkv hkp hw hl hf
theorem K_Life_goesShort {idx : Nat} {N : Nat} {kv kp : Nat}  {x1 : Int32} {x2 : Int32} {rv : Int32} {σ' : St} {σ : St} (hc : Cxz p s m meth c args cc own nL Z) (hw : Wd Z (cmb σ μ) s H locs) (hkv : kv < 2) (hkp : kp < 20) (hl : Cond.methodLink own idx y_Life_goesShort ∈ TB) (hf : fLife_goesShort N kv kp x1 x2 σ = some (rv, σ')) (hR : RO R ((3) + 1)) (hcs : cells ≤ R.cells ∧ slots ≤ R.slots) (hls : ls.size = nL) (hst : (rest.map fun v => v.category).sum ≤ 8) (hdg : decode cc pc = .ok (.invokevirtual idx, 3)) (kk : ∀ (H1 : Heap) (locs1 : List Loc), Wd Z (cmb σ' μ) s H1 locs1 → True → W p l e R s m args below meth c H1 locs1 cells slots Q (F0 m (pc + 3) ls (.int rv :: rest))) : W p l e R s m args below meth c H locs cells slots Q (F0 m pc ls (.int x2 :: .int x1 :: .ref (Z.1 + (279 + 187 * kv + 5 * kp)) :: rest)) :=
  x_iv hc hw (c_Life_goesShort hkv hkp hf) yv_Life_goesShort (wd_life (r := 0) hkv hkp (by decide) (by omega)).1 (wd_life (r := 0) hkv hkp (by decide) (by omega)).2 rfl hl (RO.call hR (by decide)) hcs rfl hls hst hdg rfl kk
set_option maxRecDepth 10000 in
theorem w_Market_wasSuitable {N : Nat} (hc : Cxz p s m meth c args prog_9_method_7_code "LabourExchange$Market" 3 Z) (hr : meth.sig.returnType = (some .boolean)) (hR : RO R 0) {rv : Int32} {σ : St} : ∀ {x1 : Int32} {x2 : Int32} {H : Heap} {locs : List Loc} {ls : Array Slot}, Wd Z (cmb σ μ) s H locs → lv_has ls 3 [(0, .ref (Z.1 + 33)), (1, .int x1), (2, .int x2)] → fMarket_wasSuitable N x1 x2 σ = some rv → W p l e R s m args below meth c H locs 0 0 (MQ below (Qr Z (some (.int rv)) True (cmb σ μ)) args s 0 0 (fun q => Z.1 ≤ q)) (F0 m 0 ls []) := by
  have hx := hc.hx
  have hb := hc.hb
  intro x1 x2 H locs ls hw hl hf
  unfold fMarket_wasSuitable at hf
  refine lv_iload_n hx hb (dq tk_Market_wasSuitable 0 rfl) rfl (lv_at hl 1 rfl) ?_
  refine lv_if_lt (tgt := 36) hx hb (dq tk_Market_wasSuitable 1 rfl) (by decide) (fun c1 => ?_) (fun c1 => ?_)
  · replace hf := if_t hf c1
    refine lv_iconst (v := 0) hx hb (dq tk_Market_wasSuitable 20 rfl) (by decide) ?_
    cases hf
    exact x_zret hc hw hr (by decide) (dq tk_Market_wasSuitable 21 rfl)
  · replace hf := if_f hf c1
    refine lv_iload_n hx hb (dq tk_Market_wasSuitable 2 rfl) rfl (lv_at hl 1 rfl) ?_
    refine lv_aload_n hx hb (dq tk_Market_wasSuitable 3 rfl) rfl (lv_at hl 0 rfl) ?_
    refine G_Market_offers hc hw wd_265 (dq tk_Market_wasSuitable 4 rfl) ?_
    refine lv_icmp_ge (tgt := 36) hx hb (dq tk_Market_wasSuitable 5 rfl) (by decide) (fun c2 => ?_) (fun c2 => ?_)
    · replace hf := if_t hf c2
      refine lv_iconst (v := 0) hx hb (dq tk_Market_wasSuitable 20 rfl) (by decide) ?_
      cases hf
      exact x_zret hc hw hr (by decide) (dq tk_Market_wasSuitable 21 rfl)
    · replace hf := if_f hf c2
      refine lv_aload_n hx hb (dq tk_Market_wasSuitable 6 rfl) rfl (lv_at hl 0 rfl) ?_
      refine G_Market_offered hc hw wd_256 (dq tk_Market_wasSuitable 7 rfl) ?_
      refine lv_iload_n hx hb (dq tk_Market_wasSuitable 8 rfl) rfl (lv_at hl 1 rfl) ?_
      obtain ⟨c3, hf⟩ := chk_some hf
      refine AL_Market_offered hc hw c3 (dq tk_Market_wasSuitable 9 rfl) ?_
      refine lv_iload_n hx hb (dq tk_Market_wasSuitable 10 rfl) rfl (lv_at hl 2 rfl) ?_
      refine lv_icmp_ne (tgt := 36) hx hb (dq tk_Market_wasSuitable 11 rfl) (by decide) (fun c4 => ?_) (fun c4 => ?_)
      · replace hf := if_f hf c4
        refine lv_iconst (v := 0) hx hb (dq tk_Market_wasSuitable 20 rfl) (by decide) ?_
        cases hf
        exact x_zret hc hw hr (by decide) (dq tk_Market_wasSuitable 21 rfl)
      · replace hf := if_t hf c4
        refine lv_aload_n hx hb (dq tk_Market_wasSuitable 12 rfl) rfl (lv_at hl 0 rfl) ?_
        refine G_Market_objection hc hw wd_261 (dq tk_Market_wasSuitable 13 rfl) ?_
        refine lv_iload_n hx hb (dq tk_Market_wasSuitable 14 rfl) rfl (lv_at hl 1 rfl) ?_
        refine AL_Market_objection hc hw c3 (dq tk_Market_wasSuitable 15 rfl) ?_
        refine lv_iconst (v := (-1)) hx hb (dq tk_Market_wasSuitable 16 rfl) (by decide) ?_
        refine lv_icmp_ne (tgt := 36) hx hb (dq tk_Market_wasSuitable 17 rfl) (by decide) (fun c5 => ?_) (fun c5 => ?_)
        · replace hf := if_f hf c5
          refine lv_iconst (v := 0) hx hb (dq tk_Market_wasSuitable 20 rfl) (by decide) ?_
          cases hf
          exact x_zret hc hw hr (by decide) (dq tk_Market_wasSuitable 21 rfl)
        · replace hf := if_t hf c5
          refine lv_iconst (v := 1) hx hb (dq tk_Market_wasSuitable 18 rfl) (by decide) ?_
          refine lv_goto (tgt := 37) hx hb (dq tk_Market_wasSuitable 19 rfl) (by decide) ?_
          cases hf
          exact x_zret hc hw hr (by decide) (dq tk_Market_wasSuitable 21 rfl)
theorem c_Market_wasSuitable {N : Nat}  {x1 : Int32} {x2 : Int32} {rv : Int32} {σ : St} (hf : fMarket_wasSuitable N x1 x2 σ = some rv) : Ct l Z y_Market_wasSuitable prog_9_method_7_code 3 (some .boolean) (rmo (0)) [.ref (Z.1 + 33), .int x1, .int x2] (cmb σ μ) (some (.int rv)) True (cmb σ μ) := by
  refine x_met (by decide) (Nat.le_of_ble_eq_true rfl) (fun p e s m args below meth c ls hc hr hw hl => ?_)
  exact w_Market_wasSuitable hc hr RO.self hw hl hf
theorem K_Market_wasSuitable {idx : Nat} {N : Nat}  {x1 : Int32} {x2 : Int32} {rv : Int32} {σ : St} (hc : Cxz p s m meth c args cc own nL Z) (hw : Wd Z (cmb σ μ) s H locs) (hl : Cond.methodLink own idx y_Market_wasSuitable ∈ TB) (hf : fMarket_wasSuitable N x1 x2 σ = some rv) (hR : RO R ((0) + 1)) (hcs : cells ≤ R.cells ∧ slots ≤ R.slots) (hls : ls.size = nL) (hst : (rest.map fun v => v.category).sum ≤ 8) (hdg : decode cc pc = .ok (.invokevirtual idx, 3)) (kk : ∀ (H1 : Heap) (locs1 : List Loc), Wd Z (cmb σ μ) s H1 locs1 → True → W p l e R s m args below meth c H1 locs1 cells slots Q (F0 m (pc + 3) ls (.int rv :: rest))) : W p l e R s m args below meth c H locs cells slots Q (F0 m pc ls (.int x2 :: .int x1 :: .ref (Z.1 + 33) :: rest)) :=
  x_iv hc hw (c_Market_wasSuitable hf) yv_Market_wasSuitable (Nat.le_of_ble_eq_true rfl) rfl rfl hl (RO.call hR (by decide)) hcs rfl hls hst hdg rfl kk
set_option maxRecDepth 10000 in
theorem w_Market_setOutVacancy_64 {N : Nat} {k3_0 : Nat} (hc : Cxz p s m meth c args prog_9_method_8_code "LabourExchange$Market" 4 Z) (hr : meth.sig.returnType = none) (hR : RO R 2) (hk3_0 : k3_0 < 2) {σ' : St} : ∀ {s1 : Int32} {s2 : Int64} {σ : St} {H : Heap} {locs : List Loc} {ls : Array Slot}, Wd Z (cmb σ μ) s H locs → lv_has ls 4 [] → fMarket_setOutVacancy_64 N k3_0 s1 s2 σ = some σ' → W p l e R s m args below meth c H locs 0 0 (MQ below (Qr Z none True (cmb σ' μ)) args s 0 0 (fun q => Z.1 ≤ q)) (F0 m 64 ls [.long s2, .int s1, .ref (Z.1 + (277 + 187 * k3_0))]) := by
  have hx := hc.hx
  have hb := hc.hb
  intro s1 s2 σ H locs ls hw hl hf
  unfold fMarket_setOutVacancy_64 at hf
  obtain ⟨c1, hf⟩ := chk_some hf
  obtain ⟨σ1, hσ1, hf⟩ := nm_some hf
  refine AS_Law_values hk3_0 hc hw c1 hσ1 (dq tk_Market_setOutVacancy 39 rfl) (fun H locs hw => ?_)
  cases hf
  exact x_vret hc hw hr (dq tk_Market_setOutVacancy 40 rfl)
set_option maxRecDepth 10000 in
theorem w_Market_setOutVacancy {N : Nat} {k3_0 : Nat} (hc : Cxz p s m meth c args prog_9_method_8_code "LabourExchange$Market" 4 Z) (hr : meth.sig.returnType = none) (hR : RO R 2) (hk3_0 : k3_0 < 2) {σ' : St} : ∀ {x1 : Int32} {x2 : Int32} {σ : St} {H : Heap} {locs : List Loc} {ls : Array Slot}, Wd Z (cmb σ μ) s H locs → lv_has ls 4 [(0, .ref (Z.1 + 33)), (1, .int x1), (2, .int x2), (3, .ref (Z.1 + (277 + 187 * k3_0)))] → fMarket_setOutVacancy N k3_0 x1 x2 σ = some σ' → W p l e R s m args below meth c H locs 0 0 (MQ below (Qr Z none True (cmb σ' μ)) args s 0 0 (fun q => Z.1 ≤ q)) (F0 m 0 ls []) := by
  have hx := hc.hx
  have hb := hc.hb
  intro x1 x2 σ H locs ls hw hl hf
  unfold fMarket_setOutVacancy at hf
  refine lv_aload_n hx hb (dq tk_Market_setOutVacancy 0 rfl) rfl (lv_at hl 3 rfl) ?_
  refine lv_bipush (v := 17) hx hb (dq tk_Market_setOutVacancy 1 rfl) (by decide) ?_
  refine lv_aload_n hx hb (dq tk_Market_setOutVacancy 2 rfl) rfl (lv_at hl 0 rfl) ?_
  refine G_Market_land hc hw wd_245 (dq tk_Market_setOutVacancy 3 rfl) ?_
  refine lv_aload_n hx hb (dq tk_Market_setOutVacancy 4 rfl) rfl (lv_at hl 0 rfl) ?_
  refine G_Market_land hc hw wd_245 (dq tk_Market_setOutVacancy 5 rfl) ?_
  refine G_Land_office hc hw wd_98 (dq tk_Market_setOutVacancy 6 rfl) ?_
  refine lv_iload_n hx hb (dq tk_Market_setOutVacancy 7 rfl) rfl (lv_at hl 1 rfl) ?_
  obtain ⟨c1, hf⟩ := chk_some hf
  refine AL_Land_office hc hw c1 (dq tk_Market_setOutVacancy 8 rfl) ?_
  refine lv_aload_n hx hb (dq tk_Market_setOutVacancy 9 rfl) rfl (lv_at hl 0 rfl) ?_
  refine G_Market_office hc hw wd_246 (dq tk_Market_setOutVacancy 10 rfl) ?_
  refine lv_iload_n hx hb (dq tk_Market_setOutVacancy 11 rfl) rfl (lv_at hl 2 rfl) ?_
  obtain ⟨c2, hf⟩ := chk_some hf
  refine AL_Market_office hc hw c2 (dq tk_Market_setOutVacancy 12 rfl) ?_
  obtain ⟨r1, h13, hf⟩ := bn1_someZ hf
  refine K_Land_miles hc hw wd_909 h13 (hR.mono (by decide)) ⟨Nat.zero_le _, Nat.zero_le _⟩ hl.1 (Nat.le_of_ble_eq_true rfl) (dq tk_Market_setOutVacancy 13 rfl) (fun H locs hw _ => ?_)
  refine lv_i2l hx hb (dq tk_Market_setOutVacancy 14 rfl) rfl ?_
  obtain ⟨σ2, hσ2, hf⟩ := nm_some hf
  refine AS_Law_values hk3_0 hc hw (by decide) hσ2 (dq tk_Market_setOutVacancy 15 rfl) (fun H locs hw => ?_)
  refine lv_aload_n hx hb (dq tk_Market_setOutVacancy 16 rfl) rfl (lv_at hl 3 rfl) ?_
  refine lv_bipush (v := 18) hx hb (dq tk_Market_setOutVacancy 17 rfl) (by decide) ?_
  refine lv_aload_n hx hb (dq tk_Market_setOutVacancy 18 rfl) rfl (lv_at hl 0 rfl) ?_
  refine G_Market_wage hc hw wd_248 (dq tk_Market_setOutVacancy 19 rfl) ?_
  refine lv_iload_n hx hb (dq tk_Market_setOutVacancy 20 rfl) rfl (lv_at hl 2 rfl) ?_
  refine AL_Market_wage hc hw c2 (dq tk_Market_setOutVacancy 21 rfl) ?_
  refine lv_i2l hx hb (dq tk_Market_setOutVacancy 22 rfl) rfl ?_
  obtain ⟨σ3, hσ3, hf⟩ := nm_some hf
  refine AS_Law_values hk3_0 hc hw (by decide) hσ3 (dq tk_Market_setOutVacancy 23 rfl) (fun H locs hw => ?_)
  refine lv_aload_n hx hb (dq tk_Market_setOutVacancy 24 rfl) rfl (lv_at hl 3 rfl) ?_
  refine lv_bipush (v := 19) hx hb (dq tk_Market_setOutVacancy 25 rfl) (by decide) ?_
  refine lv_aload_n hx hb (dq tk_Market_setOutVacancy 26 rfl) rfl (lv_at hl 0 rfl) ?_
  refine G_Market_trade hc hw wd_247 (dq tk_Market_setOutVacancy 27 rfl) ?_
  refine lv_iload_n hx hb (dq tk_Market_setOutVacancy 28 rfl) rfl (lv_at hl 2 rfl) ?_
  refine AL_Market_trade hc hw c2 (dq tk_Market_setOutVacancy 29 rfl) ?_
  refine lv_aload_n hx hb (dq tk_Market_setOutVacancy 30 rfl) rfl (lv_at hl 0 rfl) ?_
  refine G_Market_land hc hw wd_245 (dq tk_Market_setOutVacancy 31 rfl) ?_
  refine G_Land_trade hc hw wd_92 (dq tk_Market_setOutVacancy 32 rfl) ?_
  refine lv_iload_n hx hb (dq tk_Market_setOutVacancy 33 rfl) rfl (lv_at hl 1 rfl) ?_
  refine AL_Land_trade hc hw c1 (dq tk_Market_setOutVacancy 34 rfl) ?_
  refine lv_icmp_ne (tgt := 63) hx hb (dq tk_Market_setOutVacancy 35 rfl) (by decide) (fun c3 => ?_) (fun c3 => ?_)
  · replace hf := if_f hf c3
    refine lv_lconst (v := 0) hx hb (dq tk_Market_setOutVacancy 38 rfl) (by decide) ?_
    exact w_Market_setOutVacancy_64 hc hr hR hk3_0 hw (lv_sub hl [] rfl) hf
  · replace hf := if_t hf c3
    refine lv_lconst (v := 1) hx hb (dq tk_Market_setOutVacancy 36 rfl) (by decide) ?_
    refine lv_goto (tgt := 64) hx hb (dq tk_Market_setOutVacancy 37 rfl) (by decide) ?_
    exact w_Market_setOutVacancy_64 hc hr hR hk3_0 hw (lv_sub hl [] rfl) hf
theorem c_Market_setOutVacancy {N : Nat} {k3_0 : Nat}  {x1 : Int32} {x2 : Int32} {σ' : St} {σ : St} (hk3_0 : k3_0 < 2) (hf : fMarket_setOutVacancy N k3_0 x1 x2 σ = some σ') : Ct l Z y_Market_setOutVacancy prog_9_method_8_code 4 none (rmo (2)) [.ref (Z.1 + 33), .int x1, .int x2, .ref (Z.1 + (277 + 187 * k3_0))] (cmb σ μ) none True (cmb σ' μ) := by
  refine x_met (by decide) (Nat.le_of_ble_eq_true rfl) (fun p e s m args below meth c ls hc hr hw hl => ?_)
  exact w_Market_setOutVacancy hc hr RO.self hk3_0 hw hl hf
theorem K_Market_setOutVacancy {idx : Nat} {N : Nat} {k3_0 : Nat}  {x1 : Int32} {x2 : Int32} {σ' : St} {σ : St} (hc : Cxz p s m meth c args cc own nL Z) (hw : Wd Z (cmb σ μ) s H locs) (hk3_0 : k3_0 < 2) (hl : Cond.methodLink own idx y_Market_setOutVacancy ∈ TB) (hf : fMarket_setOutVacancy N k3_0 x1 x2 σ = some σ') (hR : RO R ((2) + 1)) (hcs : cells ≤ R.cells ∧ slots ≤ R.slots) (hls : ls.size = nL) (hst : (rest.map fun v => v.category).sum ≤ 8) (hdg : decode cc pc = .ok (.invokevirtual idx, 3)) (kk : ∀ (H1 : Heap) (locs1 : List Loc), Wd Z (cmb σ' μ) s H1 locs1 → True → W p l e R s m args below meth c H1 locs1 cells slots Q (F0 m (pc + 3) ls rest)) : W p l e R s m args below meth c H locs cells slots Q (F0 m pc ls (.ref (Z.1 + (277 + 187 * k3_0)) :: .int x2 :: .int x1 :: .ref (Z.1 + 33) :: rest)) :=
  x_iv hc hw (c_Market_setOutVacancy hk3_0 hf) yv_Market_setOutVacancy (Nat.le_of_ble_eq_true rfl) rfl rfl hl (RO.call hR (by decide)) hcs rfl hls hst hdg rfl kk
set_option maxRecDepth 10000 in
theorem w_Life_refuses {N : Nat} {kv kp : Nat} (hc : Cxz p s m meth c args prog_8_method_15_code "LabourExchange$Life" 4 Z) (hr : meth.sig.returnType = (some .boolean)) (hR : RO R 3) (hkv : kv < 2) (hkp : kp < 20) {rv : Int32} {σ' : St} : ∀ {x1 : Int32} {x2 : Int32} {x3 : Int32} {σ : St} {H : Heap} {locs : List Loc} {ls : Array Slot}, Wd Z (cmb σ μ) s H locs → lv_has ls 4 [(0, .ref (Z.1 + (279 + 187 * kv + 5 * kp))), (1, .int x1), (2, .int x2), (3, .int x3)] → fLife_refuses N kv kp x1 x2 x3 σ = some (rv, σ') → W p l e R s m args below meth c H locs 0 0 (MQ below (Qr Z (some (.int rv)) True (cmb σ' μ)) args s 0 0 (fun q => Z.1 ≤ q)) (F0 m 0 ls []) := by
  have hx := hc.hx
  have hb := hc.hb
  intro x1 x2 x3 σ H locs ls hw hl hf
  unfold fLife_refuses at hf
  refine lv_aload_n hx hb (dq tk_Life_refuses 0 rfl) rfl (lv_at hl 0 rfl) ?_
  refine G_Life_open hkv hkp hc hw wd_564 (dq tk_Life_refuses 1 rfl) ?_
  refine lv_if_eq (tgt := 22) hx hb (dq tk_Life_refuses 2 rfl) (by decide) (fun c1 => ?_) (fun c1 => ?_)
  · replace hf := if_t hf c1
    refine lv_iconst (v := 0) hx hb (dq tk_Life_refuses 10 rfl) (by decide) ?_
    cases hf
    exact x_zret hc hw hr (by decide) (dq tk_Life_refuses 11 rfl)
  · replace hf := if_f hf c1
    refine lv_aload_n hx hb (dq tk_Life_refuses 3 rfl) rfl (lv_at hl 0 rfl) ?_
    refine G_Life_market hkv hkp hc hw wd_548 (dq tk_Life_refuses 4 rfl) ?_
    refine lv_iload_n hx hb (dq tk_Life_refuses 5 rfl) rfl (lv_at hl 1 rfl) ?_
    refine lv_aload_n hx hb (dq tk_Life_refuses 6 rfl) rfl (lv_at hl 0 rfl) ?_
    refine G_Life_person hkv hkp hc hw wd_545 (dq tk_Life_refuses 7 rfl) ?_
    obtain ⟨r1, h8, hf⟩ := bn1_someZ hf
    refine K_Market_wasSuitable hc hw wd_900 h8 (hR.mono (by decide)) ⟨Nat.zero_le _, Nat.zero_le _⟩ hl.1 (Nat.le_of_ble_eq_true rfl) (dq tk_Life_refuses 8 rfl) (fun H locs hw _ => ?_)
    refine lv_if_ne (tgt := 24) hx hb (dq tk_Life_refuses 9 rfl) (by decide) (fun c2 => ?_) (fun c2 => ?_)
    · replace hf := if_f hf c2
      refine lv_iload_n hx hb (dq tk_Life_refuses 12 rfl) rfl (lv_at hl 3 rfl) ?_
      refine lv_if_ne (tgt := 96) hx hb (dq tk_Life_refuses 13 rfl) (by decide) (fun c3 => ?_) (fun c3 => ?_)
      · replace hf := if_f hf c3
        refine lv_iconst (v := 1) hx hb (dq tk_Life_refuses 49 rfl) (by decide) ?_
        cases hf
        exact x_zret hc hw hr (by decide) (dq tk_Life_refuses 50 rfl)
      · replace hf := if_t hf c3
        refine lv_aload_n hx hb (dq tk_Life_refuses 14 rfl) rfl (lv_at hl 0 rfl) ?_
        refine lv_iload_n hx hb (dq tk_Life_refuses 15 rfl) rfl (lv_at hl 2 rfl) ?_
        obtain ⟨σ2, h16, hf⟩ := bn1_someZ hf
        refine K_Life_setOut hc hw hkv hkp wd_817 h16 (hR.mono (by decide)) ⟨Nat.zero_le _, Nat.zero_le _⟩ hl.1 (Nat.le_of_ble_eq_true rfl) (dq tk_Life_refuses 16 rfl) (fun H locs hw _ => ?_)
        refine lv_aload_n hx hb (dq tk_Life_refuses 17 rfl) rfl (lv_at hl 0 rfl) ?_
        refine G_Life_law hkv hkp hc hw wd_549 (dq tk_Life_refuses 18 rfl) ?_
        refine G_Law_values hkv hc hw wd_509 (dq tk_Life_refuses 19 rfl) ?_
        refine lv_bipush (v := 16) hx hb (dq tk_Life_refuses 20 rfl) (by decide) ?_
        refine lv_ldc2 hx hb hc.ho (hc.ht _ wd_904) (dq tk_Life_refuses 21 rfl) ?_
        obtain ⟨σ3, hσ3, hf⟩ := nm_some hf
        refine AS_Law_values hkv hc hw (by decide) hσ3 (dq tk_Life_refuses 22 rfl) (fun H locs hw => ?_)
        refine lv_aload_n hx hb (dq tk_Life_refuses 23 rfl) rfl (lv_at hl 0 rfl) ?_
        refine G_Life_market hkv hkp hc hw wd_548 (dq tk_Life_refuses 24 rfl) ?_
        refine lv_aload_n hx hb (dq tk_Life_refuses 25 rfl) rfl (lv_at hl 0 rfl) ?_
        refine G_Life_person hkv hkp hc hw wd_545 (dq tk_Life_refuses 26 rfl) ?_
        refine lv_aload_n hx hb (dq tk_Life_refuses 27 rfl) rfl (lv_at hl 0 rfl) ?_
        refine G_Life_market hkv hkp hc hw wd_548 (dq tk_Life_refuses 28 rfl) ?_
        refine G_Market_vacancy hc hw wd_259 (dq tk_Life_refuses 29 rfl) ?_
        refine lv_iload_n hx hb (dq tk_Life_refuses 30 rfl) rfl (lv_at hl 1 rfl) ?_
        obtain ⟨c4, hf⟩ := chk_some hf
        refine AL_Market_vacancy hc hw c4 (dq tk_Life_refuses 31 rfl) ?_
        refine lv_aload_n hx hb (dq tk_Life_refuses 32 rfl) rfl (lv_at hl 0 rfl) ?_
        refine G_Life_law hkv hkp hc hw wd_549 (dq tk_Life_refuses 33 rfl) ?_
        refine G_Law_values hkv hc hw wd_509 (dq tk_Life_refuses 34 rfl) ?_
        obtain ⟨σ4, h35, hf⟩ := bn1_someZ hf
        refine K_Market_setOutVacancy hc hw hkv wd_905 h35 (hR.mono (by decide)) ⟨Nat.zero_le _, Nat.zero_le _⟩ hl.1 (Nat.le_of_ble_eq_true rfl) (dq tk_Life_refuses 35 rfl) (fun H locs hw _ => ?_)
        refine lv_aload_n hx hb (dq tk_Life_refuses 36 rfl) rfl (lv_at hl 0 rfl) ?_
        refine lv_aload_n hx hb (dq tk_Life_refuses 37 rfl) rfl (lv_at hl 0 rfl) ?_
        refine G_Life_barredTo hkv hkp hc hw wd_570 (dq tk_Life_refuses 38 rfl) ?_
        refine lv_iload_n hx hb (dq tk_Life_refuses 39 rfl) rfl (lv_at hl 2 rfl) ?_
        refine lv_aload_n hx hb (dq tk_Life_refuses 40 rfl) rfl (lv_at hl 0 rfl) ?_
        refine G_Life_law hkv hkp hc hw wd_549 (dq tk_Life_refuses 41 rfl) ?_
        refine lv_iload_n hx hb (dq tk_Life_refuses 42 rfl) rfl (lv_at hl 2 rfl) ?_
        obtain ⟨r5, σ6, h43, hf⟩ := bnd_some hf
        refine K_Law_barDays hc hw hkv wd_840 h43 (hR.mono (by decide)) ⟨Nat.zero_le _, Nat.zero_le _⟩ hl.1 (Nat.le_of_ble_eq_true rfl) (dq tk_Life_refuses 43 rfl) (fun H locs hw _ => ?_)
        refine lv_iadd hx hb (dq tk_Life_refuses 44 rfl) ?_
        refine lv_iconst (v := 1) hx hb (dq tk_Life_refuses 45 rfl) (by decide) ?_
        refine lv_isub hx hb (dq tk_Life_refuses 46 rfl) ?_
        obtain ⟨r7, h47, hf⟩ := bn1_someZ hf
        refine K_Math_max_I hc hw wd_829 h47 (hR.mono (by decide)) ⟨Nat.zero_le _, Nat.zero_le _⟩ hl.1 (Nat.le_of_ble_eq_true rfl) (dq tk_Life_refuses 47 rfl) (fun H locs hw _ => ?_)
        obtain ⟨σ8, hσ8, hf⟩ := nm_some hf
        refine P_Life_barredTo hkv hkp hc hw wd_570 hσ8 (dq tk_Life_refuses 48 rfl) (fun H locs hw => ?_)
        refine lv_iconst (v := 1) hx hb (dq tk_Life_refuses 49 rfl) (by decide) ?_
        cases hf
        exact x_zret hc hw hr (by decide) (dq tk_Life_refuses 50 rfl)
    · replace hf := if_t hf c2
      refine lv_iconst (v := 0) hx hb (dq tk_Life_refuses 10 rfl) (by decide) ?_
      cases hf
      exact x_zret hc hw hr (by decide) (dq tk_Life_refuses 11 rfl)
theorem c_Life_refuses {N : Nat} {kv kp : Nat}  {x1 : Int32} {x2 : Int32} {x3 : Int32} {rv : Int32} {σ' : St} {σ : St} (hkv : kv < 2) (hkp : kp < 20) (hf : fLife_refuses N kv kp x1 x2 x3 σ = some (rv, σ')) : Ct l Z y_Life_refuses prog_8_method_15_code 4 (some .boolean) (rmo (3)) [.ref (Z.1 + (279 + 187 * kv + 5 * kp)), .int x1, .int x2, .int x3] (cmb σ μ) (some (.int rv)) True (cmb σ' μ) := by
  refine x_met (by decide) (Nat.le_of_ble_eq_true rfl) (fun p e s m args below meth c ls hc hr hw hl => ?_)
  exact w_Life_refuses hc hr RO.self hkv hkp hw hl hf
theorem K_Life_refuses {idx : Nat} {N : Nat} {kv kp : Nat}  {x1 : Int32} {x2 : Int32} {x3 : Int32} {rv : Int32} {σ' : St} {σ : St} (hc : Cxz p s m meth c args cc own nL Z) (hw : Wd Z (cmb σ μ) s H locs) (hkv : kv < 2) (hkp : kp < 20) (hl : Cond.methodLink own idx y_Life_refuses ∈ TB) (hf : fLife_refuses N kv kp x1 x2 x3 σ = some (rv, σ')) (hR : RO R ((3) + 1)) (hcs : cells ≤ R.cells ∧ slots ≤ R.slots) (hls : ls.size = nL) (hst : (rest.map fun v => v.category).sum ≤ 8) (hdg : decode cc pc = .ok (.invokevirtual idx, 3)) (kk : ∀ (H1 : Heap) (locs1 : List Loc), Wd Z (cmb σ' μ) s H1 locs1 → True → W p l e R s m args below meth c H1 locs1 cells slots Q (F0 m (pc + 3) ls (.int rv :: rest))) : W p l e R s m args below meth c H locs cells slots Q (F0 m pc ls (.int x3 :: .int x2 :: .int x1 :: .ref (Z.1 + (279 + 187 * kv + 5 * kp)) :: rest)) :=
  x_iv hc hw (c_Life_refuses hkv hkp hf) yv_Life_refuses (wd_life (r := 0) hkv hkp (by decide) (by omega)).1 (wd_life (r := 0) hkv hkp (by decide) (by omega)).2 rfl hl (RO.call hR (by decide)) hcs rfl hls hst hdg rfl kk
set_option maxRecDepth 10000 in
theorem w_Life_meets {N : Nat} {kv kp : Nat} (hc : Cxz p s m meth c args prog_8_method_7_code "LabourExchange$Life" 5 Z) (hr : meth.sig.returnType = (some .boolean)) (hR : RO R 4) (hkv : kv < 2) (hkp : kp < 20) {rv : Int32} {σ' : St} : ∀ {x1 : Int32} {x2 : Int32} {x3 : Int32} {x4 : Int32} {σ : St} {H : Heap} {locs : List Loc} {ls : Array Slot}, Wd Z (cmb σ μ) s H locs → lv_has ls 5 [(0, .ref (Z.1 + (279 + 187 * kv + 5 * kp))), (1, .int x1), (2, .int x2), (3, .int x3), (4, .int x4)] → fLife_meets N kv kp x1 x2 x3 x4 σ = some (rv, σ') → W p l e R s m args below meth c H locs 0 0 (MQ below (Qr Z (some (.int rv)) True (cmb σ' μ)) args s 0 0 (fun q => Z.1 ≤ q)) (F0 m 0 ls []) := by
  have hx := hc.hx
  have hb := hc.hb
  intro x1 x2 x3 x4 σ H locs ls hw hl hf
  unfold fLife_meets at hf
  refine lv_iload_n hx hb (dq tk_Life_meets 0 rfl) rfl (lv_at hl 1 rfl) ?_
  by_cases c1_0 : x1 = 0
  · replace hf := if_t hf c1_0
    refine lv_tableIn (tgt := 48) hx hb (dq tk_Life_meets 1 rfl) (by rw [c1_0]; decide) (by rw [c1_0]; decide) (by rw [c1_0]; first | done | rfl) (by decide) ?_
    refine lv_aload_n hx hb (dq tk_Life_meets 2 rfl) rfl (lv_at hl 0 rfl) ?_
    refine lv_iload_n hx hb (dq tk_Life_meets 3 rfl) rfl (lv_at hl 2 rfl) ?_
    refine lv_iload_n hx hb (dq tk_Life_meets 4 rfl) rfl (lv_at hl 3 rfl) ?_
    refine lv_iload hx hb (dq tk_Life_meets 5 rfl) (lv_at hl 4 rfl) ?_
    obtain ⟨r1, σ2, h6, hf⟩ := bnd_some hf
    refine K_Life_leaves hc hw hkv hkp wd_813 h6 (hR.mono (by decide)) ⟨Nat.zero_le _, Nat.zero_le _⟩ hl.1 (Nat.le_of_ble_eq_true rfl) (dq tk_Life_meets 6 rfl) (fun H locs hw _ => ?_)
    cases hf
    exact x_zret hc hw hr rfl (dq tk_Life_meets 7 rfl)
  replace hf := if_f hf c1_0
  by_cases c1_1 : x1 = 1
  · replace hf := if_t hf c1_1
    refine lv_tableIn (tgt := 57) hx hb (dq tk_Life_meets 1 rfl) (by rw [c1_1]; decide) (by rw [c1_1]; decide) (by rw [c1_1]; first | done | rfl) (by decide) ?_
    refine lv_aload_n hx hb (dq tk_Life_meets 8 rfl) rfl (lv_at hl 0 rfl) ?_
    refine lv_iload_n hx hb (dq tk_Life_meets 9 rfl) rfl (lv_at hl 2 rfl) ?_
    refine lv_iload_n hx hb (dq tk_Life_meets 10 rfl) rfl (lv_at hl 3 rfl) ?_
    obtain ⟨r3, σ4, h11, hf⟩ := bnd_some hf
    refine K_Life_isHired hc hw hkv hkp wd_863 h11 (hR.mono (by decide)) ⟨Nat.zero_le _, Nat.zero_le _⟩ hl.1 (Nat.le_of_ble_eq_true rfl) (dq tk_Life_meets 11 rfl) (fun H locs hw _ => ?_)
    cases hf
    exact x_zret hc hw hr rfl (dq tk_Life_meets 12 rfl)
  replace hf := if_f hf c1_1
  by_cases c1_2 : x1 = 2
  · replace hf := if_t hf c1_2
    refine lv_tableIn (tgt := 64) hx hb (dq tk_Life_meets 1 rfl) (by rw [c1_2]; decide) (by rw [c1_2]; decide) (by rw [c1_2]; first | done | rfl) (by decide) ?_
    refine lv_aload_n hx hb (dq tk_Life_meets 13 rfl) rfl (lv_at hl 0 rfl) ?_
    refine lv_iload_n hx hb (dq tk_Life_meets 14 rfl) rfl (lv_at hl 3 rfl) ?_
    obtain ⟨r5, σ6, h15, hf⟩ := bnd_some hf
    refine K_Life_signs hc hw hkv hkp wd_871 h15 (hR.mono (by decide)) ⟨Nat.zero_le _, Nat.zero_le _⟩ hl.1 (Nat.le_of_ble_eq_true rfl) (dq tk_Life_meets 15 rfl) (fun H locs hw _ => ?_)
    cases hf
    exact x_zret hc hw hr rfl (dq tk_Life_meets 16 rfl)
  replace hf := if_f hf c1_2
  by_cases c1_3 : x1 = 3
  · replace hf := if_t hf c1_3
    refine lv_tableIn (tgt := 70) hx hb (dq tk_Life_meets 1 rfl) (by rw [c1_3]; decide) (by rw [c1_3]; decide) (by rw [c1_3]; first | done | rfl) (by decide) ?_
    refine lv_aload_n hx hb (dq tk_Life_meets 17 rfl) rfl (lv_at hl 0 rfl) ?_
    refine lv_iload_n hx hb (dq tk_Life_meets 18 rfl) rfl (lv_at hl 3 rfl) ?_
    obtain ⟨r7, σ8, h19, hf⟩ := bnd_some hf
    refine K_Life_goesAway hc hw hkv hkp wd_884 h19 (hR.mono (by decide)) ⟨Nat.zero_le _, Nat.zero_le _⟩ hl.1 (Nat.le_of_ble_eq_true rfl) (dq tk_Life_meets 19 rfl) (fun H locs hw _ => ?_)
    cases hf
    exact x_zret hc hw hr rfl (dq tk_Life_meets 20 rfl)
  replace hf := if_f hf c1_3
  by_cases c1_4 : x1 = 4
  · replace hf := if_t hf c1_4
    refine lv_tableIn (tgt := 76) hx hb (dq tk_Life_meets 1 rfl) (by rw [c1_4]; decide) (by rw [c1_4]; decide) (by rw [c1_4]; first | done | rfl) (by decide) ?_
    refine lv_aload_n hx hb (dq tk_Life_meets 21 rfl) rfl (lv_at hl 0 rfl) ?_
    obtain ⟨r9, σ10, h22, hf⟩ := bnd_some hf
    refine K_Life_comesBack hc hw hkv hkp wd_888 h22 (hR.mono (by decide)) ⟨Nat.zero_le _, Nat.zero_le _⟩ hl.1 (Nat.le_of_ble_eq_true rfl) (dq tk_Life_meets 22 rfl) (fun H locs hw _ => ?_)
    cases hf
    exact x_zret hc hw hr rfl (dq tk_Life_meets 23 rfl)
  replace hf := if_f hf c1_4
  by_cases c1_5 : x1 = 5
  · replace hf := if_t hf c1_5
    refine lv_tableIn (tgt := 81) hx hb (dq tk_Life_meets 1 rfl) (by rw [c1_5]; decide) (by rw [c1_5]; decide) (by rw [c1_5]; first | done | rfl) (by decide) ?_
    refine lv_aload_n hx hb (dq tk_Life_meets 24 rfl) rfl (lv_at hl 0 rfl) ?_
    refine lv_iload_n hx hb (dq tk_Life_meets 25 rfl) rfl (lv_at hl 2 rfl) ?_
    obtain ⟨σ11, hσ11, hf⟩ := nm_some hf
    refine P_Life_means hkv hkp hc hw wd_574 hσ11 (dq tk_Life_meets 26 rfl) (fun H locs hw => ?_)
    refine lv_iconst (v := 1) hx hb (dq tk_Life_meets 27 rfl) (by decide) ?_
    cases hf
    exact x_zret hc hw hr (by decide) (dq tk_Life_meets 28 rfl)
  replace hf := if_f hf c1_5
  by_cases c1_6 : x1 = 6
  · replace hf := if_t hf c1_6
    refine lv_tableIn (tgt := 88) hx hb (dq tk_Life_meets 1 rfl) (by rw [c1_6]; decide) (by rw [c1_6]; decide) (by rw [c1_6]; first | done | rfl) (by decide) ?_
    refine lv_aload_n hx hb (dq tk_Life_meets 29 rfl) rfl (lv_at hl 0 rfl) ?_
    refine lv_iload_n hx hb (dq tk_Life_meets 30 rfl) rfl (lv_at hl 2 rfl) ?_
    refine lv_iload_n hx hb (dq tk_Life_meets 31 rfl) rfl (lv_at hl 3 rfl) ?_
    obtain ⟨r12, σ13, h32, hf⟩ := bnd_some hf
    refine K_Life_goesShort hc hw hkv hkp wd_892 h32 (hR.mono (by decide)) ⟨Nat.zero_le _, Nat.zero_le _⟩ hl.1 (Nat.le_of_ble_eq_true rfl) (dq tk_Life_meets 32 rfl) (fun H locs hw _ => ?_)
    cases hf
    exact x_zret hc hw hr rfl (dq tk_Life_meets 33 rfl)
  replace hf := if_f hf c1_6
  by_cases c1_7 : x1 = 7
  · replace hf := if_t hf c1_7
    refine lv_tableIn (tgt := 95) hx hb (dq tk_Life_meets 1 rfl) (by rw [c1_7]; decide) (by rw [c1_7]; decide) (by rw [c1_7]; first | done | rfl) (by decide) ?_
    refine lv_aload_n hx hb (dq tk_Life_meets 34 rfl) rfl (lv_at hl 0 rfl) ?_
    refine lv_iload_n hx hb (dq tk_Life_meets 35 rfl) rfl (lv_at hl 2 rfl) ?_
    refine lv_iload_n hx hb (dq tk_Life_meets 36 rfl) rfl (lv_at hl 3 rfl) ?_
    refine lv_iload hx hb (dq tk_Life_meets 37 rfl) (lv_at hl 4 rfl) ?_
    obtain ⟨r14, σ15, h38, hf⟩ := bnd_some hf
    refine K_Life_refuses hc hw hkv hkp wd_896 h38 (hR.mono (by decide)) ⟨Nat.zero_le _, Nat.zero_le _⟩ hl.1 (Nat.le_of_ble_eq_true rfl) (dq tk_Life_meets 38 rfl) (fun H locs hw _ => ?_)
    cases hf
    exact x_zret hc hw hr rfl (dq tk_Life_meets 39 rfl)
  replace hf := if_f hf c1_7
  refine lv_tableOut (tgt := 104) hx hb (dq tk_Life_meets 1 rfl) (sw_out (fun k h1 h2 => by
    have h3 : k = 0 ∨ k = 1 ∨ k = 2 ∨ k = 3 ∨ k = 4 ∨ k = 5 ∨ k = 6 ∨ k = 7 := by omega
    rcases h3 with rfl | rfl | rfl | rfl | rfl | rfl | rfl | rfl
    · exact c1_0
    · exact c1_1
    · exact c1_2
    · exact c1_3
    · exact c1_4
    · exact c1_5
    · exact c1_6
    · exact c1_7
    )) (by decide) ?_
  refine lv_iconst (v := 0) hx hb (dq tk_Life_meets 40 rfl) (by decide) ?_
  cases hf
  exact x_zret hc hw hr (by decide) (dq tk_Life_meets 41 rfl)
theorem c_Life_meets {N : Nat} {kv kp : Nat}  {x1 : Int32} {x2 : Int32} {x3 : Int32} {x4 : Int32} {rv : Int32} {σ' : St} {σ : St} (hkv : kv < 2) (hkp : kp < 20) (hf : fLife_meets N kv kp x1 x2 x3 x4 σ = some (rv, σ')) : Ct l Z y_Life_meets prog_8_method_7_code 5 (some .boolean) (rmo (4)) [.ref (Z.1 + (279 + 187 * kv + 5 * kp)), .int x1, .int x2, .int x3, .int x4] (cmb σ μ) (some (.int rv)) True (cmb σ' μ) := by
  refine x_met (by decide) (Nat.le_of_ble_eq_true rfl) (fun p e s m args below meth c ls hc hr hw hl => ?_)
  exact w_Life_meets hc hr RO.self hkv hkp hw hl hf
theorem K_Life_meets {idx : Nat} {N : Nat} {kv kp : Nat}  {x1 : Int32} {x2 : Int32} {x3 : Int32} {x4 : Int32} {rv : Int32} {σ' : St} {σ : St} (hc : Cxz p s m meth c args cc own nL Z) (hw : Wd Z (cmb σ μ) s H locs) (hkv : kv < 2) (hkp : kp < 20) (hl : Cond.methodLink own idx y_Life_meets ∈ TB) (hf : fLife_meets N kv kp x1 x2 x3 x4 σ = some (rv, σ')) (hR : RO R ((4) + 1)) (hcs : cells ≤ R.cells ∧ slots ≤ R.slots) (hls : ls.size = nL) (hst : (rest.map fun v => v.category).sum ≤ 8) (hdg : decode cc pc = .ok (.invokevirtual idx, 3)) (kk : ∀ (H1 : Heap) (locs1 : List Loc), Wd Z (cmb σ' μ) s H1 locs1 → True → W p l e R s m args below meth c H1 locs1 cells slots Q (F0 m (pc + 3) ls (.int rv :: rest))) : W p l e R s m args below meth c H locs cells slots Q (F0 m pc ls (.int x4 :: .int x3 :: .int x2 :: .int x1 :: .ref (Z.1 + (279 + 187 * kv + 5 * kp)) :: rest)) :=
  x_iv hc hw (c_Life_meets hkv hkp hf) yv_Life_meets (wd_life (r := 0) hkv hkp (by decide) (by omega)).1 (wd_life (r := 0) hkv hkp (by decide) (by omega)).2 rfl hl (RO.call hR (by decide)) hcs rfl hls hst hdg rfl kk
set_option maxRecDepth 10000 in
theorem w_Life_kindOfClaim {N : Nat} {kv kp : Nat} (hc : Cxz p s m meth c args prog_8_method_19_code "LabourExchange$Life" 3 Z) (hr : meth.sig.returnType = (some .int)) (hR : RO R 2) (hkv : kv < 2) (hkp : kp < 20) {rv : Int32} {σ : St} : ∀ {x1 : Int32} {H : Heap} {locs : List Loc} {ls : Array Slot}, Wd Z (cmb σ μ) s H locs → lv_has ls 3 [(0, .ref (Z.1 + (279 + 187 * kv + 5 * kp))), (1, .int x1)] → fLife_kindOfClaim N kv kp x1 σ = some rv → W p l e R s m args below meth c H locs 0 0 (MQ below (Qr Z (some (.int rv)) True (cmb σ μ)) args s 0 0 (fun q => Z.1 ≤ q)) (F0 m 0 ls []) := by
  have hx := hc.hx
  have hb := hc.hb
  intro x1 H locs ls hw hl hf
  unfold fLife_kindOfClaim at hf
  refine lv_aload_n hx hb (dq tk_Life_kindOfClaim 0 rfl) rfl (lv_at hl 0 rfl) ?_
  obtain ⟨r1, h1, hf⟩ := bn1_someZ hf
  refine K_Life_rowOfLatest hc hw hkv hkp wd_825 h1 (hR.mono (by decide)) ⟨Nat.zero_le _, Nat.zero_le _⟩ hl.1 (Nat.le_of_ble_eq_true rfl) (dq tk_Life_kindOfClaim 1 rfl) (fun H locs hw _ => ?_)
  refine lv_istore_n (lv' := [(2, .int r1), (0, .ref (Z.1 + (279 + 187 * kv + 5 * kp))), (1, .int x1)]) hx hb (dq tk_Life_kindOfClaim 2 rfl) rfl hl (by decide) rfl (fun ls hl => ?_)
  refine lv_iload_n hx hb (dq tk_Life_kindOfClaim 3 rfl) rfl (lv_at hl 2 rfl) ?_
  refine lv_bipush (v := 6) hx hb (dq tk_Life_kindOfClaim 4 rfl) (by decide) ?_
  refine lv_irem hx hb (dq tk_Life_kindOfClaim 5 rfl) (by decide) ?_
  refine lv_aload_n hx hb (dq tk_Life_kindOfClaim 6 rfl) rfl (lv_at hl 1 rfl) ?_
  refine G_Life_daysShort hkv hkp hc hw wd_569 (dq tk_Life_kindOfClaim 7 rfl) ?_
  refine lv_icmp_ge (tgt := 19) hx hb (dq tk_Life_kindOfClaim 8 rfl) (by decide) (fun c1 => ?_) (fun c1 => ?_)
  · replace hf := if_t hf c1
    refine lv_aload_n hx hb (dq tk_Life_kindOfClaim 11 rfl) rfl (lv_at hl 1 rfl) ?_
    refine G_Life_barredTo hkv hkp hc hw wd_570 (dq tk_Life_kindOfClaim 12 rfl) ?_
    refine lv_iload_n hx hb (dq tk_Life_kindOfClaim 13 rfl) rfl (lv_at hl 2 rfl) ?_
    refine lv_icmp_lt (tgt := 29) hx hb (dq tk_Life_kindOfClaim 14 rfl) (by decide) (fun c2 => ?_) (fun c2 => ?_)
    · replace hf := if_t hf c2
      refine lv_aload_n hx hb (dq tk_Life_kindOfClaim 17 rfl) rfl (lv_at hl 1 rfl) ?_
      refine G_Life_claims hkv hkp hc hw wd_552 (dq tk_Life_kindOfClaim 18 rfl) ?_
      refine lv_iload_n hx hb (dq tk_Life_kindOfClaim 19 rfl) rfl (lv_at hl 0 rfl) ?_
      refine lv_iconst (v := 2) hx hb (dq tk_Life_kindOfClaim 20 rfl) (by decide) ?_
      refine lv_iadd hx hb (dq tk_Life_kindOfClaim 21 rfl) ?_
      obtain ⟨c3, hf⟩ := chk_some hf
      refine AL_Life_claims hkv hkp hc hw c3 (dq tk_Life_kindOfClaim 22 rfl) ?_
      refine lv_aload_n hx hb (dq tk_Life_kindOfClaim 23 rfl) rfl (lv_at hl 1 rfl) ?_
      refine G_Life_law hkv hkp hc hw wd_549 (dq tk_Life_kindOfClaim 24 rfl) ?_
      refine lv_iconst (v := 0) hx hb (dq tk_Life_kindOfClaim 25 rfl) (by decide) ?_
      refine lv_iload_n hx hb (dq tk_Life_kindOfClaim 26 rfl) rfl (lv_at hl 2 rfl) ?_
      obtain ⟨r2, h27, hf⟩ := bn1_someZ hf
      refine K_Law_param hc hw hkv wd_821 h27 (hR.mono (by decide)) ⟨Nat.zero_le _, Nat.zero_le _⟩ hl.1 (Nat.le_of_ble_eq_true rfl) (dq tk_Life_kindOfClaim 27 rfl) (fun H locs hw _ => ?_)
      refine lv_icmp_ge (tgt := 51) hx hb (dq tk_Life_kindOfClaim 28 rfl) (by decide) (fun c4 => ?_) (fun c4 => ?_)
      · replace hf := if_t hf c4
        refine lv_aload_n hx hb (dq tk_Life_kindOfClaim 31 rfl) rfl (lv_at hl 1 rfl) ?_
        refine G_Life_claims hkv hkp hc hw wd_552 (dq tk_Life_kindOfClaim 32 rfl) ?_
        refine lv_iload_n hx hb (dq tk_Life_kindOfClaim 33 rfl) rfl (lv_at hl 0 rfl) ?_
        refine lv_iconst (v := 3) hx hb (dq tk_Life_kindOfClaim 34 rfl) (by decide) ?_
        refine lv_iadd hx hb (dq tk_Life_kindOfClaim 35 rfl) ?_
        obtain ⟨c5, hf⟩ := chk_some hf
        refine AL_Life_claims hkv hkp hc hw c5 (dq tk_Life_kindOfClaim 36 rfl) ?_
        refine lv_aload_n hx hb (dq tk_Life_kindOfClaim 37 rfl) rfl (lv_at hl 1 rfl) ?_
        refine G_Life_claims hkv hkp hc hw wd_552 (dq tk_Life_kindOfClaim 38 rfl) ?_
        refine lv_iload_n hx hb (dq tk_Life_kindOfClaim 39 rfl) rfl (lv_at hl 0 rfl) ?_
        refine lv_iconst (v := 1) hx hb (dq tk_Life_kindOfClaim 40 rfl) (by decide) ?_
        refine lv_iadd hx hb (dq tk_Life_kindOfClaim 41 rfl) ?_
        obtain ⟨c6, hf⟩ := chk_some hf
        refine AL_Life_claims hkv hkp hc hw c6 (dq tk_Life_kindOfClaim 42 rfl) ?_
        refine lv_icmp_ge (tgt := 72) hx hb (dq tk_Life_kindOfClaim 43 rfl) (by decide) (fun c7 => ?_) (fun c7 => ?_)
        · replace hf := if_t hf c7
          refine lv_aload_n hx hb (dq tk_Life_kindOfClaim 46 rfl) rfl (lv_at hl 1 rfl) ?_
          refine G_Life_claims hkv hkp hc hw wd_552 (dq tk_Life_kindOfClaim 47 rfl) ?_
          refine lv_iload_n hx hb (dq tk_Life_kindOfClaim 48 rfl) rfl (lv_at hl 0 rfl) ?_
          refine lv_iconst (v := 4) hx hb (dq tk_Life_kindOfClaim 49 rfl) (by decide) ?_
          refine lv_iadd hx hb (dq tk_Life_kindOfClaim 50 rfl) ?_
          obtain ⟨c8, hf⟩ := chk_some hf
          refine AL_Life_claims hkv hkp hc hw c8 (dq tk_Life_kindOfClaim 51 rfl) ?_
          refine lv_aload_n hx hb (dq tk_Life_kindOfClaim 52 rfl) rfl (lv_at hl 1 rfl) ?_
          refine G_Life_law hkv hkp hc hw wd_549 (dq tk_Life_kindOfClaim 53 rfl) ?_
          refine lv_iconst (v := 5) hx hb (dq tk_Life_kindOfClaim 54 rfl) (by decide) ?_
          refine lv_iload_n hx hb (dq tk_Life_kindOfClaim 55 rfl) rfl (lv_at hl 2 rfl) ?_
          obtain ⟨r3, h56, hf⟩ := bn1_someZ hf
          refine K_Law_param hc hw hkv wd_821 h56 (hR.mono (by decide)) ⟨Nat.zero_le _, Nat.zero_le _⟩ hl.1 (Nat.le_of_ble_eq_true rfl) (dq tk_Life_kindOfClaim 56 rfl) (fun H locs hw _ => ?_)
          refine lv_icmp_ge (tgt := 96) hx hb (dq tk_Life_kindOfClaim 57 rfl) (by decide) (fun c9 => ?_) (fun c9 => ?_)
          · replace hf := if_t hf c9
            refine lv_iconst (v := 5) hx hb (dq tk_Life_kindOfClaim 60 rfl) (by decide) ?_
            cases hf
            exact x_iret hc hw hr (dq tk_Life_kindOfClaim 61 rfl)
          · replace hf := if_f hf c9
            refine lv_iconst (v := 4) hx hb (dq tk_Life_kindOfClaim 58 rfl) (by decide) ?_
            refine lv_goto (tgt := 97) hx hb (dq tk_Life_kindOfClaim 59 rfl) (by decide) ?_
            cases hf
            exact x_iret hc hw hr (dq tk_Life_kindOfClaim 61 rfl)
        · replace hf := if_f hf c7
          refine lv_iconst (v := 3) hx hb (dq tk_Life_kindOfClaim 44 rfl) (by decide) ?_
          cases hf
          exact x_iret hc hw hr (dq tk_Life_kindOfClaim 45 rfl)
      · replace hf := if_f hf c4
        refine lv_iconst (v := 2) hx hb (dq tk_Life_kindOfClaim 29 rfl) (by decide) ?_
        cases hf
        exact x_iret hc hw hr (dq tk_Life_kindOfClaim 30 rfl)
    · replace hf := if_f hf c2
      refine lv_iconst (v := 1) hx hb (dq tk_Life_kindOfClaim 15 rfl) (by decide) ?_
      cases hf
      exact x_iret hc hw hr (dq tk_Life_kindOfClaim 16 rfl)
  · replace hf := if_f hf c1
    refine lv_bipush (v := 6) hx hb (dq tk_Life_kindOfClaim 9 rfl) (by decide) ?_
    cases hf
    exact x_iret hc hw hr (dq tk_Life_kindOfClaim 10 rfl)
theorem c_Life_kindOfClaim {N : Nat} {kv kp : Nat}  {x1 : Int32} {rv : Int32} {σ : St} (hkv : kv < 2) (hkp : kp < 20) (hf : fLife_kindOfClaim N kv kp x1 σ = some rv) : Ct l Z y_Life_kindOfClaim prog_8_method_19_code 3 (some .int) (rmo (2)) [.ref (Z.1 + (279 + 187 * kv + 5 * kp)), .int x1] (cmb σ μ) (some (.int rv)) True (cmb σ μ) := by
  refine x_met (by decide) (Nat.le_of_ble_eq_true rfl) (fun p e s m args below meth c ls hc hr hw hl => ?_)
  exact w_Life_kindOfClaim hc hr RO.self hkv hkp hw hl hf
theorem K_Life_kindOfClaim {idx : Nat} {N : Nat} {kv kp : Nat}  {x1 : Int32} {rv : Int32} {σ : St} (hc : Cxz p s m meth c args cc own nL Z) (hw : Wd Z (cmb σ μ) s H locs) (hkv : kv < 2) (hkp : kp < 20) (hl : Cond.methodLink own idx y_Life_kindOfClaim ∈ TB) (hf : fLife_kindOfClaim N kv kp x1 σ = some rv) (hR : RO R ((2) + 1)) (hcs : cells ≤ R.cells ∧ slots ≤ R.slots) (hls : ls.size = nL) (hst : (rest.map fun v => v.category).sum ≤ 8) (hdg : decode cc pc = .ok (.invokevirtual idx, 3)) (kk : ∀ (H1 : Heap) (locs1 : List Loc), Wd Z (cmb σ μ) s H1 locs1 → True → W p l e R s m args below meth c H1 locs1 cells slots Q (F0 m (pc + 3) ls (.int rv :: rest))) : W p l e R s m args below meth c H locs cells slots Q (F0 m pc ls (.int x1 :: .ref (Z.1 + (279 + 187 * kv + 5 * kp)) :: rest)) :=
  x_iv hc hw (c_Life_kindOfClaim hkv hkp hf) yv_Life_kindOfClaim (wd_life (r := 0) hkv hkp (by decide) (by omega)).1 (wd_life (r := 0) hkv hkp (by decide) (by omega)).2 rfl hl (RO.call hR (by decide)) hcs rfl hls hst hdg rfl kk
set_option maxRecDepth 10000 in
theorem w_Law_payingAct {N : Nat} {kv : Nat} (hc : Cxz p s m meth c args prog_7_method_9_code "LabourExchange$Law" 4 Z) (hr : meth.sig.returnType = (some .int)) (hR : RO R 0) (hkv : kv < 2) {rv : Int32} {σ : St} : ∀ {x1 : Int32} {x2 : Int32} {H : Heap} {locs : List Loc} {ls : Array Slot}, Wd Z (cmb σ μ) s H locs → lv_has ls 4 [(0, .ref (Z.1 + (197 + 187 * kv))), (1, .int x1), (2, .int x2)] → fLaw_payingAct N kv x1 x2 σ = some rv → W p l e R s m args below meth c H locs 0 0 (MQ below (Qr Z (some (.int rv)) True (cmb σ μ)) args s 0 0 (fun q => Z.1 ≤ q)) (F0 m 0 ls []) := by
  have hx := hc.hx
  have hb := hc.hb
  intro x1 x2 H locs ls hw hl hf
  unfold fLaw_payingAct at hf
  refine lv_aload_n hx hb (dq tk_Law_payingAct 0 rfl) rfl (lv_at hl 0 rfl) ?_
  refine G_Law_spanOf hkv hc hw wd_498 (dq tk_Law_payingAct 1 rfl) ?_
  refine lv_iload_n hx hb (dq tk_Law_payingAct 2 rfl) rfl (lv_at hl 2 rfl) ?_
  obtain ⟨c1, hf⟩ := chk_some hf
  refine AL_Law_spanOf hkv hc hw c1 (dq tk_Law_payingAct 3 rfl) ?_
  obtain ⟨y1, hy1, hf⟩ := nm_some hf
  refine tst (congrArg Value.int hy1) ?_
  refine lv_istore_n (lv' := [(3, .int y1), (0, .ref (Z.1 + (197 + 187 * kv))), (1, .int x1), (2, .int x2)]) hx hb (dq tk_Law_payingAct 4 rfl) rfl hl (by decide) rfl (fun ls hl => ?_)
  refine lv_iload_n hx hb (dq tk_Law_payingAct 5 rfl) rfl (lv_at hl 2 rfl) ?_
  refine lv_iconst (v := 5) hx hb (dq tk_Law_payingAct 6 rfl) (by decide) ?_
  refine lv_icmp_ne (tgt := 21) hx hb (dq tk_Law_payingAct 7 rfl) (by decide) (fun c2 => ?_) (fun c2 => ?_)
  · replace hf := if_f hf c2
    refine lv_aload_n hx hb (dq tk_Law_payingAct 13 rfl) rfl (lv_at hl 1 rfl) ?_
    refine G_Law_payAct hkv hc hw wd_503 (dq tk_Law_payingAct 14 rfl) ?_
    refine lv_iload_n hx hb (dq tk_Law_payingAct 15 rfl) rfl (lv_at hl 0 rfl) ?_
    obtain ⟨c3, hf⟩ := chk_some hf
    refine AL_Law_payAct hkv hc hw c3 (dq tk_Law_payingAct 16 rfl) ?_
    cases hf
    exact x_iret hc hw hr (dq tk_Law_payingAct 17 rfl)
  · replace hf := if_t hf c2
    refine lv_aload_n hx hb (dq tk_Law_payingAct 8 rfl) rfl (lv_at hl 1 rfl) ?_
    refine G_Law_needyAct hkv hc hw wd_504 (dq tk_Law_payingAct 9 rfl) ?_
    refine lv_iload_n hx hb (dq tk_Law_payingAct 10 rfl) rfl (lv_at hl 0 rfl) ?_
    obtain ⟨c4, hf⟩ := chk_some hf
    refine AL_Law_needyAct hkv hc hw c4 (dq tk_Law_payingAct 11 rfl) ?_
    refine lv_goto (tgt := 27) hx hb (dq tk_Law_payingAct 12 rfl) (by decide) ?_
    cases hf
    exact x_iret hc hw hr (dq tk_Law_payingAct 17 rfl)
theorem c_Law_payingAct {N : Nat} {kv : Nat}  {x1 : Int32} {x2 : Int32} {rv : Int32} {σ : St} (hkv : kv < 2) (hf : fLaw_payingAct N kv x1 x2 σ = some rv) : Ct l Z y_Law_payingAct prog_7_method_9_code 4 (some .int) (rmo (0)) [.ref (Z.1 + (197 + 187 * kv)), .int x1, .int x2] (cmb σ μ) (some (.int rv)) True (cmb σ μ) := by
  refine x_met (by decide) (Nat.le_of_ble_eq_true rfl) (fun p e s m args below meth c ls hc hr hw hl => ?_)
  exact w_Law_payingAct hc hr RO.self hkv hw hl hf
theorem K_Law_payingAct {idx : Nat} {N : Nat} {kv : Nat}  {x1 : Int32} {x2 : Int32} {rv : Int32} {σ : St} (hc : Cxz p s m meth c args cc own nL Z) (hw : Wd Z (cmb σ μ) s H locs) (hkv : kv < 2) (hl : Cond.methodLink own idx y_Law_payingAct ∈ TB) (hf : fLaw_payingAct N kv x1 x2 σ = some rv) (hR : RO R ((0) + 1)) (hcs : cells ≤ R.cells ∧ slots ≤ R.slots) (hls : ls.size = nL) (hst : (rest.map fun v => v.category).sum ≤ 8) (hdg : decode cc pc = .ok (.invokevirtual idx, 3)) (kk : ∀ (H1 : Heap) (locs1 : List Loc), Wd Z (cmb σ μ) s H1 locs1 → True → W p l e R s m args below meth c H1 locs1 cells slots Q (F0 m (pc + 3) ls (.int rv :: rest))) : W p l e R s m args below meth c H locs cells slots Q (F0 m pc ls (.int x2 :: .int x1 :: .ref (Z.1 + (197 + 187 * kv)) :: rest)) :=
  x_iv hc hw (c_Law_payingAct hkv hf) yv_Law_payingAct (wd_view (r := 5) hkv (by decide) (by omega)).1 (wd_view (r := 5) hkv (by decide) (by omega)).2 rfl hl (RO.call hR (by decide)) hcs rfl hls hst hdg rfl kk
set_option maxRecDepth 10000 in
theorem w_Law_payFor_92 {N : Nat} {kv : Nat} (hc : Cxz p s m meth c args prog_7_method_10_code "LabourExchange$Law" 4 Z) (hr : meth.sig.returnType = (some .int)) (hR : RO R 2) (hkv : kv < 2) {rv : Int32} {σ' : St} : ∀ {s0 : Int64} {σ : St} {H : Heap} {locs : List Loc} {ls : Array Slot}, Wd Z (cmb σ μ) s H locs → lv_has ls 4 [] → fLaw_payFor_92 N kv s0 σ = some (rv, σ') → W p l e R s m args below meth c H locs 0 0 (MQ below (Qr Z (some (.int rv)) True (cmb σ' μ)) args s 0 0 (fun q => Z.1 ≤ q)) (F0 m 92 ls [.long s0]) := by
  have hx := hc.hx
  have hb := hc.hb
  intro s0 σ H locs ls hw hl hf
  unfold fLaw_payFor_92 at hf
  obtain ⟨r1, h52, hf⟩ := bn1_someZ hf
  refine K_Law_limited hc hw wd_853 h52 (hR.mono (by decide)) ⟨Nat.zero_le _, Nat.zero_le _⟩ hl.1 (Nat.le_of_ble_eq_true rfl) (dq tk_Law_payFor 52 rfl) (fun H locs hw _ => ?_)
  cases hf
  exact x_iret hc hw hr (dq tk_Law_payFor 53 rfl)
set_option maxRecDepth 10000 in
theorem w_Law_payFor {N : Nat} {kv : Nat} (hc : Cxz p s m meth c args prog_7_method_10_code "LabourExchange$Law" 4 Z) (hr : meth.sig.returnType = (some .int)) (hR : RO R 2) (hkv : kv < 2) {rv : Int32} {σ' : St} : ∀ {x1 : Int32} {x2 : Int32} {σ : St} {H : Heap} {locs : List Loc} {ls : Array Slot}, Wd Z (cmb σ μ) s H locs → lv_has ls 4 [(0, .ref (Z.1 + (197 + 187 * kv))), (1, .int x1), (2, .int x2)] → fLaw_payFor N kv x1 x2 σ = some (rv, σ') → W p l e R s m args below meth c H locs 0 0 (MQ below (Qr Z (some (.int rv)) True (cmb σ' μ)) args s 0 0 (fun q => Z.1 ≤ q)) (F0 m 0 ls []) := by
  have hx := hc.hx
  have hb := hc.hb
  intro x1 x2 σ H locs ls hw hl hf
  unfold fLaw_payFor at hf
  refine lv_aload_n hx hb (dq tk_Law_payFor 0 rfl) rfl (lv_at hl 0 rfl) ?_
  refine lv_iload_n hx hb (dq tk_Law_payFor 1 rfl) rfl (lv_at hl 1 rfl) ?_
  refine lv_iload_n hx hb (dq tk_Law_payFor 2 rfl) rfl (lv_at hl 2 rfl) ?_
  obtain ⟨r1, h3, hf⟩ := bn1_someZ hf
  refine K_Law_payingAct hc hw hkv wd_928 h3 (hR.mono (by decide)) ⟨Nat.zero_le _, Nat.zero_le _⟩ hl.1 (Nat.le_of_ble_eq_true rfl) (dq tk_Law_payFor 3 rfl) (fun H locs hw _ => ?_)
  refine lv_istore_n (lv' := [(3, .int r1), (0, .ref (Z.1 + (197 + 187 * kv))), (1, .int x1), (2, .int x2)]) hx hb (dq tk_Law_payFor 4 rfl) rfl hl (by decide) rfl (fun ls hl => ?_)
  refine lv_iload_n hx hb (dq tk_Law_payFor 5 rfl) rfl (lv_at hl 2 rfl) ?_
  refine lv_iconst (v := 5) hx hb (dq tk_Law_payFor 6 rfl) (by decide) ?_
  refine lv_icmp_ne (tgt := 51) hx hb (dq tk_Law_payFor 7 rfl) (by decide) (fun c1 => ?_) (fun c1 => ?_)
  · replace hf := if_f hf c1
    refine lv_iload_n hx hb (dq tk_Law_payFor 29 rfl) rfl (lv_at hl 0 rfl) ?_
    refine lv_iconst (v := (-1)) hx hb (dq tk_Law_payFor 30 rfl) (by decide) ?_
    refine lv_icmp_ne (tgt := 66) hx hb (dq tk_Law_payFor 31 rfl) (by decide) (fun c2 => ?_) (fun c2 => ?_)
    · replace hf := if_f hf c2
      refine lv_aload_n hx hb (dq tk_Law_payFor 38 rfl) rfl (lv_at hl 1 rfl) ?_
      refine G_Law_acts hkv hc hw wd_495 (dq tk_Law_payFor 39 rfl) ?_
      refine lv_iload_n hx hb (dq tk_Law_payFor 40 rfl) rfl (lv_at hl 0 rfl) ?_
      obtain ⟨c3, hf⟩ := chk_some hf
      refine AL_X_acts hc hw c3 (dq tk_Law_payFor 41 rfl) ?_
      refine lv_aload_n hx hb (dq tk_Law_payFor 42 rfl) rfl (lv_at hl 1 rfl) ?_
      refine G_Law_acts hkv hc hw wd_495 (dq tk_Law_payFor 43 rfl) ?_
      refine lv_iload_n hx hb (dq tk_Law_payFor 44 rfl) rfl (lv_at hl 0 rfl) ?_
      refine AL_X_acts hc hw c3 (dq tk_Law_payFor 45 rfl) ?_
      refine G_Act_pay (inb_lt c3) hc hw wd_425 (dq tk_Law_payFor 46 rfl) ?_
      refine lv_aload_n hx hb (dq tk_Law_payFor 47 rfl) rfl (lv_at hl 1 rfl) ?_
      refine G_Law_values hkv hc hw wd_507 (dq tk_Law_payFor 48 rfl) ?_
      refine lv_aload_n hx hb (dq tk_Law_payFor 49 rfl) rfl (lv_at hl 1 rfl) ?_
      refine G_Law_stack hkv hc hw wd_511 (dq tk_Law_payFor 50 rfl) ?_
      obtain ⟨r2, σ3, h51, hf⟩ := bnd_some hf
      refine K_Act_work hc hw (inb_lt c3) hkv hkv wd_844 h51 (hR.mono (by decide)) ⟨Nat.zero_le _, Nat.zero_le _⟩ hl.1 (Nat.le_of_ble_eq_true rfl) (dq tk_Law_payFor 51 rfl) (fun H locs hw _ => ?_)
      exact w_Law_payFor_92 hc hr hR hkv hw (lv_sub hl [] rfl) hf
    · replace hf := if_t hf c2
      refine lv_aload_n hx hb (dq tk_Law_payFor 32 rfl) rfl (lv_at hl 1 rfl) ?_
      refine lv_iconst (v := 2) hx hb (dq tk_Law_payFor 33 rfl) (by decide) ?_
      refine lv_iload_n hx hb (dq tk_Law_payFor 34 rfl) rfl (lv_at hl 3 rfl) ?_
      obtain ⟨r4, h35, hf⟩ := bn1_someZ hf
      refine K_Law_param hc hw hkv wd_932 h35 (hR.mono (by decide)) ⟨Nat.zero_le _, Nat.zero_le _⟩ hl.1 (Nat.le_of_ble_eq_true rfl) (dq tk_Law_payFor 35 rfl) (fun H locs hw _ => ?_)
      refine lv_i2l hx hb (dq tk_Law_payFor 36 rfl) rfl ?_
      refine lv_goto (tgt := 92) hx hb (dq tk_Law_payFor 37 rfl) (by decide) ?_
      exact w_Law_payFor_92 hc hr hR hkv hw (lv_sub hl [] rfl) hf
  · replace hf := if_t hf c1
    refine lv_iload_n hx hb (dq tk_Law_payFor 8 rfl) rfl (lv_at hl 0 rfl) ?_
    refine lv_iconst (v := (-1)) hx hb (dq tk_Law_payFor 9 rfl) (by decide) ?_
    refine lv_icmp_ne (tgt := 21) hx hb (dq tk_Law_payFor 10 rfl) (by decide) (fun c4 => ?_) (fun c4 => ?_)
    · replace hf := if_f hf c4
      refine lv_aload_n hx hb (dq tk_Law_payFor 13 rfl) rfl (lv_at hl 1 rfl) ?_
      refine G_Law_acts hkv hc hw wd_495 (dq tk_Law_payFor 14 rfl) ?_
      refine lv_iload_n hx hb (dq tk_Law_payFor 15 rfl) rfl (lv_at hl 0 rfl) ?_
      obtain ⟨c5, hf⟩ := chk_some hf
      refine AL_X_acts hc hw c5 (dq tk_Law_payFor 16 rfl) ?_
      refine lv_aload_n hx hb (dq tk_Law_payFor 17 rfl) rfl (lv_at hl 1 rfl) ?_
      refine G_Law_acts hkv hc hw wd_495 (dq tk_Law_payFor 18 rfl) ?_
      refine lv_iload_n hx hb (dq tk_Law_payFor 19 rfl) rfl (lv_at hl 0 rfl) ?_
      refine AL_X_acts hc hw c5 (dq tk_Law_payFor 20 rfl) ?_
      refine G_Act_needy (inb_lt c5) hc hw wd_428 (dq tk_Law_payFor 21 rfl) ?_
      refine lv_aload_n hx hb (dq tk_Law_payFor 22 rfl) rfl (lv_at hl 1 rfl) ?_
      refine G_Law_values hkv hc hw wd_507 (dq tk_Law_payFor 23 rfl) ?_
      refine lv_aload_n hx hb (dq tk_Law_payFor 24 rfl) rfl (lv_at hl 1 rfl) ?_
      refine G_Law_stack hkv hc hw wd_511 (dq tk_Law_payFor 25 rfl) ?_
      obtain ⟨r5, σ6, h26, hf⟩ := bnd_some hf
      refine K_Act_work hc hw (inb_lt c5) hkv hkv wd_844 h26 (hR.mono (by decide)) ⟨Nat.zero_le _, Nat.zero_le _⟩ hl.1 (Nat.le_of_ble_eq_true rfl) (dq tk_Law_payFor 26 rfl) (fun H locs hw _ => ?_)
      obtain ⟨r7, h27, hf⟩ := bn1_someZ hf
      refine K_Law_limited hc hw wd_853 h27 (hR.mono (by decide)) ⟨Nat.zero_le _, Nat.zero_le _⟩ hl.1 (Nat.le_of_ble_eq_true rfl) (dq tk_Law_payFor 27 rfl) (fun H locs hw _ => ?_)
      cases hf
      exact x_iret hc hw hr (dq tk_Law_payFor 28 rfl)
    · replace hf := if_t hf c4
      refine lv_iconst (v := 0) hx hb (dq tk_Law_payFor 11 rfl) (by decide) ?_
      refine lv_goto (tgt := 50) hx hb (dq tk_Law_payFor 12 rfl) (by decide) ?_
      cases hf
      exact x_iret hc hw hr (dq tk_Law_payFor 28 rfl)
theorem c_Law_payFor {N : Nat} {kv : Nat}  {x1 : Int32} {x2 : Int32} {rv : Int32} {σ' : St} {σ : St} (hkv : kv < 2) (hf : fLaw_payFor N kv x1 x2 σ = some (rv, σ')) : Ct l Z y_Law_payFor prog_7_method_10_code 4 (some .int) (rmo (2)) [.ref (Z.1 + (197 + 187 * kv)), .int x1, .int x2] (cmb σ μ) (some (.int rv)) True (cmb σ' μ) := by
  refine x_met (by decide) (Nat.le_of_ble_eq_true rfl) (fun p e s m args below meth c ls hc hr hw hl => ?_)
  exact w_Law_payFor hc hr RO.self hkv hw hl hf
theorem K_Law_payFor {idx : Nat} {N : Nat} {kv : Nat}  {x1 : Int32} {x2 : Int32} {rv : Int32} {σ' : St} {σ : St} (hc : Cxz p s m meth c args cc own nL Z) (hw : Wd Z (cmb σ μ) s H locs) (hkv : kv < 2) (hl : Cond.methodLink own idx y_Law_payFor ∈ TB) (hf : fLaw_payFor N kv x1 x2 σ = some (rv, σ')) (hR : RO R ((2) + 1)) (hcs : cells ≤ R.cells ∧ slots ≤ R.slots) (hls : ls.size = nL) (hst : (rest.map fun v => v.category).sum ≤ 8) (hdg : decode cc pc = .ok (.invokevirtual idx, 3)) (kk : ∀ (H1 : Heap) (locs1 : List Loc), Wd Z (cmb σ' μ) s H1 locs1 → True → W p l e R s m args below meth c H1 locs1 cells slots Q (F0 m (pc + 3) ls (.int rv :: rest))) : W p l e R s m args below meth c H locs cells slots Q (F0 m pc ls (.int x2 :: .int x1 :: .ref (Z.1 + (197 + 187 * kv)) :: rest)) :=
  x_iv hc hw (c_Law_payFor hkv hf) yv_Law_payFor (wd_view (r := 5) hkv (by decide) (by omega)).1 (wd_view (r := 5) hkv (by decide) (by omega)).2 rfl hl (RO.call hR (by decide)) hcs rfl hls hst hdg rfl kk
set_option maxRecDepth 10000 in
theorem w_Life_countInClaim_73 {N : Nat} {kv kp : Nat} (hc : Cxz p s m meth c args prog_8_method_20_code "LabourExchange$Life" 4 Z) (hr : meth.sig.returnType = none) (hR : RO R 2) (hkv : kv < 2) (hkp : kp < 20) {σ' : St} : ∀ {x1 : Int32} {σ : St} {H : Heap} {locs : List Loc} {ls : Array Slot}, Wd Z (cmb σ μ) s H locs → lv_has ls 4 [(0, .ref (Z.1 + (279 + 187 * kv + 5 * kp))), (1, .int x1)] → fLife_countInClaim_73 N kv kp x1 σ = some σ' → W p l e R s m args below meth c H locs 0 0 (MQ below (Qr Z none True (cmb σ' μ)) args s 0 0 (fun q => Z.1 ≤ q)) (F0 m 73 ls []) := by
  have hx := hc.hx
  have hb := hc.hb
  intro x1 σ H locs ls hw hl hf
  unfold fLife_countInClaim_73 at hf
  refine lv_iload_n hx hb (dq tk_Life_countInClaim 52 rfl) rfl (lv_at hl 1 rfl) ?_
  refine lv_if_ne (tgt := 87) hx hb (dq tk_Life_countInClaim 53 rfl) (by decide) (fun c1 => ?_) (fun c1 => ?_)
  · replace hf := if_f hf c1
    cases hf
    exact x_vret hc hw hr (dq tk_Life_countInClaim 62 rfl)
  · replace hf := if_t hf c1
    refine lv_aload_n hx hb (dq tk_Life_countInClaim 54 rfl) rfl (lv_at hl 0 rfl) ?_
    refine G_Life_totals hkv hkp hc hw wd_556 (dq tk_Life_countInClaim 55 rfl) ?_
    refine lv_iconst (v := 2) hx hb (dq tk_Life_countInClaim 56 rfl) (by decide) ?_
    refine lv_dup2_11 hx hb (dq tk_Life_countInClaim 57 rfl) rfl rfl ?_
    refine AL_Life_totals hkv hkp hc hw (by decide) (dq tk_Life_countInClaim 58 rfl) ?_
    refine lv_iconst (v := 1) hx hb (dq tk_Life_countInClaim 59 rfl) (by decide) ?_
    refine lv_iadd hx hb (dq tk_Life_countInClaim 60 rfl) ?_
    obtain ⟨σ1, hσ1, hf⟩ := nm_some hf
    refine AS_Life_totals hkv hkp hc hw (by decide) hσ1 (dq tk_Life_countInClaim 61 rfl) (fun H locs hw => ?_)
    cases hf
    exact x_vret hc hw hr (dq tk_Life_countInClaim 62 rfl)
set_option maxRecDepth 10000 in
theorem w_Life_countInClaim_27 {N : Nat} {kv kp : Nat} (hc : Cxz p s m meth c args prog_8_method_20_code "LabourExchange$Life" 4 Z) (hr : meth.sig.returnType = none) (hR : RO R 2) (hkv : kv < 2) (hkp : kp < 20) {σ' : St} : ∀ {x1 : Int32} {x2 : Int32} {x3 : Int32} {σ : St} {H : Heap} {locs : List Loc} {ls : Array Slot}, Wd Z (cmb σ μ) s H locs → lv_has ls 4 [(0, .ref (Z.1 + (279 + 187 * kv + 5 * kp))), (1, .int x1), (2, .int x2), (3, .int x3)] → fLife_countInClaim_27 N kv kp x1 x2 x3 σ = some σ' → W p l e R s m args below meth c H locs 0 0 (MQ below (Qr Z none True (cmb σ' μ)) args s 0 0 (fun q => Z.1 ≤ q)) (F0 m 27 ls []) := by
  have hx := hc.hx
  have hb := hc.hb
  intro x1 x2 x3 σ H locs ls hw hl hf
  unfold fLife_countInClaim_27 at hf
  refine lv_aload_n hx hb (dq tk_Life_countInClaim 19 rfl) rfl (lv_at hl 0 rfl) ?_
  refine G_Life_claims hkv hkp hc hw wd_552 (dq tk_Life_countInClaim 20 rfl) ?_
  refine lv_iload_n hx hb (dq tk_Life_countInClaim 21 rfl) rfl (lv_at hl 3 rfl) ?_
  refine lv_bipush (v := 6) hx hb (dq tk_Life_countInClaim 22 rfl) (by decide) ?_
  refine lv_iadd hx hb (dq tk_Life_countInClaim 23 rfl) ?_
  refine lv_dup2_11 hx hb (dq tk_Life_countInClaim 24 rfl) rfl rfl ?_
  obtain ⟨c1, hf⟩ := chk_some hf
  refine AL_Life_claims hkv hkp hc hw c1 (dq tk_Life_countInClaim 25 rfl) ?_
  refine lv_iload_n hx hb (dq tk_Life_countInClaim 26 rfl) rfl (lv_at hl 2 rfl) ?_
  refine lv_iadd hx hb (dq tk_Life_countInClaim 27 rfl) ?_
  obtain ⟨σ1, hσ1, hf⟩ := nm_some hf
  refine AS_Life_claims hkv hkp hc hw c1 hσ1 (dq tk_Life_countInClaim 28 rfl) (fun H locs hw => ?_)
  refine lv_aload_n hx hb (dq tk_Life_countInClaim 29 rfl) rfl (lv_at hl 0 rfl) ?_
  refine G_Life_totals hkv hkp hc hw wd_556 (dq tk_Life_countInClaim 30 rfl) ?_
  refine lv_iconst (v := 0) hx hb (dq tk_Life_countInClaim 31 rfl) (by decide) ?_
  refine lv_dup2_11 hx hb (dq tk_Life_countInClaim 32 rfl) rfl rfl ?_
  refine AL_Life_totals hkv hkp hc hw (by decide) (dq tk_Life_countInClaim 33 rfl) ?_
  refine lv_iload_n hx hb (dq tk_Life_countInClaim 34 rfl) rfl (lv_at hl 2 rfl) ?_
  refine lv_iadd hx hb (dq tk_Life_countInClaim 35 rfl) ?_
  obtain ⟨σ2, hσ2, hf⟩ := nm_some hf
  refine AS_Life_totals hkv hkp hc hw (by decide) hσ2 (dq tk_Life_countInClaim 36 rfl) (fun H locs hw => ?_)
  refine lv_iload_n hx hb (dq tk_Life_countInClaim 37 rfl) rfl (lv_at hl 1 rfl) ?_
  refine lv_iconst (v := 3) hx hb (dq tk_Life_countInClaim 38 rfl) (by decide) ?_
  refine lv_icmp_lt (tgt := 73) hx hb (dq tk_Life_countInClaim 39 rfl) (by decide) (fun c2 => ?_) (fun c2 => ?_)
  · replace hf := if_t hf c2
    exact w_Life_countInClaim_73 hc hr hR hkv hkp hw (lv_sub hl [0, 1] rfl) hf
  · replace hf := if_f hf c2
    refine lv_iload_n hx hb (dq tk_Life_countInClaim 40 rfl) rfl (lv_at hl 1 rfl) ?_
    refine lv_iconst (v := 5) hx hb (dq tk_Life_countInClaim 41 rfl) (by decide) ?_
    refine lv_icmp_gt (tgt := 73) hx hb (dq tk_Life_countInClaim 42 rfl) (by decide) (fun c3 => ?_) (fun c3 => ?_)
    · replace hf := if_t hf c3
      exact w_Life_countInClaim_73 hc hr hR hkv hkp hw (lv_sub hl [0, 1] rfl) hf
    · replace hf := if_f hf c3
      refine lv_aload_n hx hb (dq tk_Life_countInClaim 43 rfl) rfl (lv_at hl 0 rfl) ?_
      refine G_Life_totals hkv hkp hc hw wd_556 (dq tk_Life_countInClaim 44 rfl) ?_
      refine lv_iconst (v := 1) hx hb (dq tk_Life_countInClaim 45 rfl) (by decide) ?_
      refine lv_dup2_11 hx hb (dq tk_Life_countInClaim 46 rfl) rfl rfl ?_
      refine AL_Life_totals hkv hkp hc hw (by decide) (dq tk_Life_countInClaim 47 rfl) ?_
      refine lv_iconst (v := 1) hx hb (dq tk_Life_countInClaim 48 rfl) (by decide) ?_
      refine lv_iadd hx hb (dq tk_Life_countInClaim 49 rfl) ?_
      obtain ⟨σ3, hσ3, hf⟩ := nm_some hf
      refine AS_Life_totals hkv hkp hc hw (by decide) hσ3 (dq tk_Life_countInClaim 50 rfl) (fun H locs hw => ?_)
      refine lv_goto (tgt := 87) hx hb (dq tk_Life_countInClaim 51 rfl) (by decide) ?_
      cases hf
      exact x_vret hc hw hr (dq tk_Life_countInClaim 62 rfl)
set_option maxRecDepth 10000 in
theorem w_Life_countInClaim {N : Nat} {kv kp : Nat} (hc : Cxz p s m meth c args prog_8_method_20_code "LabourExchange$Life" 4 Z) (hr : meth.sig.returnType = none) (hR : RO R 2) (hkv : kv < 2) (hkp : kp < 20) {σ' : St} : ∀ {x1 : Int32} {x2 : Int32} {σ : St} {H : Heap} {locs : List Loc} {ls : Array Slot}, Wd Z (cmb σ μ) s H locs → lv_has ls 4 [(0, .ref (Z.1 + (279 + 187 * kv + 5 * kp))), (1, .int x1), (2, .int x2)] → fLife_countInClaim N kv kp x1 x2 σ = some σ' → W p l e R s m args below meth c H locs 0 0 (MQ below (Qr Z none True (cmb σ' μ)) args s 0 0 (fun q => Z.1 ≤ q)) (F0 m 0 ls []) := by
  have hx := hc.hx
  have hb := hc.hb
  intro x1 x2 σ H locs ls hw hl hf
  unfold fLife_countInClaim at hf
  refine lv_aload_n hx hb (dq tk_Life_countInClaim 0 rfl) rfl (lv_at hl 0 rfl) ?_
  obtain ⟨r1, h1, hf⟩ := bn1_someZ hf
  refine K_Life_rowOfLatest hc hw hkv hkp wd_825 h1 (hR.mono (by decide)) ⟨Nat.zero_le _, Nat.zero_le _⟩ hl.1 (Nat.le_of_ble_eq_true rfl) (dq tk_Life_countInClaim 1 rfl) (fun H locs hw _ => ?_)
  refine lv_istore_n (lv' := [(3, .int r1), (0, .ref (Z.1 + (279 + 187 * kv + 5 * kp))), (1, .int x1), (2, .int x2)]) hx hb (dq tk_Life_countInClaim 2 rfl) rfl hl (by decide) rfl (fun ls hl => ?_)
  refine lv_iload_n hx hb (dq tk_Life_countInClaim 3 rfl) rfl (lv_at hl 2 rfl) ?_
  refine lv_iconst (v := 2) hx hb (dq tk_Life_countInClaim 4 rfl) (by decide) ?_
  refine lv_icmp_lt (tgt := 27) hx hb (dq tk_Life_countInClaim 5 rfl) (by decide) (fun c1 => ?_) (fun c1 => ?_)
  · replace hf := if_t hf c1
    exact w_Life_countInClaim_27 hc hr hR hkv hkp hw (lv_sub hl [1, 2, 3, 0] rfl) hf
  · replace hf := if_f hf c1
    refine lv_iload_n hx hb (dq tk_Life_countInClaim 6 rfl) rfl (lv_at hl 2 rfl) ?_
    refine lv_iconst (v := 5) hx hb (dq tk_Life_countInClaim 7 rfl) (by decide) ?_
    refine lv_icmp_gt (tgt := 27) hx hb (dq tk_Life_countInClaim 8 rfl) (by decide) (fun c2 => ?_) (fun c2 => ?_)
    · replace hf := if_t hf c2
      exact w_Life_countInClaim_27 hc hr hR hkv hkp hw (lv_sub hl [1, 2, 3, 0] rfl) hf
    · replace hf := if_f hf c2
      refine lv_aload_n hx hb (dq tk_Life_countInClaim 9 rfl) rfl (lv_at hl 1 rfl) ?_
      refine G_Life_claims hkv hkp hc hw wd_552 (dq tk_Life_countInClaim 10 rfl) ?_
      refine lv_iload_n hx hb (dq tk_Life_countInClaim 11 rfl) rfl (lv_at hl 0 rfl) ?_
      refine lv_iload_n hx hb (dq tk_Life_countInClaim 12 rfl) rfl (lv_at hl 2 rfl) ?_
      refine lv_iadd hx hb (dq tk_Life_countInClaim 13 rfl) ?_
      refine lv_dup2_11 hx hb (dq tk_Life_countInClaim 14 rfl) rfl rfl ?_
      obtain ⟨c3, hf⟩ := chk_some hf
      refine AL_Life_claims hkv hkp hc hw c3 (dq tk_Life_countInClaim 15 rfl) ?_
      refine lv_iconst (v := 1) hx hb (dq tk_Life_countInClaim 16 rfl) (by decide) ?_
      refine lv_iadd hx hb (dq tk_Life_countInClaim 17 rfl) ?_
      obtain ⟨σ2, hσ2, hf⟩ := nm_some hf
      refine AS_Life_claims hkv hkp hc hw c3 hσ2 (dq tk_Life_countInClaim 18 rfl) (fun H locs hw => ?_)
      exact w_Life_countInClaim_27 hc hr hR hkv hkp hw (lv_sub hl [1, 2, 3, 0] rfl) hf
theorem c_Life_countInClaim {N : Nat} {kv kp : Nat}  {x1 : Int32} {x2 : Int32} {σ' : St} {σ : St} (hkv : kv < 2) (hkp : kp < 20) (hf : fLife_countInClaim N kv kp x1 x2 σ = some σ') : Ct l Z y_Life_countInClaim prog_8_method_20_code 4 none (rmo (2)) [.ref (Z.1 + (279 + 187 * kv + 5 * kp)), .int x1, .int x2] (cmb σ μ) none True (cmb σ' μ) := by
  refine x_met (by decide) (Nat.le_of_ble_eq_true rfl) (fun p e s m args below meth c ls hc hr hw hl => ?_)
  exact w_Life_countInClaim hc hr RO.self hkv hkp hw hl hf
theorem K_Life_countInClaim {idx : Nat} {N : Nat} {kv kp : Nat}  {x1 : Int32} {x2 : Int32} {σ' : St} {σ : St} (hc : Cxz p s m meth c args cc own nL Z) (hw : Wd Z (cmb σ μ) s H locs) (hkv : kv < 2) (hkp : kp < 20) (hl : Cond.methodLink own idx y_Life_countInClaim ∈ TB) (hf : fLife_countInClaim N kv kp x1 x2 σ = some σ') (hR : RO R ((2) + 1)) (hcs : cells ≤ R.cells ∧ slots ≤ R.slots) (hls : ls.size = nL) (hst : (rest.map fun v => v.category).sum ≤ 8) (hdg : decode cc pc = .ok (.invokevirtual idx, 3)) (kk : ∀ (H1 : Heap) (locs1 : List Loc), Wd Z (cmb σ' μ) s H1 locs1 → True → W p l e R s m args below meth c H1 locs1 cells slots Q (F0 m (pc + 3) ls rest)) : W p l e R s m args below meth c H locs cells slots Q (F0 m pc ls (.int x2 :: .int x1 :: .ref (Z.1 + (279 + 187 * kv + 5 * kp)) :: rest)) :=
  x_iv hc hw (c_Life_countInClaim hkv hkp hf) yv_Life_countInClaim (wd_life (r := 0) hkv hkp (by decide) (by omega)).1 (wd_life (r := 0) hkv hkp (by decide) (by omega)).2 rfl hl (RO.call hR (by decide)) hcs rfl hls hst hdg rfl kk
set_option maxRecDepth 10000 in
theorem w_Life_pass_132 {N : Nat} {kv kp : Nat} (hc : Cxz p s m meth c args prog_8_method_18_code "LabourExchange$Life" 6 Z) (hr : meth.sig.returnType = none) (hR : RO R 3) (hkv : kv < 2) (hkp : kp < 20) {σ' : St} : ∀ {x1 : Int32} {x2 : Int32} {x3 : Int32} {x4 : Int32} {s0 : Int32} {σ : St} {H : Heap} {locs : List Loc} {ls : Array Slot}, Wd Z (cmb σ μ) s H locs → lv_has ls 6 [(0, .ref (Z.1 + (279 + 187 * kv + 5 * kp))), (1, .int x1), (2, .int x2), (3, .int x3), (4, .int x4)] → fLife_pass_132 N kv kp x1 x2 x3 x4 s0 σ = some σ' → W p l e R s m args below meth c H locs 0 0 (MQ below (Qr Z none True (cmb σ' μ)) args s 0 0 (fun q => Z.1 ≤ q)) (F0 m 132 ls [.int s0]) := by
  have hx := hc.hx
  have hb := hc.hb
  intro x1 x2 x3 x4 s0 σ H locs ls hw hl hf
  unfold fLife_pass_132 at hf
  refine lv_istore (lv' := [(5, .int s0), (0, .ref (Z.1 + (279 + 187 * kv + 5 * kp))), (1, .int x1), (2, .int x2), (3, .int x3), (4, .int x4)]) hx hb (dq tk_Life_pass 72 rfl) hl (by decide) rfl (fun ls hl => ?_)
  refine lv_aload_n hx hb (dq tk_Life_pass 73 rfl) rfl (lv_at hl 1 rfl) ?_
  refine G_Life_past hkv hkp hc hw wd_551 (dq tk_Life_pass 74 rfl) ?_
  refine lv_iload_n hx hb (dq tk_Life_pass 75 rfl) rfl (lv_at hl 2 rfl) ?_
  refine lv_sipush (v := 312) hx hb (dq tk_Life_pass 76 rfl) (by decide) ?_
  refine lv_isub hx hb (dq tk_Life_pass 77 rfl) ?_
  refine lv_iload_n hx hb (dq tk_Life_pass 78 rfl) rfl (lv_at hl 3 rfl) ?_
  refine lv_iload_n hx hb (dq tk_Life_pass 79 rfl) rfl (lv_at hl 4 rfl) ?_
  refine lv_iconst (v := 4) hx hb (dq tk_Life_pass 80 rfl) (by decide) ?_
  refine lv_ishl hx hb (dq tk_Life_pass 81 rfl) ?_
  refine lv_ior hx hb (dq tk_Life_pass 82 rfl) ?_
  refine lv_iload hx hb (dq tk_Life_pass 83 rfl) (lv_at hl 5 rfl) ?_
  refine lv_iconst (v := 1) hx hb (dq tk_Life_pass 84 rfl) (by decide) ?_
  refine lv_iadd hx hb (dq tk_Life_pass 85 rfl) ?_
  refine lv_bipush (v := 18) hx hb (dq tk_Life_pass 86 rfl) (by decide) ?_
  refine lv_ishl hx hb (dq tk_Life_pass 87 rfl) ?_
  refine lv_ior hx hb (dq tk_Life_pass 88 rfl) ?_
  refine lv_iload hx hb (dq tk_Life_pass 89 rfl) (lv_at hl 0 rfl) ?_
  refine lv_iconst (v := 1) hx hb (dq tk_Life_pass 90 rfl) (by decide) ?_
  refine lv_iadd hx hb (dq tk_Life_pass 91 rfl) ?_
  refine lv_bipush (v := 23) hx hb (dq tk_Life_pass 92 rfl) (by decide) ?_
  refine lv_ishl hx hb (dq tk_Life_pass 93 rfl) ?_
  refine lv_ior hx hb (dq tk_Life_pass 94 rfl) ?_
  obtain ⟨c1, hf⟩ := chk_some hf
  obtain ⟨σ1, hσ1, hf⟩ := nm_some hf
  refine AS_Life_past hkv hkp hc hw c1 hσ1 (dq tk_Life_pass 95 rfl) (fun H locs hw => ?_)
  refine lv_aload_n hx hb (dq tk_Life_pass 96 rfl) rfl (lv_at hl 1 rfl) ?_
  refine lv_iload_n hx hb (dq tk_Life_pass 97 rfl) rfl (lv_at hl 2 rfl) ?_
  obtain ⟨σ2, hσ2, hf⟩ := nm_some hf
  refine P_Life_upTo hkv hkp hc hw wd_560 hσ2 (dq tk_Life_pass 98 rfl) (fun H locs hw => ?_)
  cases hf
  exact x_vret hc hw hr (dq tk_Life_pass 99 rfl)
set_option maxRecDepth 10000 in
theorem w_Life_pass_115 {N : Nat} {kv kp : Nat} (hc : Cxz p s m meth c args prog_8_method_18_code "LabourExchange$Life" 6 Z) (hr : meth.sig.returnType = none) (hR : RO R 3) (hkv : kv < 2) (hkp : kp < 20) {σ' : St} : ∀ {x1 : Int32} {x2 : Int32} {x3 : Int32} {x4 : Int32} {σ : St} {H : Heap} {locs : List Loc} {ls : Array Slot}, Wd Z (cmb σ μ) s H locs → lv_has ls 6 [(0, .ref (Z.1 + (279 + 187 * kv + 5 * kp))), (1, .int x1), (2, .int x2), (3, .int x3), (4, .int x4)] → fLife_pass_115 N kv kp x1 x2 x3 x4 σ = some σ' → W p l e R s m args below meth c H locs 0 0 (MQ below (Qr Z none True (cmb σ' μ)) args s 0 0 (fun q => Z.1 ≤ q)) (F0 m 115 ls []) := by
  have hx := hc.hx
  have hb := hc.hb
  intro x1 x2 x3 x4 σ H locs ls hw hl hf
  unfold fLife_pass_115 at hf
  refine lv_aload_n hx hb (dq tk_Life_pass 63 rfl) rfl (lv_at hl 0 rfl) ?_
  refine G_Life_open hkv hkp hc hw wd_564 (dq tk_Life_pass 64 rfl) ?_
  refine lv_if_eq (tgt := 131) hx hb (dq tk_Life_pass 65 rfl) (by decide) (fun c1 => ?_) (fun c1 => ?_)
  · replace hf := if_t hf c1
    refine lv_iconst (v := (-1)) hx hb (dq tk_Life_pass 71 rfl) (by decide) ?_
    exact w_Life_pass_132 hc hr hR hkv hkp hw (lv_sub hl [0, 1, 2, 3, 4] rfl) hf
  · replace hf := if_f hf c1
    refine lv_aload_n hx hb (dq tk_Life_pass 66 rfl) rfl (lv_at hl 0 rfl) ?_
    refine G_Life_claimCount hkv hkp hc hw wd_562 (dq tk_Life_pass 67 rfl) ?_
    refine lv_iconst (v := 1) hx hb (dq tk_Life_pass 68 rfl) (by decide) ?_
    refine lv_isub hx hb (dq tk_Life_pass 69 rfl) ?_
    refine lv_goto (tgt := 132) hx hb (dq tk_Life_pass 70 rfl) (by decide) ?_
    exact w_Life_pass_132 hc hr hR hkv hkp hw (lv_sub hl [0, 1, 2, 3, 4] rfl) hf
set_option maxRecDepth 10000 in
theorem w_Life_pass_102 {N : Nat} {kv kp : Nat} (hc : Cxz p s m meth c args prog_8_method_18_code "LabourExchange$Life" 6 Z) (hr : meth.sig.returnType = none) (hR : RO R 3) (hkv : kv < 2) (hkp : kp < 20) {σ' : St} : ∀ {x1 : Int32} {x2 : Int32} {x3 : Int32} {x4 : Int32} {σ : St} {H : Heap} {locs : List Loc} {ls : Array Slot}, Wd Z (cmb σ μ) s H locs → lv_has ls 6 [(0, .ref (Z.1 + (279 + 187 * kv + 5 * kp))), (1, .int x1), (2, .int x2), (3, .int x3), (4, .int x4)] → fLife_pass_102 N kv kp x1 x2 x3 x4 σ = some σ' → W p l e R s m args below meth c H locs 0 0 (MQ below (Qr Z none True (cmb σ' μ)) args s 0 0 (fun q => Z.1 ≤ q)) (F0 m 102 ls []) := by
  have hx := hc.hx
  have hb := hc.hb
  intro x1 x2 x3 x4 σ H locs ls hw hl hf
  unfold fLife_pass_102 at hf
  refine lv_aload_n hx hb (dq tk_Life_pass 56 rfl) rfl (lv_at hl 0 rfl) ?_
  refine G_Life_open hkv hkp hc hw wd_564 (dq tk_Life_pass 57 rfl) ?_
  refine lv_if_eq (tgt := 115) hx hb (dq tk_Life_pass 58 rfl) (by decide) (fun c1 => ?_) (fun c1 => ?_)
  · replace hf := if_t hf c1
    exact w_Life_pass_115 hc hr hR hkv hkp hw (lv_sub hl [0, 1, 2, 3, 4] rfl) hf
  · replace hf := if_f hf c1
    refine lv_aload_n hx hb (dq tk_Life_pass 59 rfl) rfl (lv_at hl 0 rfl) ?_
    refine lv_iload_n hx hb (dq tk_Life_pass 60 rfl) rfl (lv_at hl 2 rfl) ?_
    refine lv_iload_n hx hb (dq tk_Life_pass 61 rfl) rfl (lv_at hl 3 rfl) ?_
    obtain ⟨σ1, h62, hf⟩ := bn1_someZ hf
    refine K_Life_countInClaim hc hw hkv hkp wd_934 h62 (hR.mono (by decide)) ⟨Nat.zero_le _, Nat.zero_le _⟩ hl.1 (Nat.le_of_ble_eq_true rfl) (dq tk_Life_pass 62 rfl) (fun H locs hw _ => ?_)
    exact w_Life_pass_115 hc hr hR hkv hkp hw (lv_sub hl [0, 1, 2, 3, 4] rfl) hf
set_option maxRecDepth 10000 in
theorem w_Life_pass_88 {N : Nat} {kv kp : Nat} (hc : Cxz p s m meth c args prog_8_method_18_code "LabourExchange$Life" 6 Z) (hr : meth.sig.returnType = none) (hR : RO R 3) (hkv : kv < 2) (hkp : kp < 20) {σ' : St} : ∀ {x1 : Int32} {x2 : Int32} {x3 : Int32} {x4 : Int32} {σ : St} {H : Heap} {locs : List Loc} {ls : Array Slot}, Wd Z (cmb σ μ) s H locs → lv_has ls 6 [(0, .ref (Z.1 + (279 + 187 * kv + 5 * kp))), (1, .int x1), (2, .int x2), (3, .int x3), (4, .int x4)] → fLife_pass_88 N kv kp x1 x2 x3 x4 σ = some σ' → W p l e R s m args below meth c H locs 0 0 (MQ below (Qr Z none True (cmb σ' μ)) args s 0 0 (fun q => Z.1 ≤ q)) (F0 m 88 ls []) := by
  have hx := hc.hx
  have hb := hc.hb
  intro x1 x2 x3 x4 σ H locs ls hw hl hf
  unfold fLife_pass_88 at hf
  refine lv_iload_n hx hb (dq tk_Life_pass 47 rfl) rfl (lv_at hl 2 rfl) ?_
  refine lv_iconst (v := 5) hx hb (dq tk_Life_pass 48 rfl) (by decide) ?_
  refine lv_icmp_ne (tgt := 102) hx hb (dq tk_Life_pass 49 rfl) (by decide) (fun c1 => ?_) (fun c1 => ?_)
  · replace hf := if_f hf c1
    exact w_Life_pass_102 hc hr hR hkv hkp hw (lv_sub hl [0, 1, 2, 3, 4] rfl) hf
  · replace hf := if_t hf c1
    refine lv_iload_n hx hb (dq tk_Life_pass 50 rfl) rfl (lv_at hl 3 rfl) ?_
    refine lv_if_ne (tgt := 102) hx hb (dq tk_Life_pass 51 rfl) (by decide) (fun c2 => ?_) (fun c2 => ?_)
    · replace hf := if_f hf c2
      exact w_Life_pass_102 hc hr hR hkv hkp hw (lv_sub hl [0, 1, 2, 3, 4] rfl) hf
    · replace hf := if_t hf c2
      refine lv_iconst (v := 0) hx hb (dq tk_Life_pass 52 rfl) (by decide) ?_
      refine lv_istore_n (lv' := [(2, .int 0), (0, .ref (Z.1 + (279 + 187 * kv + 5 * kp))), (1, .int x1), (3, .int x3), (4, .int x4)]) hx hb (dq tk_Life_pass 53 rfl) rfl hl (by decide) rfl (fun ls hl => ?_)
      refine lv_iconst (v := (-1)) hx hb (dq tk_Life_pass 54 rfl) (by decide) ?_
      refine lv_istore (lv' := [(4, .int (-1)), (2, .int 0), (0, .ref (Z.1 + (279 + 187 * kv + 5 * kp))), (1, .int x1), (3, .int x3)]) hx hb (dq tk_Life_pass 55 rfl) hl (by decide) rfl (fun ls hl => ?_)
      exact w_Life_pass_102 hc hr hR hkv hkp hw (lv_sub hl [2, 3, 1, 4, 0] rfl) hf
set_option maxRecDepth 10000 in
theorem w_Life_pass_62 {N : Nat} {kv kp : Nat} (hc : Cxz p s m meth c args prog_8_method_18_code "LabourExchange$Life" 6 Z) (hr : meth.sig.returnType = none) (hR : RO R 3) (hkv : kv < 2) (hkp : kp < 20) {σ' : St} : ∀ {x1 : Int32} {x2 : Int32} {σ : St} {H : Heap} {locs : List Loc} {ls : Array Slot}, Wd Z (cmb σ μ) s H locs → lv_has ls 6 [(0, .ref (Z.1 + (279 + 187 * kv + 5 * kp))), (1, .int x1), (2, .int x2)] → fLife_pass_62 N kv kp x1 x2 σ = some σ' → W p l e R s m args below meth c H locs 0 0 (MQ below (Qr Z none True (cmb σ' μ)) args s 0 0 (fun q => Z.1 ≤ q)) (F0 m 62 ls []) := by
  have hx := hc.hx
  have hb := hc.hb
  intro x1 x2 σ H locs ls hw hl hf
  unfold fLife_pass_62 at hf
  refine lv_aload_n hx hb (dq tk_Life_pass 32 rfl) rfl (lv_at hl 0 rfl) ?_
  refine lv_iload_n hx hb (dq tk_Life_pass 33 rfl) rfl (lv_at hl 1 rfl) ?_
  obtain ⟨σ1, h34, hf⟩ := bn1_someZ hf
  refine K_Life_setOut hc hw hkv hkp wd_817 h34 (hR.mono (by decide)) ⟨Nat.zero_le _, Nat.zero_le _⟩ hl.1 (Nat.le_of_ble_eq_true rfl) (dq tk_Life_pass 34 rfl) (fun H locs hw _ => ?_)
  refine lv_aload_n hx hb (dq tk_Life_pass 35 rfl) rfl (lv_at hl 0 rfl) ?_
  refine G_Life_law hkv hkp hc hw wd_549 (dq tk_Life_pass 36 rfl) ?_
  refine lv_iload_n hx hb (dq tk_Life_pass 37 rfl) rfl (lv_at hl 2 rfl) ?_
  refine lv_iload_n hx hb (dq tk_Life_pass 38 rfl) rfl (lv_at hl 1 rfl) ?_
  obtain ⟨r2, σ3, h39, hf⟩ := bnd_some hf
  refine K_Law_payFor hc hw hkv wd_924 h39 (hR.mono (by decide)) ⟨Nat.zero_le _, Nat.zero_le _⟩ hl.1 (Nat.le_of_ble_eq_true rfl) (dq tk_Life_pass 39 rfl) (fun H locs hw _ => ?_)
  refine lv_istore_n (lv' := [(3, .int r2), (0, .ref (Z.1 + (279 + 187 * kv + 5 * kp))), (1, .int x1), (2, .int x2)]) hx hb (dq tk_Life_pass 40 rfl) rfl hl (by decide) rfl (fun ls hl => ?_)
  refine lv_aload_n hx hb (dq tk_Life_pass 41 rfl) rfl (lv_at hl 1 rfl) ?_
  refine G_Life_law hkv hkp hc hw wd_549 (dq tk_Life_pass 42 rfl) ?_
  refine lv_iload_n hx hb (dq tk_Life_pass 43 rfl) rfl (lv_at hl 3 rfl) ?_
  refine lv_iload_n hx hb (dq tk_Life_pass 44 rfl) rfl (lv_at hl 2 rfl) ?_
  obtain ⟨r4, h45, hf⟩ := bn1_someZ hf
  refine K_Law_payingAct hc hw hkv wd_933 h45 (hR.mono (by decide)) ⟨Nat.zero_le _, Nat.zero_le _⟩ hl.1 (Nat.le_of_ble_eq_true rfl) (dq tk_Life_pass 45 rfl) (fun H locs hw _ => ?_)
  refine lv_istore (lv' := [(4, .int r4), (3, .int r2), (0, .ref (Z.1 + (279 + 187 * kv + 5 * kp))), (1, .int x1), (2, .int x2)]) hx hb (dq tk_Life_pass 46 rfl) hl (by decide) rfl (fun ls hl => ?_)
  exact w_Life_pass_88 hc hr hR hkv hkp hw (lv_sub hl [2, 3, 4, 1, 0] rfl) hf
set_option maxRecDepth 10000 in
theorem w_Life_pass_41 {N : Nat} {kv kp : Nat} (hc : Cxz p s m meth c args prog_8_method_18_code "LabourExchange$Life" 6 Z) (hr : meth.sig.returnType = none) (hR : RO R 3) (hkv : kv < 2) (hkp : kp < 20) {σ' : St} : ∀ {x1 : Int32} {s0 : Int32} {σ : St} {H : Heap} {locs : List Loc} {ls : Array Slot}, Wd Z (cmb σ μ) s H locs → lv_has ls 6 [(0, .ref (Z.1 + (279 + 187 * kv + 5 * kp))), (1, .int x1)] → fLife_pass_41 N kv kp x1 s0 σ = some σ' → W p l e R s m args below meth c H locs 0 0 (MQ below (Qr Z none True (cmb σ' μ)) args s 0 0 (fun q => Z.1 ≤ q)) (F0 m 41 ls [.int s0]) := by
  have hx := hc.hx
  have hb := hc.hb
  intro x1 s0 σ H locs ls hw hl hf
  unfold fLife_pass_41 at hf
  refine lv_istore_n (lv' := [(2, .int s0), (0, .ref (Z.1 + (279 + 187 * kv + 5 * kp))), (1, .int x1)]) hx hb (dq tk_Life_pass 18 rfl) rfl hl (by decide) rfl (fun ls hl => ?_)
  refine lv_iconst (v := 0) hx hb (dq tk_Life_pass 19 rfl) (by decide) ?_
  refine lv_istore_n (lv' := [(3, .int 0), (2, .int s0), (0, .ref (Z.1 + (279 + 187 * kv + 5 * kp))), (1, .int x1)]) hx hb (dq tk_Life_pass 20 rfl) rfl hl (by decide) rfl (fun ls hl => ?_)
  refine lv_iconst (v := (-1)) hx hb (dq tk_Life_pass 21 rfl) (by decide) ?_
  refine lv_istore (lv' := [(4, .int (-1)), (3, .int 0), (2, .int s0), (0, .ref (Z.1 + (279 + 187 * kv + 5 * kp))), (1, .int x1)]) hx hb (dq tk_Life_pass 22 rfl) hl (by decide) rfl (fun ls hl => ?_)
  refine lv_iload_n hx hb (dq tk_Life_pass 23 rfl) rfl (lv_at hl 2 rfl) ?_
  refine lv_iconst (v := 3) hx hb (dq tk_Life_pass 24 rfl) (by decide) ?_
  refine lv_icmp_eq (tgt := 62) hx hb (dq tk_Life_pass 25 rfl) (by decide) (fun c1 => ?_) (fun c1 => ?_)
  · replace hf := if_t hf c1
    exact w_Life_pass_62 hc hr hR hkv hkp hw (lv_sub hl [3, 4, 2] rfl) hf
  · replace hf := if_f hf c1
    refine lv_iload_n hx hb (dq tk_Life_pass 26 rfl) rfl (lv_at hl 2 rfl) ?_
    refine lv_iconst (v := 4) hx hb (dq tk_Life_pass 27 rfl) (by decide) ?_
    refine lv_icmp_eq (tgt := 62) hx hb (dq tk_Life_pass 28 rfl) (by decide) (fun c2 => ?_) (fun c2 => ?_)
    · replace hf := if_t hf c2
      exact w_Life_pass_62 hc hr hR hkv hkp hw (lv_sub hl [3, 4, 2] rfl) hf
    · replace hf := if_f hf c2
      refine lv_iload_n hx hb (dq tk_Life_pass 29 rfl) rfl (lv_at hl 2 rfl) ?_
      refine lv_iconst (v := 5) hx hb (dq tk_Life_pass 30 rfl) (by decide) ?_
      refine lv_icmp_ne (tgt := 88) hx hb (dq tk_Life_pass 31 rfl) (by decide) (fun c3 => ?_) (fun c3 => ?_)
      · replace hf := if_f hf c3
        exact w_Life_pass_88 hc hr hR hkv hkp hw (lv_sub hl [3, 4, 2, 1, 0] rfl) hf
      · replace hf := if_t hf c3
        exact w_Life_pass_62 hc hr hR hkv hkp hw (lv_sub hl [3, 4, 2] rfl) hf
set_option maxRecDepth 10000 in
theorem w_Life_pass {N : Nat} {kv kp : Nat} (hc : Cxz p s m meth c args prog_8_method_18_code "LabourExchange$Life" 6 Z) (hr : meth.sig.returnType = none) (hR : RO R 3) (hkv : kv < 2) (hkp : kp < 20) {σ' : St} : ∀ {x1 : Int32} {σ : St} {H : Heap} {locs : List Loc} {ls : Array Slot}, Wd Z (cmb σ μ) s H locs → lv_has ls 6 [(0, .ref (Z.1 + (279 + 187 * kv + 5 * kp))), (1, .int x1)] → fLife_pass N kv kp x1 σ = some σ' → W p l e R s m args below meth c H locs 0 0 (MQ below (Qr Z none True (cmb σ' μ)) args s 0 0 (fun q => Z.1 ≤ q)) (F0 m 0 ls []) := by
  have hx := hc.hx
  have hb := hc.hb
  intro x1 σ H locs ls hw hl hf
  unfold fLife_pass at hf
  refine lv_aload_n hx hb (dq tk_Life_pass 0 rfl) rfl (lv_at hl 0 rfl) ?_
  refine G_Life_open hkv hkp hc hw wd_564 (dq tk_Life_pass 1 rfl) ?_
  refine lv_if_eq (tgt := 15) hx hb (dq tk_Life_pass 2 rfl) (by decide) (fun c1 => ?_) (fun c1 => ?_)
  · replace hf := if_t hf c1
    refine lv_aload_n hx hb (dq tk_Life_pass 7 rfl) rfl (lv_at hl 0 rfl) ?_
    refine G_Life_away hkv hkp hc hw wd_568 (dq tk_Life_pass 8 rfl) ?_
    refine lv_if_eq (tgt := 27) hx hb (dq tk_Life_pass 9 rfl) (by decide) (fun c2 => ?_) (fun c2 => ?_)
    · replace hf := if_t hf c2
      refine lv_aload_n hx hb (dq tk_Life_pass 12 rfl) rfl (lv_at hl 0 rfl) ?_
      refine G_Life_inWork hkv hkp hc hw wd_567 (dq tk_Life_pass 13 rfl) ?_
      refine lv_if_eq (tgt := 39) hx hb (dq tk_Life_pass 14 rfl) (by decide) (fun c3 => ?_) (fun c3 => ?_)
      · replace hf := if_t hf c3
        refine lv_bipush (v := 9) hx hb (dq tk_Life_pass 17 rfl) (by decide) ?_
        exact w_Life_pass_41 hc hr hR hkv hkp hw (lv_sub hl [0, 1] rfl) hf
      · replace hf := if_f hf c3
        refine lv_bipush (v := 7) hx hb (dq tk_Life_pass 15 rfl) (by decide) ?_
        refine lv_goto (tgt := 41) hx hb (dq tk_Life_pass 16 rfl) (by decide) ?_
        exact w_Life_pass_41 hc hr hR hkv hkp hw (lv_sub hl [0, 1] rfl) hf
    · replace hf := if_f hf c2
      refine lv_bipush (v := 8) hx hb (dq tk_Life_pass 10 rfl) (by decide) ?_
      refine lv_goto (tgt := 41) hx hb (dq tk_Life_pass 11 rfl) (by decide) ?_
      exact w_Life_pass_41 hc hr hR hkv hkp hw (lv_sub hl [0, 1] rfl) hf
  · replace hf := if_f hf c1
    refine lv_aload_n hx hb (dq tk_Life_pass 3 rfl) rfl (lv_at hl 0 rfl) ?_
    refine lv_iload_n hx hb (dq tk_Life_pass 4 rfl) rfl (lv_at hl 1 rfl) ?_
    obtain ⟨r1, h5, hf⟩ := bn1_someZ hf
    refine K_Life_kindOfClaim hc hw hkv hkp wd_920 h5 (hR.mono (by decide)) ⟨Nat.zero_le _, Nat.zero_le _⟩ hl.1 (Nat.le_of_ble_eq_true rfl) (dq tk_Life_pass 5 rfl) (fun H locs hw _ => ?_)
    refine lv_goto (tgt := 41) hx hb (dq tk_Life_pass 6 rfl) (by decide) ?_
    exact w_Life_pass_41 hc hr hR hkv hkp hw (lv_sub hl [0, 1] rfl) hf
theorem c_Life_pass {N : Nat} {kv kp : Nat}  {x1 : Int32} {σ' : St} {σ : St} (hkv : kv < 2) (hkp : kp < 20) (hf : fLife_pass N kv kp x1 σ = some σ') : Ct l Z y_Life_pass prog_8_method_18_code 6 none (rmo (3)) [.ref (Z.1 + (279 + 187 * kv + 5 * kp)), .int x1] (cmb σ μ) none True (cmb σ' μ) := by
  refine x_met (by decide) (Nat.le_of_ble_eq_true rfl) (fun p e s m args below meth c ls hc hr hw hl => ?_)
  exact w_Life_pass hc hr RO.self hkv hkp hw hl hf
theorem K_Life_pass {idx : Nat} {N : Nat} {kv kp : Nat}  {x1 : Int32} {σ' : St} {σ : St} (hc : Cxz p s m meth c args cc own nL Z) (hw : Wd Z (cmb σ μ) s H locs) (hkv : kv < 2) (hkp : kp < 20) (hl : Cond.methodLink own idx y_Life_pass ∈ TB) (hf : fLife_pass N kv kp x1 σ = some σ') (hR : RO R ((3) + 1)) (hcs : cells ≤ R.cells ∧ slots ≤ R.slots) (hls : ls.size = nL) (hst : (rest.map fun v => v.category).sum ≤ 8) (hdg : decode cc pc = .ok (.invokevirtual idx, 3)) (kk : ∀ (H1 : Heap) (locs1 : List Loc), Wd Z (cmb σ' μ) s H1 locs1 → True → W p l e R s m args below meth c H1 locs1 cells slots Q (F0 m (pc + 3) ls rest)) : W p l e R s m args below meth c H locs cells slots Q (F0 m pc ls (.int x1 :: .ref (Z.1 + (279 + 187 * kv + 5 * kp)) :: rest)) :=
  x_iv hc hw (c_Life_pass hkv hkp hf) yv_Life_pass (wd_life (r := 0) hkv hkp (by decide) (by omega)).1 (wd_life (r := 0) hkv hkp (by decide) (by omega)).2 rfl hl (RO.call hR (by decide)) hcs rfl hls hst hdg rfl kk
set_option maxRecDepth 10000 in
theorem w_Life_kindOn {N : Nat} {kv kp : Nat} (hc : Cxz p s m meth c args prog_8_method_3_code "LabourExchange$Life" 2 Z) (hr : meth.sig.returnType = (some .int)) (hR : RO R 0) (hkv : kv < 2) (hkp : kp < 20) {rv : Int32} {σ : St} : ∀ {x1 : Int32} {H : Heap} {locs : List Loc} {ls : Array Slot}, Wd Z (cmb σ μ) s H locs → lv_has ls 2 [(0, .ref (Z.1 + (279 + 187 * kv + 5 * kp))), (1, .int x1)] → fLife_kindOn N kv kp x1 σ = some rv → W p l e R s m args below meth c H locs 0 0 (MQ below (Qr Z (some (.int rv)) True (cmb σ μ)) args s 0 0 (fun q => Z.1 ≤ q)) (F0 m 0 ls []) := by
  have hx := hc.hx
  have hb := hc.hb
  intro x1 H locs ls hw hl hf
  unfold fLife_kindOn at hf
  refine lv_aload_n hx hb (dq tk_Life_kindOn 0 rfl) rfl (lv_at hl 0 rfl) ?_
  refine G_Life_past hkv hkp hc hw wd_551 (dq tk_Life_kindOn 1 rfl) ?_
  refine lv_iload_n hx hb (dq tk_Life_kindOn 2 rfl) rfl (lv_at hl 1 rfl) ?_
  refine lv_sipush (v := 312) hx hb (dq tk_Life_kindOn 3 rfl) (by decide) ?_
  refine lv_isub hx hb (dq tk_Life_kindOn 4 rfl) ?_
  obtain ⟨c1, hf⟩ := chk_some hf
  refine AL_Life_past hkv hkp hc hw c1 (dq tk_Life_kindOn 5 rfl) ?_
  refine lv_bipush (v := 15) hx hb (dq tk_Life_kindOn 6 rfl) (by decide) ?_
  refine lv_iand hx hb (dq tk_Life_kindOn 7 rfl) ?_
  cases hf
  exact x_iret hc hw hr (dq tk_Life_kindOn 8 rfl)
theorem c_Life_kindOn {N : Nat} {kv kp : Nat}  {x1 : Int32} {rv : Int32} {σ : St} (hkv : kv < 2) (hkp : kp < 20) (hf : fLife_kindOn N kv kp x1 σ = some rv) : Ct l Z y_Life_kindOn prog_8_method_3_code 2 (some .int) (rmo (0)) [.ref (Z.1 + (279 + 187 * kv + 5 * kp)), .int x1] (cmb σ μ) (some (.int rv)) True (cmb σ μ) := by
  refine x_met (by decide) (Nat.le_of_ble_eq_true rfl) (fun p e s m args below meth c ls hc hr hw hl => ?_)
  exact w_Life_kindOn hc hr RO.self hkv hkp hw hl hf
theorem K_Life_kindOn {idx : Nat} {N : Nat} {kv kp : Nat}  {x1 : Int32} {rv : Int32} {σ : St} (hc : Cxz p s m meth c args cc own nL Z) (hw : Wd Z (cmb σ μ) s H locs) (hkv : kv < 2) (hkp : kp < 20) (hl : Cond.methodLink own idx y_Life_kindOn ∈ TB) (hf : fLife_kindOn N kv kp x1 σ = some rv) (hR : RO R ((0) + 1)) (hcs : cells ≤ R.cells ∧ slots ≤ R.slots) (hls : ls.size = nL) (hst : (rest.map fun v => v.category).sum ≤ 8) (hdg : decode cc pc = .ok (.invokevirtual idx, 3)) (kk : ∀ (H1 : Heap) (locs1 : List Loc), Wd Z (cmb σ μ) s H1 locs1 → True → W p l e R s m args below meth c H1 locs1 cells slots Q (F0 m (pc + 3) ls (.int rv :: rest))) : W p l e R s m args below meth c H locs cells slots Q (F0 m pc ls (.int x1 :: .ref (Z.1 + (279 + 187 * kv + 5 * kp)) :: rest)) :=
  x_iv hc hw (c_Life_kindOn hkv hkp hf) yv_Life_kindOn (wd_life (r := 0) hkv hkp (by decide) (by omega)).1 (wd_life (r := 0) hkv hkp (by decide) (by omega)).2 rfl hl (RO.call hR (by decide)) hcs rfl hls hst hdg rfl kk
set_option maxRecDepth 10000 in
theorem w_Life_stampedDays_81 {N : Nat} {kv kp : Nat} (hc : Cxz p s m meth c args prog_8_method_24_code "LabourExchange$Life" 5 Z) (hr : meth.sig.returnType = (some .int)) (hR : RO R 1) (hkv : kv < 2) (hkp : kp < 20) {rv : Int32} {σ : St} {go15 : Int32 → Int32 → Int32 → St → Option Int32} (hgo15 : ∀ {x1 : Int32} {x2 : Int32} {x3 : Int32} {H : Heap} {locs : List Loc} {ls : Array Slot}, Wd Z (cmb σ μ) s H locs → lv_has ls 5 [(0, .ref (Z.1 + (279 + 187 * kv + 5 * kp))), (1, .int x1), (2, .int x2), (3, .int x3)] → go15 x1 x2 x3 σ = some rv → W p l e R s m args below meth c H locs 0 0 (MQ below (Qr Z (some (.int rv)) True (cmb σ μ)) args s 0 0 (fun q => Z.1 ≤ q)) (F0 m 15 ls [])) : ∀ {x1 : Int32} {x3 : Int32} {s0 : Int32} {s1 : Int32} {H : Heap} {locs : List Loc} {ls : Array Slot}, Wd Z (cmb σ μ) s H locs → lv_has ls 5 [(0, .ref (Z.1 + (279 + 187 * kv + 5 * kp))), (1, .int x1), (3, .int x3)] → fLife_stampedDays_81 N kv kp go15 x1 x3 s0 s1 σ = some rv → W p l e R s m args below meth c H locs 0 0 (MQ below (Qr Z (some (.int rv)) True (cmb σ μ)) args s 0 0 (fun q => Z.1 ≤ q)) (F0 m 81 ls [.int s1, .int s0]) := by
  have hx := hc.hx
  have hb := hc.hb
  intro x1 x3 s0 s1 H locs ls hw hl hf
  unfold fLife_stampedDays_81 at hf
  refine lv_iadd hx hb (dq tk_Life_stampedDays 44 rfl) ?_
  obtain ⟨y1, hy1, hf⟩ := nm_some hf
  refine tst (congrArg Value.int hy1) ?_
  refine lv_istore_n (lv' := [(2, .int y1), (0, .ref (Z.1 + (279 + 187 * kv + 5 * kp))), (1, .int x1), (3, .int x3)]) hx hb (dq tk_Life_stampedDays 45 rfl) rfl hl (by decide) rfl (fun ls hl => ?_)
  refine lv_iinc (v := (x3 + 1)) (lv' := [(3, .int (x3 + 1)), (2, .int y1), (0, .ref (Z.1 + (279 + 187 * kv + 5 * kp))), (1, .int x1)]) hx hb (dq tk_Life_stampedDays 46 rfl) hl (k := 3) rfl rfl (by decide) rfl (fun ls hl => ?_)
  refine lv_goto (tgt := 15) hx hb (dq tk_Life_stampedDays 47 rfl) (by decide) ?_
  exact hgo15 hw (lv_sub hl [2, 3, 1, 0] rfl) hf
set_option maxRecDepth 10000 in
theorem w_Life_stampedDays_80 {N : Nat} {kv kp : Nat} (hc : Cxz p s m meth c args prog_8_method_24_code "LabourExchange$Life" 5 Z) (hr : meth.sig.returnType = (some .int)) (hR : RO R 1) (hkv : kv < 2) (hkp : kp < 20) {rv : Int32} {σ : St} {go15 : Int32 → Int32 → Int32 → St → Option Int32} (hgo15 : ∀ {x1 : Int32} {x2 : Int32} {x3 : Int32} {H : Heap} {locs : List Loc} {ls : Array Slot}, Wd Z (cmb σ μ) s H locs → lv_has ls 5 [(0, .ref (Z.1 + (279 + 187 * kv + 5 * kp))), (1, .int x1), (2, .int x2), (3, .int x3)] → go15 x1 x2 x3 σ = some rv → W p l e R s m args below meth c H locs 0 0 (MQ below (Qr Z (some (.int rv)) True (cmb σ μ)) args s 0 0 (fun q => Z.1 ≤ q)) (F0 m 15 ls [])) : ∀ {x1 : Int32} {x3 : Int32} {s0 : Int32} {H : Heap} {locs : List Loc} {ls : Array Slot}, Wd Z (cmb σ μ) s H locs → lv_has ls 5 [(0, .ref (Z.1 + (279 + 187 * kv + 5 * kp))), (1, .int x1), (3, .int x3)] → fLife_stampedDays_80 N kv kp go15 x1 x3 s0 σ = some rv → W p l e R s m args below meth c H locs 0 0 (MQ below (Qr Z (some (.int rv)) True (cmb σ μ)) args s 0 0 (fun q => Z.1 ≤ q)) (F0 m 80 ls [.int s0]) := by
  have hx := hc.hx
  have hb := hc.hb
  intro x1 x3 s0 H locs ls hw hl hf
  unfold fLife_stampedDays_80 at hf
  refine lv_iconst (v := 0) hx hb (dq tk_Life_stampedDays 43 rfl) (by decide) ?_
  exact w_Life_stampedDays_81 hc hr hR hkv hkp hgo15 hw (lv_sub hl [0, 1, 2] rfl) hf
set_option maxRecDepth 10000 in
theorem w_Life_stampedDays_45 {N : Nat} {kv kp : Nat} (hc : Cxz p s m meth c args prog_8_method_24_code "LabourExchange$Life" 5 Z) (hr : meth.sig.returnType = (some .int)) (hR : RO R 1) (hkv : kv < 2) (hkp : kp < 20) {rv : Int32} {σ : St} {go15 : Int32 → Int32 → Int32 → St → Option Int32} (hgo15 : ∀ {x1 : Int32} {x2 : Int32} {x3 : Int32} {H : Heap} {locs : List Loc} {ls : Array Slot}, Wd Z (cmb σ μ) s H locs → lv_has ls 5 [(0, .ref (Z.1 + (279 + 187 * kv + 5 * kp))), (1, .int x1), (2, .int x2), (3, .int x3)] → go15 x1 x2 x3 σ = some rv → W p l e R s m args below meth c H locs 0 0 (MQ below (Qr Z (some (.int rv)) True (cmb σ μ)) args s 0 0 (fun q => Z.1 ≤ q)) (F0 m 15 ls [])) : ∀ {x1 : Int32} {x2 : Int32} {x3 : Int32} {s0 : Int32} {H : Heap} {locs : List Loc} {ls : Array Slot}, Wd Z (cmb σ μ) s H locs → lv_has ls 5 [(0, .ref (Z.1 + (279 + 187 * kv + 5 * kp))), (1, .int x1), (2, .int x2), (3, .int x3)] → fLife_stampedDays_45 N kv kp go15 x1 x2 x3 s0 σ = some rv → W p l e R s m args below meth c H locs 0 0 (MQ below (Qr Z (some (.int rv)) True (cmb σ μ)) args s 0 0 (fun q => Z.1 ≤ q)) (F0 m 45 ls [.int s0]) := by
  have hx := hc.hx
  have hb := hc.hb
  intro x1 x2 x3 s0 H locs ls hw hl hf
  unfold fLife_stampedDays_45 at hf
  refine lv_istore (lv' := [(4, .int s0), (0, .ref (Z.1 + (279 + 187 * kv + 5 * kp))), (1, .int x1), (2, .int x2), (3, .int x3)]) hx hb (dq tk_Life_stampedDays 26 rfl) hl (by decide) rfl (fun ls hl => ?_)
  refine lv_iload_n hx hb (dq tk_Life_stampedDays 27 rfl) rfl (lv_at hl 3 rfl) ?_
  refine lv_iload hx hb (dq tk_Life_stampedDays 28 rfl) (lv_at hl 0 rfl) ?_
  refine lv_if_eq (tgt := 80) hx hb (dq tk_Life_stampedDays 29 rfl) (by decide) (fun c1 => ?_) (fun c1 => ?_)
  · replace hf := if_t hf c1
    exact w_Life_stampedDays_80 hc hr hR hkv hkp hgo15 hw (lv_sub hl [1, 2, 4] rfl) hf
  · replace hf := if_f hf c1
    refine lv_aload_n hx hb (dq tk_Life_stampedDays 30 rfl) rfl (lv_at hl 1 rfl) ?_
    refine G_Life_law hkv hkp hc hw wd_549 (dq tk_Life_stampedDays 31 rfl) ?_
    refine lv_aload_n hx hb (dq tk_Life_stampedDays 32 rfl) rfl (lv_at hl 1 rfl) ?_
    refine G_Life_land hkv hkp hc hw wd_547 (dq tk_Life_stampedDays 33 rfl) ?_
    refine G_Land_trade hc hw wd_93 (dq tk_Life_stampedDays 34 rfl) ?_
    refine lv_aload_n hx hb (dq tk_Life_stampedDays 35 rfl) rfl (lv_at hl 1 rfl) ?_
    refine G_Life_person hkv hkp hc hw wd_545 (dq tk_Life_stampedDays 36 rfl) ?_
    obtain ⟨c2, hf⟩ := chk_some hf
    refine AL_Land_trade hc hw c2 (dq tk_Life_stampedDays 37 rfl) ?_
    refine lv_iload_n hx hb (dq tk_Life_stampedDays 38 rfl) rfl (lv_at hl 4 rfl) ?_
    obtain ⟨r1, h39, hf⟩ := bn1_someZ hf
    refine K_Law_insures hc hw hkv wd_875 h39 (hR.mono (by decide)) ⟨Nat.zero_le _, Nat.zero_le _⟩ hl.1 (Nat.le_of_ble_eq_true rfl) (dq tk_Life_stampedDays 39 rfl) (fun H locs hw _ => ?_)
    refine lv_if_eq (tgt := 80) hx hb (dq tk_Life_stampedDays 40 rfl) (by decide) (fun c3 => ?_) (fun c3 => ?_)
    · replace hf := if_t hf c3
      exact w_Life_stampedDays_80 hc hr hR hkv hkp hgo15 hw (lv_sub hl [1, 2, 4] rfl) hf
    · replace hf := if_f hf c3
      refine lv_iconst (v := 1) hx hb (dq tk_Life_stampedDays 41 rfl) (by decide) ?_
      refine lv_goto (tgt := 81) hx hb (dq tk_Life_stampedDays 42 rfl) (by decide) ?_
      exact w_Life_stampedDays_81 hc hr hR hkv hkp hgo15 hw (lv_sub hl [1, 2, 4] rfl) hf
set_option maxRecDepth 10000 in
theorem w_Life_stampedDays_40 {N : Nat} {kv kp : Nat} (hc : Cxz p s m meth c args prog_8_method_24_code "LabourExchange$Life" 5 Z) (hr : meth.sig.returnType = (some .int)) (hR : RO R 1) (hkv : kv < 2) (hkp : kp < 20) {rv : Int32} {σ : St} {go15 : Int32 → Int32 → Int32 → St → Option Int32} (hgo15 : ∀ {x1 : Int32} {x2 : Int32} {x3 : Int32} {H : Heap} {locs : List Loc} {ls : Array Slot}, Wd Z (cmb σ μ) s H locs → lv_has ls 5 [(0, .ref (Z.1 + (279 + 187 * kv + 5 * kp))), (1, .int x1), (2, .int x2), (3, .int x3)] → go15 x1 x2 x3 σ = some rv → W p l e R s m args below meth c H locs 0 0 (MQ below (Qr Z (some (.int rv)) True (cmb σ μ)) args s 0 0 (fun q => Z.1 ≤ q)) (F0 m 15 ls [])) : ∀ {x1 : Int32} {x2 : Int32} {x3 : Int32} {H : Heap} {locs : List Loc} {ls : Array Slot}, Wd Z (cmb σ μ) s H locs → lv_has ls 5 [(0, .ref (Z.1 + (279 + 187 * kv + 5 * kp))), (1, .int x1), (2, .int x2), (3, .int x3)] → fLife_stampedDays_40 N kv kp go15 x1 x2 x3 σ = some rv → W p l e R s m args below meth c H locs 0 0 (MQ below (Qr Z (some (.int rv)) True (cmb σ μ)) args s 0 0 (fun q => Z.1 ≤ q)) (F0 m 40 ls []) := by
  have hx := hc.hx
  have hb := hc.hb
  intro x1 x2 x3 H locs ls hw hl hf
  unfold fLife_stampedDays_40 at hf
  refine lv_iconst (v := 1) hx hb (dq tk_Life_stampedDays 23 rfl) (by decide) ?_
  refine lv_goto (tgt := 45) hx hb (dq tk_Life_stampedDays 24 rfl) (by decide) ?_
  exact w_Life_stampedDays_45 hc hr hR hkv hkp hgo15 hw (lv_sub hl [0, 1, 2, 3] rfl) hf
set_option maxRecDepth 10000 in
theorem w_Life_stampedDays_15 {N : Nat} {kv kp : Nat} (hc : Cxz p s m meth c args prog_8_method_24_code "LabourExchange$Life" 5 Z) (hr : meth.sig.returnType = (some .int)) (hR : RO R 1) (hkv : kv < 2) (hkp : kp < 20) {rv : Int32} {σ : St} (n : Nat) : ∀ {x1 : Int32} {x2 : Int32} {x3 : Int32} {H : Heap} {locs : List Loc} {ls : Array Slot}, Wd Z (cmb σ μ) s H locs → lv_has ls 5 [(0, .ref (Z.1 + (279 + 187 * kv + 5 * kp))), (1, .int x1), (2, .int x2), (3, .int x3)] → fLife_stampedDays_15 N kv kp n x1 x2 x3 σ = some rv → W p l e R s m args below meth c H locs 0 0 (MQ below (Qr Z (some (.int rv)) True (cmb σ μ)) args s 0 0 (fun q => Z.1 ≤ q)) (F0 m 15 ls []) := by
  have hx := hc.hx
  have hb := hc.hb
  induction n with
  | zero =>
    intro x1 x2 x3 H locs ls hw hl hf
    have hf : none = some _ := hf
    cases hf
  | succ n ih =>
    intro x1 x2 x3 H locs ls hw hl hf
    unfold fLife_stampedDays_15 at hf
    refine lv_iload_n hx hb (dq tk_Life_stampedDays 10 rfl) rfl (lv_at hl 3 rfl) ?_
    refine lv_iload_n hx hb (dq tk_Life_stampedDays 11 rfl) rfl (lv_at hl 1 rfl) ?_
    refine lv_icmp_gt (tgt := 89) hx hb (dq tk_Life_stampedDays 12 rfl) (by decide) (fun c1 => ?_) (fun c1 => ?_)
    · replace hf := if_t hf c1
      refine lv_iload_n hx hb (dq tk_Life_stampedDays 48 rfl) rfl (lv_at hl 2 rfl) ?_
      cases hf
      exact x_iret hc hw hr (dq tk_Life_stampedDays 49 rfl)
    · replace hf := if_f hf c1
      refine lv_aload_n hx hb (dq tk_Life_stampedDays 13 rfl) rfl (lv_at hl 0 rfl) ?_
      refine lv_iload_n hx hb (dq tk_Life_stampedDays 14 rfl) rfl (lv_at hl 3 rfl) ?_
      obtain ⟨r1, h15, hf⟩ := bn1_someZ hf
      refine K_Life_kindOn hc hw hkv hkp wd_1408 h15 (hR.mono (by decide)) ⟨Nat.zero_le _, Nat.zero_le _⟩ hl.1 (Nat.le_of_ble_eq_true rfl) (dq tk_Life_stampedDays 15 rfl) (fun H locs hw _ => ?_)
      refine lv_bipush (v := 7) hx hb (dq tk_Life_stampedDays 16 rfl) (by decide) ?_
      refine lv_icmp_eq (tgt := 40) hx hb (dq tk_Life_stampedDays 17 rfl) (by decide) (fun c2 => ?_) (fun c2 => ?_)
      · replace hf := if_t hf c2
        exact w_Life_stampedDays_40 hc hr hR hkv hkp ih hw (lv_sub hl [0, 1, 2, 3] rfl) hf
      · replace hf := if_f hf c2
        refine lv_aload_n hx hb (dq tk_Life_stampedDays 18 rfl) rfl (lv_at hl 0 rfl) ?_
        refine lv_iload_n hx hb (dq tk_Life_stampedDays 19 rfl) rfl (lv_at hl 3 rfl) ?_
        obtain ⟨r2, h20, hf⟩ := bn1_someZ hf
        refine K_Life_kindOn hc hw hkv hkp wd_1408 h20 (hR.mono (by decide)) ⟨Nat.zero_le _, Nat.zero_le _⟩ hl.1 (Nat.le_of_ble_eq_true rfl) (dq tk_Life_stampedDays 20 rfl) (fun H locs hw _ => ?_)
        refine lv_bipush (v := 6) hx hb (dq tk_Life_stampedDays 21 rfl) (by decide) ?_
        refine lv_icmp_ne (tgt := 44) hx hb (dq tk_Life_stampedDays 22 rfl) (by decide) (fun c3 => ?_) (fun c3 => ?_)
        · replace hf := if_f hf c3
          refine lv_iconst (v := 0) hx hb (dq tk_Life_stampedDays 25 rfl) (by decide) ?_
          exact w_Life_stampedDays_45 hc hr hR hkv hkp ih hw (lv_sub hl [0, 1, 2, 3] rfl) hf
        · replace hf := if_t hf c3
          exact w_Life_stampedDays_40 hc hr hR hkv hkp ih hw (lv_sub hl [0, 1, 2, 3] rfl) hf
set_option maxRecDepth 10000 in
theorem w_Life_stampedDays {N : Nat} {kv kp : Nat} (hc : Cxz p s m meth c args prog_8_method_24_code "LabourExchange$Life" 5 Z) (hr : meth.sig.returnType = (some .int)) (hR : RO R 1) (hkv : kv < 2) (hkp : kp < 20) {rv : Int32} {σ : St} : ∀ {x1 : Int32} {H : Heap} {locs : List Loc} {ls : Array Slot}, Wd Z (cmb σ μ) s H locs → lv_has ls 5 [(0, .ref (Z.1 + (279 + 187 * kv + 5 * kp))), (1, .int x1)] → fLife_stampedDays N kv kp x1 σ = some rv → W p l e R s m args below meth c H locs 0 0 (MQ below (Qr Z (some (.int rv)) True (cmb σ μ)) args s 0 0 (fun q => Z.1 ≤ q)) (F0 m 0 ls []) := by
  have hx := hc.hx
  have hb := hc.hb
  intro x1 H locs ls hw hl hf
  unfold fLife_stampedDays at hf
  refine lv_iconst (v := 0) hx hb (dq tk_Life_stampedDays 0 rfl) (by decide) ?_
  refine lv_istore_n (lv' := [(2, .int 0), (0, .ref (Z.1 + (279 + 187 * kv + 5 * kp))), (1, .int x1)]) hx hb (dq tk_Life_stampedDays 1 rfl) rfl hl (by decide) rfl (fun ls hl => ?_)
  refine lv_sipush (v := 312) hx hb (dq tk_Life_stampedDays 2 rfl) (by decide) ?_
  refine lv_iload_n hx hb (dq tk_Life_stampedDays 3 rfl) rfl (lv_at hl 2 rfl) ?_
  refine lv_bipush (v := 6) hx hb (dq tk_Life_stampedDays 4 rfl) (by decide) ?_
  refine lv_isub hx hb (dq tk_Life_stampedDays 5 rfl) ?_
  refine lv_iconst (v := 1) hx hb (dq tk_Life_stampedDays 6 rfl) (by decide) ?_
  refine lv_iadd hx hb (dq tk_Life_stampedDays 7 rfl) ?_
  obtain ⟨r1, h8, hf⟩ := bn1_someZ hf
  refine K_Math_max_I hc hw wd_829 h8 (hR.mono (by decide)) ⟨Nat.zero_le _, Nat.zero_le _⟩ hl.1 (Nat.le_of_ble_eq_true rfl) (dq tk_Life_stampedDays 8 rfl) (fun H locs hw _ => ?_)
  refine lv_istore_n (lv' := [(3, .int r1), (2, .int 0), (0, .ref (Z.1 + (279 + 187 * kv + 5 * kp))), (1, .int x1)]) hx hb (dq tk_Life_stampedDays 9 rfl) rfl hl (by decide) rfl (fun ls hl => ?_)
  exact w_Life_stampedDays_15 hc hr hR hkv hkp N hw (lv_sub hl [2, 3, 1, 0] rfl) hf
theorem c_Life_stampedDays {N : Nat} {kv kp : Nat}  {x1 : Int32} {rv : Int32} {σ : St} (hkv : kv < 2) (hkp : kp < 20) (hf : fLife_stampedDays N kv kp x1 σ = some rv) : Ct l Z y_Life_stampedDays prog_8_method_24_code 5 (some .int) (rmo (1)) [.ref (Z.1 + (279 + 187 * kv + 5 * kp)), .int x1] (cmb σ μ) (some (.int rv)) True (cmb σ μ) := by
  refine x_met (by decide) (Nat.le_of_ble_eq_true rfl) (fun p e s m args below meth c ls hc hr hw hl => ?_)
  exact w_Life_stampedDays hc hr RO.self hkv hkp hw hl hf
theorem K_Life_stampedDays {idx : Nat} {N : Nat} {kv kp : Nat}  {x1 : Int32} {rv : Int32} {σ : St} (hc : Cxz p s m meth c args cc own nL Z) (hw : Wd Z (cmb σ μ) s H locs) (hkv : kv < 2) (hkp : kp < 20) (hl : Cond.methodLink own idx y_Life_stampedDays ∈ TB) (hf : fLife_stampedDays N kv kp x1 σ = some rv) (hR : RO R ((1) + 1)) (hcs : cells ≤ R.cells ∧ slots ≤ R.slots) (hls : ls.size = nL) (hst : (rest.map fun v => v.category).sum ≤ 8) (hdg : decode cc pc = .ok (.invokevirtual idx, 3)) (kk : ∀ (H1 : Heap) (locs1 : List Loc), Wd Z (cmb σ μ) s H1 locs1 → True → W p l e R s m args below meth c H1 locs1 cells slots Q (F0 m (pc + 3) ls (.int rv :: rest))) : W p l e R s m args below meth c H locs cells slots Q (F0 m pc ls (.int x1 :: .ref (Z.1 + (279 + 187 * kv + 5 * kp)) :: rest)) :=
  x_iv hc hw (c_Life_stampedDays hkv hkp hf) yv_Life_stampedDays (wd_life (r := 0) hkv hkp (by decide) (by omega)).1 (wd_life (r := 0) hkv hkp (by decide) (by omega)).2 rfl hl (RO.call hR (by decide)) hcs rfl hls hst hdg rfl kk
set_option maxRecDepth 10000 in
theorem w_Life_payOn {N : Nat} {kv kp : Nat} (hc : Cxz p s m meth c args prog_8_method_4_code "LabourExchange$Life" 2 Z) (hr : meth.sig.returnType = (some .int)) (hR : RO R 0) (hkv : kv < 2) (hkp : kp < 20) {rv : Int32} {σ : St} : ∀ {x1 : Int32} {H : Heap} {locs : List Loc} {ls : Array Slot}, Wd Z (cmb σ μ) s H locs → lv_has ls 2 [(0, .ref (Z.1 + (279 + 187 * kv + 5 * kp))), (1, .int x1)] → fLife_payOn N kv kp x1 σ = some rv → W p l e R s m args below meth c H locs 0 0 (MQ below (Qr Z (some (.int rv)) True (cmb σ μ)) args s 0 0 (fun q => Z.1 ≤ q)) (F0 m 0 ls []) := by
  have hx := hc.hx
  have hb := hc.hb
  intro x1 H locs ls hw hl hf
  unfold fLife_payOn at hf
  refine lv_aload_n hx hb (dq tk_Life_payOn 0 rfl) rfl (lv_at hl 0 rfl) ?_
  refine G_Life_past hkv hkp hc hw wd_551 (dq tk_Life_payOn 1 rfl) ?_
  refine lv_iload_n hx hb (dq tk_Life_payOn 2 rfl) rfl (lv_at hl 1 rfl) ?_
  refine lv_sipush (v := 312) hx hb (dq tk_Life_payOn 3 rfl) (by decide) ?_
  refine lv_isub hx hb (dq tk_Life_payOn 4 rfl) ?_
  obtain ⟨c1, hf⟩ := chk_some hf
  refine AL_Life_past hkv hkp hc hw c1 (dq tk_Life_payOn 5 rfl) ?_
  refine lv_iconst (v := 4) hx hb (dq tk_Life_payOn 6 rfl) (by decide) ?_
  refine lv_ishr hx hb (dq tk_Life_payOn 7 rfl) ?_
  refine lv_sipush (v := 16383) hx hb (dq tk_Life_payOn 8 rfl) (by decide) ?_
  refine lv_iand hx hb (dq tk_Life_payOn 9 rfl) ?_
  cases hf
  exact x_iret hc hw hr (dq tk_Life_payOn 10 rfl)
theorem c_Life_payOn {N : Nat} {kv kp : Nat}  {x1 : Int32} {rv : Int32} {σ : St} (hkv : kv < 2) (hkp : kp < 20) (hf : fLife_payOn N kv kp x1 σ = some rv) : Ct l Z y_Life_payOn prog_8_method_4_code 2 (some .int) (rmo (0)) [.ref (Z.1 + (279 + 187 * kv + 5 * kp)), .int x1] (cmb σ μ) (some (.int rv)) True (cmb σ μ) := by
  refine x_met (by decide) (Nat.le_of_ble_eq_true rfl) (fun p e s m args below meth c ls hc hr hw hl => ?_)
  exact w_Life_payOn hc hr RO.self hkv hkp hw hl hf
theorem K_Life_payOn {idx : Nat} {N : Nat} {kv kp : Nat}  {x1 : Int32} {rv : Int32} {σ : St} (hc : Cxz p s m meth c args cc own nL Z) (hw : Wd Z (cmb σ μ) s H locs) (hkv : kv < 2) (hkp : kp < 20) (hl : Cond.methodLink own idx y_Life_payOn ∈ TB) (hf : fLife_payOn N kv kp x1 σ = some rv) (hR : RO R ((0) + 1)) (hcs : cells ≤ R.cells ∧ slots ≤ R.slots) (hls : ls.size = nL) (hst : (rest.map fun v => v.category).sum ≤ 8) (hdg : decode cc pc = .ok (.invokevirtual idx, 3)) (kk : ∀ (H1 : Heap) (locs1 : List Loc), Wd Z (cmb σ μ) s H1 locs1 → True → W p l e R s m args below meth c H1 locs1 cells slots Q (F0 m (pc + 3) ls (.int rv :: rest))) : W p l e R s m args below meth c H locs cells slots Q (F0 m pc ls (.int x1 :: .ref (Z.1 + (279 + 187 * kv + 5 * kp)) :: rest)) :=
  x_iv hc hw (c_Life_payOn hkv hkp hf) yv_Life_payOn (wd_life (r := 0) hkv hkp (by decide) (by omega)).1 (wd_life (r := 0) hkv hkp (by decide) (by omega)).2 rfl hl (RO.call hR (by decide)) hcs rfl hls hst hdg rfl kk
set_option maxRecDepth 10000 in
theorem w_Life_actOn {N : Nat} {kv kp : Nat} (hc : Cxz p s m meth c args prog_8_method_5_code "LabourExchange$Life" 2 Z) (hr : meth.sig.returnType = (some .int)) (hR : RO R 0) (hkv : kv < 2) (hkp : kp < 20) {rv : Int32} {σ : St} : ∀ {x1 : Int32} {H : Heap} {locs : List Loc} {ls : Array Slot}, Wd Z (cmb σ μ) s H locs → lv_has ls 2 [(0, .ref (Z.1 + (279 + 187 * kv + 5 * kp))), (1, .int x1)] → fLife_actOn N kv kp x1 σ = some rv → W p l e R s m args below meth c H locs 0 0 (MQ below (Qr Z (some (.int rv)) True (cmb σ μ)) args s 0 0 (fun q => Z.1 ≤ q)) (F0 m 0 ls []) := by
  have hx := hc.hx
  have hb := hc.hb
  intro x1 H locs ls hw hl hf
  unfold fLife_actOn at hf
  refine lv_aload_n hx hb (dq tk_Life_actOn 0 rfl) rfl (lv_at hl 0 rfl) ?_
  refine G_Life_past hkv hkp hc hw wd_551 (dq tk_Life_actOn 1 rfl) ?_
  refine lv_iload_n hx hb (dq tk_Life_actOn 2 rfl) rfl (lv_at hl 1 rfl) ?_
  refine lv_sipush (v := 312) hx hb (dq tk_Life_actOn 3 rfl) (by decide) ?_
  refine lv_isub hx hb (dq tk_Life_actOn 4 rfl) ?_
  obtain ⟨c1, hf⟩ := chk_some hf
  refine AL_Life_past hkv hkp hc hw c1 (dq tk_Life_actOn 5 rfl) ?_
  refine lv_bipush (v := 18) hx hb (dq tk_Life_actOn 6 rfl) (by decide) ?_
  refine lv_ishr hx hb (dq tk_Life_actOn 7 rfl) ?_
  refine lv_bipush (v := 31) hx hb (dq tk_Life_actOn 8 rfl) (by decide) ?_
  refine lv_iand hx hb (dq tk_Life_actOn 9 rfl) ?_
  refine lv_iconst (v := 1) hx hb (dq tk_Life_actOn 10 rfl) (by decide) ?_
  refine lv_isub hx hb (dq tk_Life_actOn 11 rfl) ?_
  cases hf
  exact x_iret hc hw hr (dq tk_Life_actOn 12 rfl)
theorem c_Life_actOn {N : Nat} {kv kp : Nat}  {x1 : Int32} {rv : Int32} {σ : St} (hkv : kv < 2) (hkp : kp < 20) (hf : fLife_actOn N kv kp x1 σ = some rv) : Ct l Z y_Life_actOn prog_8_method_5_code 2 (some .int) (rmo (0)) [.ref (Z.1 + (279 + 187 * kv + 5 * kp)), .int x1] (cmb σ μ) (some (.int rv)) True (cmb σ μ) := by
  refine x_met (by decide) (Nat.le_of_ble_eq_true rfl) (fun p e s m args below meth c ls hc hr hw hl => ?_)
  exact w_Life_actOn hc hr RO.self hkv hkp hw hl hf
theorem K_Life_actOn {idx : Nat} {N : Nat} {kv kp : Nat}  {x1 : Int32} {rv : Int32} {σ : St} (hc : Cxz p s m meth c args cc own nL Z) (hw : Wd Z (cmb σ μ) s H locs) (hkv : kv < 2) (hkp : kp < 20) (hl : Cond.methodLink own idx y_Life_actOn ∈ TB) (hf : fLife_actOn N kv kp x1 σ = some rv) (hR : RO R ((0) + 1)) (hcs : cells ≤ R.cells ∧ slots ≤ R.slots) (hls : ls.size = nL) (hst : (rest.map fun v => v.category).sum ≤ 8) (hdg : decode cc pc = .ok (.invokevirtual idx, 3)) (kk : ∀ (H1 : Heap) (locs1 : List Loc), Wd Z (cmb σ μ) s H1 locs1 → True → W p l e R s m args below meth c H1 locs1 cells slots Q (F0 m (pc + 3) ls (.int rv :: rest))) : W p l e R s m args below meth c H locs cells slots Q (F0 m pc ls (.int x1 :: .ref (Z.1 + (279 + 187 * kv + 5 * kp)) :: rest)) :=
  x_iv hc hw (c_Life_actOn hkv hkp hf) yv_Life_actOn (wd_life (r := 0) hkv hkp (by decide) (by omega)).1 (wd_life (r := 0) hkv hkp (by decide) (by omega)).2 rfl hl (RO.call hR (by decide)) hcs rfl hls hst hdg rfl kk
set_option maxRecDepth 10000 in
theorem w_Life_claimOn {N : Nat} {kv kp : Nat} (hc : Cxz p s m meth c args prog_8_method_6_code "LabourExchange$Life" 2 Z) (hr : meth.sig.returnType = (some .int)) (hR : RO R 0) (hkv : kv < 2) (hkp : kp < 20) {rv : Int32} {σ : St} : ∀ {x1 : Int32} {H : Heap} {locs : List Loc} {ls : Array Slot}, Wd Z (cmb σ μ) s H locs → lv_has ls 2 [(0, .ref (Z.1 + (279 + 187 * kv + 5 * kp))), (1, .int x1)] → fLife_claimOn N kv kp x1 σ = some rv → W p l e R s m args below meth c H locs 0 0 (MQ below (Qr Z (some (.int rv)) True (cmb σ μ)) args s 0 0 (fun q => Z.1 ≤ q)) (F0 m 0 ls []) := by
  have hx := hc.hx
  have hb := hc.hb
  intro x1 H locs ls hw hl hf
  unfold fLife_claimOn at hf
  refine lv_aload_n hx hb (dq tk_Life_claimOn 0 rfl) rfl (lv_at hl 0 rfl) ?_
  refine G_Life_past hkv hkp hc hw wd_551 (dq tk_Life_claimOn 1 rfl) ?_
  refine lv_iload_n hx hb (dq tk_Life_claimOn 2 rfl) rfl (lv_at hl 1 rfl) ?_
  refine lv_sipush (v := 312) hx hb (dq tk_Life_claimOn 3 rfl) (by decide) ?_
  refine lv_isub hx hb (dq tk_Life_claimOn 4 rfl) ?_
  obtain ⟨c1, hf⟩ := chk_some hf
  refine AL_Life_past hkv hkp hc hw c1 (dq tk_Life_claimOn 5 rfl) ?_
  refine lv_bipush (v := 23) hx hb (dq tk_Life_claimOn 6 rfl) (by decide) ?_
  refine lv_ishr hx hb (dq tk_Life_claimOn 7 rfl) ?_
  refine lv_bipush (v := 127) hx hb (dq tk_Life_claimOn 8 rfl) (by decide) ?_
  refine lv_iand hx hb (dq tk_Life_claimOn 9 rfl) ?_
  refine lv_iconst (v := 1) hx hb (dq tk_Life_claimOn 10 rfl) (by decide) ?_
  refine lv_isub hx hb (dq tk_Life_claimOn 11 rfl) ?_
  cases hf
  exact x_iret hc hw hr (dq tk_Life_claimOn 12 rfl)
theorem c_Life_claimOn {N : Nat} {kv kp : Nat}  {x1 : Int32} {rv : Int32} {σ : St} (hkv : kv < 2) (hkp : kp < 20) (hf : fLife_claimOn N kv kp x1 σ = some rv) : Ct l Z y_Life_claimOn prog_8_method_6_code 2 (some .int) (rmo (0)) [.ref (Z.1 + (279 + 187 * kv + 5 * kp)), .int x1] (cmb σ μ) (some (.int rv)) True (cmb σ μ) := by
  refine x_met (by decide) (Nat.le_of_ble_eq_true rfl) (fun p e s m args below meth c ls hc hr hw hl => ?_)
  exact w_Life_claimOn hc hr RO.self hkv hkp hw hl hf
theorem K_Life_claimOn {idx : Nat} {N : Nat} {kv kp : Nat}  {x1 : Int32} {rv : Int32} {σ : St} (hc : Cxz p s m meth c args cc own nL Z) (hw : Wd Z (cmb σ μ) s H locs) (hkv : kv < 2) (hkp : kp < 20) (hl : Cond.methodLink own idx y_Life_claimOn ∈ TB) (hf : fLife_claimOn N kv kp x1 σ = some rv) (hR : RO R ((0) + 1)) (hcs : cells ≤ R.cells ∧ slots ≤ R.slots) (hls : ls.size = nL) (hst : (rest.map fun v => v.category).sum ≤ 8) (hdg : decode cc pc = .ok (.invokevirtual idx, 3)) (kk : ∀ (H1 : Heap) (locs1 : List Loc), Wd Z (cmb σ μ) s H1 locs1 → True → W p l e R s m args below meth c H1 locs1 cells slots Q (F0 m (pc + 3) ls (.int rv :: rest))) : W p l e R s m args below meth c H locs cells slots Q (F0 m pc ls (.int x1 :: .ref (Z.1 + (279 + 187 * kv + 5 * kp)) :: rest)) :=
  x_iv hc hw (c_Life_claimOn hkv hkp hf) yv_Life_claimOn (wd_life (r := 0) hkv hkp (by decide) (by omega)).1 (wd_life (r := 0) hkv hkp (by decide) (by omega)).2 rfl hl (RO.call hR (by decide)) hcs rfl hls hst hdg rfl kk
set_option maxRecDepth 10000 in
theorem w_Market_knownFrom {N : Nat} (hc : Cxz p s m meth c args prog_9_method_4_code "LabourExchange$Market" 3 Z) (hr : meth.sig.returnType = (some .int)) (hR : RO R 2) {rv : Int32} {σ : St} : ∀ {x1 : Int32} {x2 : Int32} {H : Heap} {locs : List Loc} {ls : Array Slot}, Wd Z (cmb σ μ) s H locs → lv_has ls 3 [(0, .ref (Z.1 + 33)), (1, .int x1), (2, .int x2)] → fMarket_knownFrom N x1 x2 σ = some rv → W p l e R s m args below meth c H locs 0 0 (MQ below (Qr Z (some (.int rv)) True (cmb σ μ)) args s 0 0 (fun q => Z.1 ≤ q)) (F0 m 0 ls []) := by
  have hx := hc.hx
  have hb := hc.hb
  intro x1 x2 H locs ls hw hl hf
  unfold fMarket_knownFrom at hf
  refine lv_aload_n hx hb (dq tk_Market_knownFrom 0 rfl) rfl (lv_at hl 0 rfl) ?_
  refine G_Market_since hc hw wd_251 (dq tk_Market_knownFrom 1 rfl) ?_
  refine lv_iload_n hx hb (dq tk_Market_knownFrom 2 rfl) rfl (lv_at hl 1 rfl) ?_
  obtain ⟨c1, hf⟩ := chk_some hf
  refine AL_Market_since hc hw c1 (dq tk_Market_knownFrom 3 rfl) ?_
  refine lv_aload_n hx hb (dq tk_Market_knownFrom 4 rfl) rfl (lv_at hl 0 rfl) ?_
  refine G_Market_land hc hw wd_245 (dq tk_Market_knownFrom 5 rfl) ?_
  refine lv_aload_n hx hb (dq tk_Market_knownFrom 6 rfl) rfl (lv_at hl 0 rfl) ?_
  refine G_Market_office hc hw wd_246 (dq tk_Market_knownFrom 7 rfl) ?_
  refine lv_iload_n hx hb (dq tk_Market_knownFrom 8 rfl) rfl (lv_at hl 1 rfl) ?_
  refine AL_Market_office hc hw c1 (dq tk_Market_knownFrom 9 rfl) ?_
  refine lv_iload_n hx hb (dq tk_Market_knownFrom 10 rfl) rfl (lv_at hl 2 rfl) ?_
  obtain ⟨r1, h11, hf⟩ := bn1_someZ hf
  refine K_Land_miles hc hw wd_909 h11 (hR.mono (by decide)) ⟨Nat.zero_le _, Nat.zero_le _⟩ hl.1 (Nat.le_of_ble_eq_true rfl) (dq tk_Market_knownFrom 11 rfl) (fun H locs hw _ => ?_)
  refine lv_bipush (v := 50) hx hb (dq tk_Market_knownFrom 12 rfl) (by decide) ?_
  refine lv_iadd hx hb (dq tk_Market_knownFrom 13 rfl) ?_
  refine lv_iconst (v := 1) hx hb (dq tk_Market_knownFrom 14 rfl) (by decide) ?_
  refine lv_isub hx hb (dq tk_Market_knownFrom 15 rfl) ?_
  refine lv_bipush (v := 50) hx hb (dq tk_Market_knownFrom 16 rfl) (by decide) ?_
  refine lv_idiv hx hb (dq tk_Market_knownFrom 17 rfl) (by decide) ?_
  refine lv_iadd hx hb (dq tk_Market_knownFrom 18 rfl) ?_
  cases hf
  exact x_iret hc hw hr (dq tk_Market_knownFrom 19 rfl)
theorem c_Market_knownFrom {N : Nat}  {x1 : Int32} {x2 : Int32} {rv : Int32} {σ : St} (hf : fMarket_knownFrom N x1 x2 σ = some rv) : Ct l Z y_Market_knownFrom prog_9_method_4_code 3 (some .int) (rmo (2)) [.ref (Z.1 + 33), .int x1, .int x2] (cmb σ μ) (some (.int rv)) True (cmb σ μ) := by
  refine x_met (by decide) (Nat.le_of_ble_eq_true rfl) (fun p e s m args below meth c ls hc hr hw hl => ?_)
  exact w_Market_knownFrom hc hr RO.self hw hl hf
theorem K_Market_knownFrom {idx : Nat} {N : Nat}  {x1 : Int32} {x2 : Int32} {rv : Int32} {σ : St} (hc : Cxz p s m meth c args cc own nL Z) (hw : Wd Z (cmb σ μ) s H locs) (hl : Cond.methodLink own idx y_Market_knownFrom ∈ TB) (hf : fMarket_knownFrom N x1 x2 σ = some rv) (hR : RO R ((2) + 1)) (hcs : cells ≤ R.cells ∧ slots ≤ R.slots) (hls : ls.size = nL) (hst : (rest.map fun v => v.category).sum ≤ 8) (hdg : decode cc pc = .ok (.invokevirtual idx, 3)) (kk : ∀ (H1 : Heap) (locs1 : List Loc), Wd Z (cmb σ μ) s H1 locs1 → True → W p l e R s m args below meth c H1 locs1 cells slots Q (F0 m (pc + 3) ls (.int rv :: rest))) : W p l e R s m args below meth c H locs cells slots Q (F0 m pc ls (.int x2 :: .int x1 :: .ref (Z.1 + 33) :: rest)) :=
  x_iv hc hw (c_Market_knownFrom hf) yv_Market_knownFrom (Nat.le_of_ble_eq_true rfl) rfl rfl hl (RO.call hR (by decide)) hcs rfl hls hst hdg rfl kk
set_option maxRecDepth 10000 in
theorem w_Market_isOpenTo {N : Nat} (hc : Cxz p s m meth c args prog_9_method_5_code "LabourExchange$Market" 4 Z) (hr : meth.sig.returnType = (some .boolean)) (hR : RO R 3) {rv : Int32} {σ : St} : ∀ {x1 : Int32} {x2 : Int32} {x3 : Int32} {H : Heap} {locs : List Loc} {ls : Array Slot}, Wd Z (cmb σ μ) s H locs → lv_has ls 4 [(0, .ref (Z.1 + 33)), (1, .int x1), (2, .int x2), (3, .int x3)] → fMarket_isOpenTo N x1 x2 x3 σ = some rv → W p l e R s m args below meth c H locs 0 0 (MQ below (Qr Z (some (.int rv)) True (cmb σ μ)) args s 0 0 (fun q => Z.1 ≤ q)) (F0 m 0 ls []) := by
  have hx := hc.hx
  have hb := hc.hb
  intro x1 x2 x3 H locs ls hw hl hf
  unfold fMarket_isOpenTo at hf
  refine lv_aload_n hx hb (dq tk_Market_isOpenTo 0 rfl) rfl (lv_at hl 0 rfl) ?_
  refine G_Market_filled hc hw wd_252 (dq tk_Market_isOpenTo 1 rfl) ?_
  refine lv_iload_n hx hb (dq tk_Market_isOpenTo 2 rfl) rfl (lv_at hl 2 rfl) ?_
  obtain ⟨c1, hf⟩ := chk_some hf
  refine AL_Market_filled hc hw c1 (dq tk_Market_isOpenTo 3 rfl) ?_
  refine lv_if_ne (tgt := 31) hx hb (dq tk_Market_isOpenTo 4 rfl) (by decide) (fun c2 => ?_) (fun c2 => ?_)
  · replace hf := if_f hf c2
    refine lv_iconst (v := 0) hx hb (dq tk_Market_isOpenTo 17 rfl) (by decide) ?_
    cases hf
    exact x_zret hc hw hr (by decide) (dq tk_Market_isOpenTo 18 rfl)
  · replace hf := if_t hf c2
    refine lv_aload_n hx hb (dq tk_Market_isOpenTo 5 rfl) rfl (lv_at hl 0 rfl) ?_
    refine lv_iload_n hx hb (dq tk_Market_isOpenTo 6 rfl) rfl (lv_at hl 2 rfl) ?_
    refine lv_aload_n hx hb (dq tk_Market_isOpenTo 7 rfl) rfl (lv_at hl 0 rfl) ?_
    refine G_Market_land hc hw wd_245 (dq tk_Market_isOpenTo 8 rfl) ?_
    refine G_Land_office hc hw wd_98 (dq tk_Market_isOpenTo 9 rfl) ?_
    refine lv_iload_n hx hb (dq tk_Market_isOpenTo 10 rfl) rfl (lv_at hl 1 rfl) ?_
    obtain ⟨c3, hf⟩ := chk_some hf
    refine AL_Land_office hc hw c3 (dq tk_Market_isOpenTo 11 rfl) ?_
    obtain ⟨r1, h12, hf⟩ := bn1_someZ hf
    refine K_Market_knownFrom hc hw wd_946 h12 (hR.mono (by decide)) ⟨Nat.zero_le _, Nat.zero_le _⟩ hl.1 (Nat.le_of_ble_eq_true rfl) (dq tk_Market_isOpenTo 12 rfl) (fun H locs hw _ => ?_)
    refine lv_iload_n hx hb (dq tk_Market_isOpenTo 13 rfl) rfl (lv_at hl 3 rfl) ?_
    refine lv_icmp_gt (tgt := 31) hx hb (dq tk_Market_isOpenTo 14 rfl) (by decide) (fun c4 => ?_) (fun c4 => ?_)
    · replace hf := if_t hf c4
      refine lv_iconst (v := 0) hx hb (dq tk_Market_isOpenTo 17 rfl) (by decide) ?_
      cases hf
      exact x_zret hc hw hr (by decide) (dq tk_Market_isOpenTo 18 rfl)
    · replace hf := if_f hf c4
      refine lv_iconst (v := 1) hx hb (dq tk_Market_isOpenTo 15 rfl) (by decide) ?_
      refine lv_goto (tgt := 32) hx hb (dq tk_Market_isOpenTo 16 rfl) (by decide) ?_
      cases hf
      exact x_zret hc hw hr (by decide) (dq tk_Market_isOpenTo 18 rfl)
theorem c_Market_isOpenTo {N : Nat}  {x1 : Int32} {x2 : Int32} {x3 : Int32} {rv : Int32} {σ : St} (hf : fMarket_isOpenTo N x1 x2 x3 σ = some rv) : Ct l Z y_Market_isOpenTo prog_9_method_5_code 4 (some .boolean) (rmo (3)) [.ref (Z.1 + 33), .int x1, .int x2, .int x3] (cmb σ μ) (some (.int rv)) True (cmb σ μ) := by
  refine x_met (by decide) (Nat.le_of_ble_eq_true rfl) (fun p e s m args below meth c ls hc hr hw hl => ?_)
  exact w_Market_isOpenTo hc hr RO.self hw hl hf
theorem K_Market_isOpenTo {idx : Nat} {N : Nat}  {x1 : Int32} {x2 : Int32} {x3 : Int32} {rv : Int32} {σ : St} (hc : Cxz p s m meth c args cc own nL Z) (hw : Wd Z (cmb σ μ) s H locs) (hl : Cond.methodLink own idx y_Market_isOpenTo ∈ TB) (hf : fMarket_isOpenTo N x1 x2 x3 σ = some rv) (hR : RO R ((3) + 1)) (hcs : cells ≤ R.cells ∧ slots ≤ R.slots) (hls : ls.size = nL) (hst : (rest.map fun v => v.category).sum ≤ 8) (hdg : decode cc pc = .ok (.invokevirtual idx, 3)) (kk : ∀ (H1 : Heap) (locs1 : List Loc), Wd Z (cmb σ μ) s H1 locs1 → True → W p l e R s m args below meth c H1 locs1 cells slots Q (F0 m (pc + 3) ls (.int rv :: rest))) : W p l e R s m args below meth c H locs cells slots Q (F0 m pc ls (.int x3 :: .int x2 :: .int x1 :: .ref (Z.1 + 33) :: rest)) :=
  x_iv hc hw (c_Market_isOpenTo hf) yv_Market_isOpenTo (Nat.le_of_ble_eq_true rfl) rfl rfl hl (RO.call hR (by decide)) hcs rfl hls hst hdg rfl kk
set_option maxRecDepth 10000 in
theorem w_Law_firstObjection_34 {N : Nat} {kv : Nat} (hc : Cxz p s m meth c args prog_7_method_12_code "LabourExchange$Law" 5 Z) (hr : meth.sig.returnType = (some .int)) (hR : RO R 2) (hkv : kv < 2) {rv : Int32} {σ' : St} (n : Nat) : ∀ {x2 : Int32} {x3 : Int32} {x4 : Int32} {σ : St} {H : Heap} {locs : List Loc} {ls : Array Slot}, Wd Z (cmb σ μ) s H locs → lv_has ls 5 [(0, .ref (Z.1 + (197 + 187 * kv))), (2, .int x2), (3, .int x3), (4, .int x4)] → fLaw_firstObjection_34 N kv n x2 x3 x4 σ = some (rv, σ') → W p l e R s m args below meth c H locs 0 0 (MQ below (Qr Z (some (.int rv)) True (cmb σ' μ)) args s 0 0 (fun q => Z.1 ≤ q)) (F0 m 34 ls []) := by
  have hx := hc.hx
  have hb := hc.hb
  induction n with
  | zero =>
    intro x2 x3 x4 σ H locs ls hw hl hf
    have hf : none = some _ := hf
    cases hf
  | succ n ih =>
    intro x2 x3 x4 σ H locs ls hw hl hf
    unfold fLaw_firstObjection_34 at hf
    refine lv_iload hx hb (dq tk_Law_firstObjection 21 rfl) (lv_at hl 3 rfl) ?_
    refine lv_iload_n hx hb (dq tk_Law_firstObjection 22 rfl) rfl (lv_at hl 2 rfl) ?_
    refine lv_icmp_ge (tgt := 83) hx hb (dq tk_Law_firstObjection 23 rfl) (by decide) (fun c1 => ?_) (fun c1 => ?_)
    · replace hf := if_t hf c1
      refine lv_iconst (v := (-1)) hx hb (dq tk_Law_firstObjection 47 rfl) (by decide) ?_
      cases hf
      exact x_iret hc hw hr (dq tk_Law_firstObjection 48 rfl)
    · replace hf := if_f hf c1
      refine lv_aload_n hx hb (dq tk_Law_firstObjection 24 rfl) rfl (lv_at hl 0 rfl) ?_
      refine G_Law_acts hkv hc hw wd_495 (dq tk_Law_firstObjection 25 rfl) ?_
      refine lv_iload_n hx hb (dq tk_Law_firstObjection 26 rfl) rfl (lv_at hl 1 rfl) ?_
      obtain ⟨c2, hf⟩ := chk_some hf
      refine AL_X_acts hc hw c2 (dq tk_Law_firstObjection 27 rfl) ?_
      refine lv_aload_n hx hb (dq tk_Law_firstObjection 28 rfl) rfl (lv_at hl 0 rfl) ?_
      refine G_Law_acts hkv hc hw wd_495 (dq tk_Law_firstObjection 29 rfl) ?_
      refine lv_iload_n hx hb (dq tk_Law_firstObjection 30 rfl) rfl (lv_at hl 1 rfl) ?_
      refine AL_X_acts hc hw c2 (dq tk_Law_firstObjection 31 rfl) ?_
      refine G_Act_suits (inb_lt c2) hc hw wd_434 (dq tk_Law_firstObjection 32 rfl) ?_
      refine lv_iload hx hb (dq tk_Law_firstObjection 33 rfl) (lv_at hl 3 rfl) ?_
      obtain ⟨c3, hf⟩ := chk_some hf
      refine AL_Act_suits (inb_lt c2) hc hw c3 (dq tk_Law_firstObjection 34 rfl) ?_
      refine lv_aload_n hx hb (dq tk_Law_firstObjection 35 rfl) rfl (lv_at hl 0 rfl) ?_
      refine G_Law_values hkv hc hw wd_507 (dq tk_Law_firstObjection 36 rfl) ?_
      refine lv_aload_n hx hb (dq tk_Law_firstObjection 37 rfl) rfl (lv_at hl 0 rfl) ?_
      refine G_Law_stack hkv hc hw wd_511 (dq tk_Law_firstObjection 38 rfl) ?_
      obtain ⟨r1, σ2, h39, hf⟩ := bnd_some hf
      refine K_Act_work hc hw (inb_lt c2) hkv hkv wd_844 h39 (hR.mono (by decide)) ⟨Nat.zero_le _, Nat.zero_le _⟩ hl.1 (Nat.le_of_ble_eq_true rfl) (dq tk_Law_firstObjection 39 rfl) (fun H locs hw _ => ?_)
      refine lv_lconst (v := 0) hx hb (dq tk_Law_firstObjection 40 rfl) (by decide) ?_
      refine W.lcmp hx hb (dq tk_Law_firstObjection 41 rfl) ?_
      refine lv_if_ne (tgt := 77) hx hb (dq tk_Law_firstObjection 42 rfl) (by decide) (fun c4 => ?_) (fun c4 => ?_)
      · replace hf := if_f hf c4
        refine lv_iinc (v := (x4 + 1)) (lv' := [(4, .int (x4 + 1)), (0, .ref (Z.1 + (197 + 187 * kv))), (2, .int x2), (3, .int x3)]) hx hb (dq tk_Law_firstObjection 45 rfl) hl (k := 3) rfl rfl (by decide) rfl (fun ls hl => ?_)
        refine lv_goto (tgt := 34) hx hb (dq tk_Law_firstObjection 46 rfl) (by decide) ?_
        exact ih hw (lv_sub hl [1, 2, 3, 0] rfl) hf
      · replace hf := if_t hf c4
        refine lv_iload hx hb (dq tk_Law_firstObjection 43 rfl) (lv_at hl 3 rfl) ?_
        cases hf
        exact x_iret hc hw hr (dq tk_Law_firstObjection 44 rfl)
set_option maxRecDepth 10000 in
theorem w_Law_firstObjection_30 {N : Nat} {kv : Nat} (hc : Cxz p s m meth c args prog_7_method_12_code "LabourExchange$Law" 5 Z) (hr : meth.sig.returnType = (some .int)) (hR : RO R 2) (hkv : kv < 2) {rv : Int32} {σ' : St} : ∀ {x2 : Int32} {s0 : Int32} {σ : St} {H : Heap} {locs : List Loc} {ls : Array Slot}, Wd Z (cmb σ μ) s H locs → lv_has ls 5 [(0, .ref (Z.1 + (197 + 187 * kv))), (2, .int x2)] → fLaw_firstObjection_30 N kv x2 s0 σ = some (rv, σ') → W p l e R s m args below meth c H locs 0 0 (MQ below (Qr Z (some (.int rv)) True (cmb σ' μ)) args s 0 0 (fun q => Z.1 ≤ q)) (F0 m 30 ls [.int s0]) := by
  have hx := hc.hx
  have hb := hc.hb
  intro x2 s0 σ H locs ls hw hl hf
  unfold fLaw_firstObjection_30 at hf
  refine lv_istore_n (lv' := [(3, .int s0), (0, .ref (Z.1 + (197 + 187 * kv))), (2, .int x2)]) hx hb (dq tk_Law_firstObjection 18 rfl) rfl hl (by decide) rfl (fun ls hl => ?_)
  refine lv_iconst (v := 0) hx hb (dq tk_Law_firstObjection 19 rfl) (by decide) ?_
  refine lv_istore (lv' := [(4, .int 0), (3, .int s0), (0, .ref (Z.1 + (197 + 187 * kv))), (2, .int x2)]) hx hb (dq tk_Law_firstObjection 20 rfl) hl (by decide) rfl (fun ls hl => ?_)
  exact w_Law_firstObjection_34 hc hr hR hkv N hw (lv_sub hl [2, 3, 1, 0] rfl) hf
set_option maxRecDepth 10000 in
theorem w_Law_firstObjection {N : Nat} {kv : Nat} (hc : Cxz p s m meth c args prog_7_method_12_code "LabourExchange$Law" 5 Z) (hr : meth.sig.returnType = (some .int)) (hR : RO R 2) (hkv : kv < 2) {rv : Int32} {σ' : St} : ∀ {x1 : Int32} {σ : St} {H : Heap} {locs : List Loc} {ls : Array Slot}, Wd Z (cmb σ μ) s H locs → lv_has ls 5 [(0, .ref (Z.1 + (197 + 187 * kv))), (1, .int x1)] → fLaw_firstObjection N kv x1 σ = some (rv, σ') → W p l e R s m args below meth c H locs 0 0 (MQ below (Qr Z (some (.int rv)) True (cmb σ' μ)) args s 0 0 (fun q => Z.1 ≤ q)) (F0 m 0 ls []) := by
  have hx := hc.hx
  have hb := hc.hb
  intro x1 σ H locs ls hw hl hf
  unfold fLaw_firstObjection at hf
  refine lv_aload_n hx hb (dq tk_Law_firstObjection 0 rfl) rfl (lv_at hl 0 rfl) ?_
  refine G_Law_suitAct hkv hc hw wd_506 (dq tk_Law_firstObjection 1 rfl) ?_
  refine lv_aload_n hx hb (dq tk_Law_firstObjection 2 rfl) rfl (lv_at hl 0 rfl) ?_
  refine G_Law_spanOf hkv hc hw wd_498 (dq tk_Law_firstObjection 3 rfl) ?_
  refine lv_iload_n hx hb (dq tk_Law_firstObjection 4 rfl) rfl (lv_at hl 1 rfl) ?_
  obtain ⟨c1, hf⟩ := chk_some hf
  refine AL_Law_spanOf hkv hc hw c1 (dq tk_Law_firstObjection 5 rfl) ?_
  obtain ⟨c2, hf⟩ := chk_some hf
  refine AL_Law_suitAct hkv hc hw c2 (dq tk_Law_firstObjection 6 rfl) ?_
  obtain ⟨y1, hy1, hf⟩ := nm_some hf
  refine tst (congrArg Value.int hy1) ?_
  refine lv_istore_n (lv' := [(2, .int y1), (0, .ref (Z.1 + (197 + 187 * kv))), (1, .int x1)]) hx hb (dq tk_Law_firstObjection 7 rfl) rfl hl (by decide) rfl (fun ls hl => ?_)
  refine lv_iload_n hx hb (dq tk_Law_firstObjection 8 rfl) rfl (lv_at hl 0 rfl) ?_
  refine lv_iconst (v := (-1)) hx hb (dq tk_Law_firstObjection 9 rfl) (by decide) ?_
  refine lv_icmp_ne (tgt := 21) hx hb (dq tk_Law_firstObjection 10 rfl) (by decide) (fun c3 => ?_) (fun c3 => ?_)
  · replace hf := if_f hf c3
    refine lv_aload_n hx hb (dq tk_Law_firstObjection 13 rfl) rfl (lv_at hl 1 rfl) ?_
    refine G_Law_acts hkv hc hw wd_495 (dq tk_Law_firstObjection 14 rfl) ?_
    refine lv_iload_n hx hb (dq tk_Law_firstObjection 15 rfl) rfl (lv_at hl 0 rfl) ?_
    obtain ⟨c4, hf⟩ := chk_some hf
    refine AL_X_acts hc hw c4 (dq tk_Law_firstObjection 16 rfl) ?_
    refine G_Act_suitCount (inb_lt c4) hc hw wd_436 (dq tk_Law_firstObjection 17 rfl) ?_
    exact w_Law_firstObjection_30 hc hr hR hkv hw (lv_sub hl [1, 0] rfl) hf
  · replace hf := if_t hf c3
    refine lv_iconst (v := 0) hx hb (dq tk_Law_firstObjection 11 rfl) (by decide) ?_
    refine lv_goto (tgt := 30) hx hb (dq tk_Law_firstObjection 12 rfl) (by decide) ?_
    exact w_Law_firstObjection_30 hc hr hR hkv hw (lv_sub hl [1, 0] rfl) hf
theorem c_Law_firstObjection {N : Nat} {kv : Nat}  {x1 : Int32} {rv : Int32} {σ' : St} {σ : St} (hkv : kv < 2) (hf : fLaw_firstObjection N kv x1 σ = some (rv, σ')) : Ct l Z y_Law_firstObjection prog_7_method_12_code 5 (some .int) (rmo (2)) [.ref (Z.1 + (197 + 187 * kv)), .int x1] (cmb σ μ) (some (.int rv)) True (cmb σ' μ) := by
  refine x_met (by decide) (Nat.le_of_ble_eq_true rfl) (fun p e s m args below meth c ls hc hr hw hl => ?_)
  exact w_Law_firstObjection hc hr RO.self hkv hw hl hf
theorem K_Law_firstObjection {idx : Nat} {N : Nat} {kv : Nat}  {x1 : Int32} {rv : Int32} {σ' : St} {σ : St} (hc : Cxz p s m meth c args cc own nL Z) (hw : Wd Z (cmb σ μ) s H locs) (hkv : kv < 2) (hl : Cond.methodLink own idx y_Law_firstObjection ∈ TB) (hf : fLaw_firstObjection N kv x1 σ = some (rv, σ')) (hR : RO R ((2) + 1)) (hcs : cells ≤ R.cells ∧ slots ≤ R.slots) (hls : ls.size = nL) (hst : (rest.map fun v => v.category).sum ≤ 8) (hdg : decode cc pc = .ok (.invokevirtual idx, 3)) (kk : ∀ (H1 : Heap) (locs1 : List Loc), Wd Z (cmb σ' μ) s H1 locs1 → True → W p l e R s m args below meth c H1 locs1 cells slots Q (F0 m (pc + 3) ls (.int rv :: rest))) : W p l e R s m args below meth c H locs cells slots Q (F0 m pc ls (.int x1 :: .ref (Z.1 + (197 + 187 * kv)) :: rest)) :=
  x_iv hc hw (c_Law_firstObjection hkv hf) yv_Law_firstObjection (wd_view (r := 5) hkv (by decide) (by omega)).1 (wd_view (r := 5) hkv (by decide) (by omega)).2 rfl hl (RO.call hR (by decide)) hcs rfl hls hst hdg rfl kk
set_option maxRecDepth 10000 in
theorem w_Market_objectionTo {N : Nat} {k1_0 k1_1 : Nat} (hc : Cxz p s m meth c args prog_9_method_10_code "LabourExchange$Market" 4 Z) (hr : meth.sig.returnType = (some .int)) (hR : RO R 3) (hk1_0 : k1_0 < 2) (hk1_1 : k1_1 < 20) {rv : Int32} {σ' : St} : ∀ {x2 : Int32} {x3 : Int32} {σ : St} {H : Heap} {locs : List Loc} {ls : Array Slot}, Wd Z (cmb σ μ) s H locs → lv_has ls 4 [(0, .ref (Z.1 + 33)), (1, .ref (Z.1 + (279 + 187 * k1_0 + 5 * k1_1))), (2, .int x2), (3, .int x3)] → fMarket_objectionTo N k1_0 k1_1 x2 x3 σ = some (rv, σ') → W p l e R s m args below meth c H locs 0 0 (MQ below (Qr Z (some (.int rv)) True (cmb σ' μ)) args s 0 0 (fun q => Z.1 ≤ q)) (F0 m 0 ls []) := by
  have hx := hc.hx
  have hb := hc.hb
  intro x2 x3 σ H locs ls hw hl hf
  unfold fMarket_objectionTo at hf
  refine lv_aload_n hx hb (dq tk_Market_objectionTo 0 rfl) rfl (lv_at hl 1 rfl) ?_
  refine lv_iload_n hx hb (dq tk_Market_objectionTo 1 rfl) rfl (lv_at hl 3 rfl) ?_
  obtain ⟨σ1, h2, hf⟩ := bn1_someZ hf
  refine K_Life_setOut hc hw hk1_0 hk1_1 wd_954 h2 (hR.mono (by decide)) ⟨Nat.zero_le _, Nat.zero_le _⟩ hl.1 (Nat.le_of_ble_eq_true rfl) (dq tk_Market_objectionTo 2 rfl) (fun H locs hw _ => ?_)
  refine lv_aload_n hx hb (dq tk_Market_objectionTo 3 rfl) rfl (lv_at hl 0 rfl) ?_
  refine lv_aload_n hx hb (dq tk_Market_objectionTo 4 rfl) rfl (lv_at hl 1 rfl) ?_
  refine G_Life_person hk1_0 hk1_1 hc hw wd_546 (dq tk_Market_objectionTo 5 rfl) ?_
  refine lv_iload_n hx hb (dq tk_Market_objectionTo 6 rfl) rfl (lv_at hl 2 rfl) ?_
  refine lv_aload_n hx hb (dq tk_Market_objectionTo 7 rfl) rfl (lv_at hl 1 rfl) ?_
  refine G_Life_law hk1_0 hk1_1 hc hw wd_550 (dq tk_Market_objectionTo 8 rfl) ?_
  refine G_Law_values hk1_0 hc hw wd_508 (dq tk_Market_objectionTo 9 rfl) ?_
  obtain ⟨σ2, h10, hf⟩ := bn1_someZ hf
  refine K_Market_setOutVacancy hc hw hk1_0 wd_955 h10 (hR.mono (by decide)) ⟨Nat.zero_le _, Nat.zero_le _⟩ hl.1 (Nat.le_of_ble_eq_true rfl) (dq tk_Market_objectionTo 10 rfl) (fun H locs hw _ => ?_)
  refine lv_aload_n hx hb (dq tk_Market_objectionTo 11 rfl) rfl (lv_at hl 1 rfl) ?_
  refine G_Life_law hk1_0 hk1_1 hc hw wd_550 (dq tk_Market_objectionTo 12 rfl) ?_
  refine lv_iload_n hx hb (dq tk_Market_objectionTo 13 rfl) rfl (lv_at hl 3 rfl) ?_
  obtain ⟨r3, σ4, h14, hf⟩ := bnd_some hf
  refine K_Law_firstObjection hc hw hk1_0 wd_956 h14 (hR.mono (by decide)) ⟨Nat.zero_le _, Nat.zero_le _⟩ hl.1 (Nat.le_of_ble_eq_true rfl) (dq tk_Market_objectionTo 14 rfl) (fun H locs hw _ => ?_)
  cases hf
  exact x_iret hc hw hr (dq tk_Market_objectionTo 15 rfl)
theorem c_Market_objectionTo {N : Nat} {k1_0 k1_1 : Nat}  {x2 : Int32} {x3 : Int32} {rv : Int32} {σ' : St} {σ : St} (hk1_0 : k1_0 < 2) (hk1_1 : k1_1 < 20) (hf : fMarket_objectionTo N k1_0 k1_1 x2 x3 σ = some (rv, σ')) : Ct l Z y_Market_objectionTo prog_9_method_10_code 4 (some .int) (rmo (3)) [.ref (Z.1 + 33), .ref (Z.1 + (279 + 187 * k1_0 + 5 * k1_1)), .int x2, .int x3] (cmb σ μ) (some (.int rv)) True (cmb σ' μ) := by
  refine x_met (by decide) (Nat.le_of_ble_eq_true rfl) (fun p e s m args below meth c ls hc hr hw hl => ?_)
  exact w_Market_objectionTo hc hr RO.self hk1_0 hk1_1 hw hl hf
theorem K_Market_objectionTo {idx : Nat} {N : Nat} {k1_0 k1_1 : Nat}  {x2 : Int32} {x3 : Int32} {rv : Int32} {σ' : St} {σ : St} (hc : Cxz p s m meth c args cc own nL Z) (hw : Wd Z (cmb σ μ) s H locs) (hk1_0 : k1_0 < 2) (hk1_1 : k1_1 < 20) (hl : Cond.methodLink own idx y_Market_objectionTo ∈ TB) (hf : fMarket_objectionTo N k1_0 k1_1 x2 x3 σ = some (rv, σ')) (hR : RO R ((3) + 1)) (hcs : cells ≤ R.cells ∧ slots ≤ R.slots) (hls : ls.size = nL) (hst : (rest.map fun v => v.category).sum ≤ 8) (hdg : decode cc pc = .ok (.invokevirtual idx, 3)) (kk : ∀ (H1 : Heap) (locs1 : List Loc), Wd Z (cmb σ' μ) s H1 locs1 → True → W p l e R s m args below meth c H1 locs1 cells slots Q (F0 m (pc + 3) ls (.int rv :: rest))) : W p l e R s m args below meth c H locs cells slots Q (F0 m pc ls (.int x3 :: .int x2 :: .ref (Z.1 + (279 + 187 * k1_0 + 5 * k1_1)) :: .ref (Z.1 + 33) :: rest)) :=
  x_iv hc hw (c_Market_objectionTo hk1_0 hk1_1 hf) yv_Market_objectionTo (Nat.le_of_ble_eq_true rfl) rfl rfl hl (RO.call hR (by decide)) hcs rfl hls hst hdg rfl kk
set_option maxRecDepth 10000 in
theorem w_Market_addOffer {N : Nat} {k1_0 k1_1 : Nat} (hc : Cxz p s m meth c args prog_9_method_6_code "LabourExchange$Market" 4 Z) (hr : meth.sig.returnType = (some .int)) (hR : RO R 4) (hk1_0 : k1_0 < 2) (hk1_1 : k1_1 < 20) {rv : Int32} {σ' : St} : ∀ {x2 : Int32} {x3 : Int32} {σ : St} {H : Heap} {locs : List Loc} {ls : Array Slot}, Wd Z (cmb σ μ) s H locs → lv_has ls 4 [(0, .ref (Z.1 + 33)), (1, .ref (Z.1 + (279 + 187 * k1_0 + 5 * k1_1))), (2, .int x2), (3, .int x3)] → fMarket_addOffer N k1_0 k1_1 x2 x3 σ = some (rv, σ') → W p l e R s m args below meth c H locs 0 0 (MQ below (Qr Z (some (.int rv)) True (cmb σ' μ)) args s 0 0 (fun q => Z.1 ≤ q)) (F0 m 0 ls []) := by
  have hx := hc.hx
  have hb := hc.hb
  intro x2 x3 σ H locs ls hw hl hf
  unfold fMarket_addOffer at hf
  refine lv_aload_n hx hb (dq tk_Market_addOffer 0 rfl) rfl (lv_at hl 0 rfl) ?_
  refine G_Market_offered hc hw wd_256 (dq tk_Market_addOffer 1 rfl) ?_
  refine lv_aload_n hx hb (dq tk_Market_addOffer 2 rfl) rfl (lv_at hl 0 rfl) ?_
  refine G_Market_offers hc hw wd_265 (dq tk_Market_addOffer 3 rfl) ?_
  refine lv_aload_n hx hb (dq tk_Market_addOffer 4 rfl) rfl (lv_at hl 1 rfl) ?_
  refine G_Life_person hk1_0 hk1_1 hc hw wd_546 (dq tk_Market_addOffer 5 rfl) ?_
  obtain ⟨c1, hf⟩ := chk_some hf
  obtain ⟨σ1, hσ1, hf⟩ := nm_some hf
  refine AS_Market_offered hc hw c1 hσ1 (dq tk_Market_addOffer 6 rfl) (fun H locs hw => ?_)
  refine lv_aload_n hx hb (dq tk_Market_addOffer 7 rfl) rfl (lv_at hl 0 rfl) ?_
  refine G_Market_vacancy hc hw wd_258 (dq tk_Market_addOffer 8 rfl) ?_
  refine lv_aload_n hx hb (dq tk_Market_addOffer 9 rfl) rfl (lv_at hl 0 rfl) ?_
  refine G_Market_offers hc hw wd_265 (dq tk_Market_addOffer 10 rfl) ?_
  refine lv_iload_n hx hb (dq tk_Market_addOffer 11 rfl) rfl (lv_at hl 2 rfl) ?_
  obtain ⟨c2, hf⟩ := chk_some hf
  obtain ⟨σ2, hσ2, hf⟩ := nm_some hf
  refine AS_Market_vacancy hc hw c2 hσ2 (dq tk_Market_addOffer 12 rfl) (fun H locs hw => ?_)
  refine lv_aload_n hx hb (dq tk_Market_addOffer 13 rfl) rfl (lv_at hl 0 rfl) ?_
  refine G_Market_objection hc hw wd_261 (dq tk_Market_addOffer 14 rfl) ?_
  refine lv_aload_n hx hb (dq tk_Market_addOffer 15 rfl) rfl (lv_at hl 0 rfl) ?_
  refine G_Market_offers hc hw wd_265 (dq tk_Market_addOffer 16 rfl) ?_
  refine lv_aload_n hx hb (dq tk_Market_addOffer 17 rfl) rfl (lv_at hl 0 rfl) ?_
  refine lv_aload_n hx hb (dq tk_Market_addOffer 18 rfl) rfl (lv_at hl 1 rfl) ?_
  refine lv_iload_n hx hb (dq tk_Market_addOffer 19 rfl) rfl (lv_at hl 2 rfl) ?_
  refine lv_iload_n hx hb (dq tk_Market_addOffer 20 rfl) rfl (lv_at hl 3 rfl) ?_
  obtain ⟨r3, σ4, h21, hf⟩ := bnd_some hf
  refine K_Market_objectionTo hc hw hk1_0 hk1_1 wd_950 h21 (hR.mono (by decide)) ⟨Nat.zero_le _, Nat.zero_le _⟩ hl.1 (Nat.le_of_ble_eq_true rfl) (dq tk_Market_addOffer 21 rfl) (fun H locs hw _ => ?_)
  obtain ⟨c3, hf⟩ := chk_some hf
  obtain ⟨σ5, hσ5, hf⟩ := nm_some hf
  refine AS_Market_objection hc hw c3 hσ5 (dq tk_Market_addOffer 22 rfl) (fun H locs hw => ?_)
  refine lv_aload_n hx hb (dq tk_Market_addOffer 23 rfl) rfl (lv_at hl 0 rfl) ?_
  refine G_Market_fate hc hw wd_263 (dq tk_Market_addOffer 24 rfl) ?_
  refine lv_aload_n hx hb (dq tk_Market_addOffer 25 rfl) rfl (lv_at hl 0 rfl) ?_
  refine G_Market_offers hc hw wd_265 (dq tk_Market_addOffer 26 rfl) ?_
  refine lv_iconst (v := 0) hx hb (dq tk_Market_addOffer 27 rfl) (by decide) ?_
  obtain ⟨c4, hf⟩ := chk_some hf
  obtain ⟨σ6, hσ6, hf⟩ := nm_some hf
  refine AS_Market_fate hc hw c4 hσ6 (dq tk_Market_addOffer 28 rfl) (fun H locs hw => ?_)
  refine lv_aload_n hx hb (dq tk_Market_addOffer 29 rfl) rfl (lv_at hl 0 rfl) ?_
  refine lv_dup hx hb (dq tk_Market_addOffer 30 rfl) rfl ?_
  refine G_Market_offers hc hw wd_265 (dq tk_Market_addOffer 31 rfl) ?_
  refine lv_iconst (v := 1) hx hb (dq tk_Market_addOffer 32 rfl) (by decide) ?_
  refine lv_iadd hx hb (dq tk_Market_addOffer 33 rfl) ?_
  obtain ⟨σ7, hσ7, hf⟩ := nm_some hf
  refine P_Market_offers hc hw wd_265 hσ7 (dq tk_Market_addOffer 34 rfl) (fun H locs hw => ?_)
  refine lv_aload_n hx hb (dq tk_Market_addOffer 35 rfl) rfl (lv_at hl 0 rfl) ?_
  refine G_Market_offers hc hw wd_265 (dq tk_Market_addOffer 36 rfl) ?_
  refine lv_iconst (v := 1) hx hb (dq tk_Market_addOffer 37 rfl) (by decide) ?_
  refine lv_isub hx hb (dq tk_Market_addOffer 38 rfl) ?_
  cases hf
  exact x_iret hc hw hr (dq tk_Market_addOffer 39 rfl)
theorem c_Market_addOffer {N : Nat} {k1_0 k1_1 : Nat}  {x2 : Int32} {x3 : Int32} {rv : Int32} {σ' : St} {σ : St} (hk1_0 : k1_0 < 2) (hk1_1 : k1_1 < 20) (hf : fMarket_addOffer N k1_0 k1_1 x2 x3 σ = some (rv, σ')) : Ct l Z y_Market_addOffer prog_9_method_6_code 4 (some .int) (rmo (4)) [.ref (Z.1 + 33), .ref (Z.1 + (279 + 187 * k1_0 + 5 * k1_1)), .int x2, .int x3] (cmb σ μ) (some (.int rv)) True (cmb σ' μ) := by
  refine x_met (by decide) (Nat.le_of_ble_eq_true rfl) (fun p e s m args below meth c ls hc hr hw hl => ?_)
  exact w_Market_addOffer hc hr RO.self hk1_0 hk1_1 hw hl hf
theorem K_Market_addOffer {idx : Nat} {N : Nat} {k1_0 k1_1 : Nat}  {x2 : Int32} {x3 : Int32} {rv : Int32} {σ' : St} {σ : St} (hc : Cxz p s m meth c args cc own nL Z) (hw : Wd Z (cmb σ μ) s H locs) (hk1_0 : k1_0 < 2) (hk1_1 : k1_1 < 20) (hl : Cond.methodLink own idx y_Market_addOffer ∈ TB) (hf : fMarket_addOffer N k1_0 k1_1 x2 x3 σ = some (rv, σ')) (hR : RO R ((4) + 1)) (hcs : cells ≤ R.cells ∧ slots ≤ R.slots) (hls : ls.size = nL) (hst : (rest.map fun v => v.category).sum ≤ 8) (hdg : decode cc pc = .ok (.invokevirtual idx, 3)) (kk : ∀ (H1 : Heap) (locs1 : List Loc), Wd Z (cmb σ' μ) s H1 locs1 → True → W p l e R s m args below meth c H1 locs1 cells slots Q (F0 m (pc + 3) ls (.int rv :: rest))) : W p l e R s m args below meth c H locs cells slots Q (F0 m pc ls (.int x3 :: .int x2 :: .ref (Z.1 + (279 + 187 * k1_0 + 5 * k1_1)) :: .ref (Z.1 + 33) :: rest)) :=
  x_iv hc hw (c_Market_addOffer hk1_0 hk1_1 hf) yv_Market_addOffer (Nat.le_of_ble_eq_true rfl) rfl rfl hl (RO.call hR (by decide)) hcs rfl hls hst hdg rfl kk
set_option maxRecDepth 10000 in
theorem w_Law_forget {N : Nat} {kv : Nat} (hc : Cxz p s m meth c args prog_7_method_2_code "LabourExchange$Law" 1 Z) (hr : meth.sig.returnType = none) (hR : RO R 0) (hkv : kv < 2) {σ' : St} : ∀ {σ : St} {H : Heap} {locs : List Loc} {ls : Array Slot}, Wd Z (cmb σ μ) s H locs → lv_has ls 1 [(0, .ref (Z.1 + (197 + 187 * kv)))] → fLaw_forget N kv σ = some σ' → W p l e R s m args below meth c H locs 0 0 (MQ below (Qr Z none True (cmb σ' μ)) args s 0 0 (fun q => Z.1 ≤ q)) (F0 m 0 ls []) := by
  have hx := hc.hx
  have hb := hc.hb
  intro σ H locs ls hw hl hf
  unfold fLaw_forget at hf
  refine lv_aload_n hx hb (dq tk_Law_forget 0 rfl) rfl (lv_at hl 0 rfl) ?_
  refine lv_iconst (v := (-1)) hx hb (dq tk_Law_forget 1 rfl) (by decide) ?_
  obtain ⟨σ1, hσ1, hf⟩ := nm_some hf
  refine P_Law_size hkv hc hw wd_496 hσ1 (dq tk_Law_forget 2 rfl) (fun H locs hw => ?_)
  cases hf
  exact x_vret hc hw hr (dq tk_Law_forget 3 rfl)
theorem c_Law_forget {N : Nat} {kv : Nat}  {σ' : St} {σ : St} (hkv : kv < 2) (hf : fLaw_forget N kv σ = some σ') : Ct l Z y_Law_forget prog_7_method_2_code 1 none (rmo (0)) [.ref (Z.1 + (197 + 187 * kv))] (cmb σ μ) none True (cmb σ' μ) := by
  refine x_met (by decide) (Nat.le_of_ble_eq_true rfl) (fun p e s m args below meth c ls hc hr hw hl => ?_)
  exact w_Law_forget hc hr RO.self hkv hw hl hf
theorem K_Law_forget {idx : Nat} {N : Nat} {kv : Nat}  {σ' : St} {σ : St} (hc : Cxz p s m meth c args cc own nL Z) (hw : Wd Z (cmb σ μ) s H locs) (hkv : kv < 2) (hl : Cond.methodLink own idx y_Law_forget ∈ TB) (hf : fLaw_forget N kv σ = some σ') (hR : RO R ((0) + 1)) (hcs : cells ≤ R.cells ∧ slots ≤ R.slots) (hls : ls.size = nL) (hst : (rest.map fun v => v.category).sum ≤ 8) (hdg : decode cc pc = .ok (.invokevirtual idx, 3)) (kk : ∀ (H1 : Heap) (locs1 : List Loc), Wd Z (cmb σ' μ) s H1 locs1 → True → W p l e R s m args below meth c H1 locs1 cells slots Q (F0 m (pc + 3) ls rest)) : W p l e R s m args below meth c H locs cells slots Q (F0 m pc ls (.ref (Z.1 + (197 + 187 * kv)) :: rest)) :=
  x_iv hc hw (c_Law_forget hkv hf) yv_Law_forget (wd_view (r := 5) hkv (by decide) (by omega)).1 (wd_view (r := 5) hkv (by decide) (by omega)).2 rfl hl (RO.call hR (by decide)) hcs rfl hls hst hdg rfl kk
set_option maxRecDepth 10000 in
theorem w_Market_openVacancies_27 {N : Nat} (hc : Cxz p s m meth c args prog_9_method_3_code "LabourExchange$Market" 3 Z) (hr : meth.sig.returnType = (some .int)) (hR : RO R 0) {rv : Int32} {σ : St} {go4 : Int32 → Int32 → St → Option Int32} (hgo4 : ∀ {x1 : Int32} {x2 : Int32} {H : Heap} {locs : List Loc} {ls : Array Slot}, Wd Z (cmb σ μ) s H locs → lv_has ls 3 [(0, .ref (Z.1 + 33)), (1, .int x1), (2, .int x2)] → go4 x1 x2 σ = some rv → W p l e R s m args below meth c H locs 0 0 (MQ below (Qr Z (some (.int rv)) True (cmb σ μ)) args s 0 0 (fun q => Z.1 ≤ q)) (F0 m 4 ls [])) : ∀ {x2 : Int32} {s0 : Int32} {s1 : Int32} {H : Heap} {locs : List Loc} {ls : Array Slot}, Wd Z (cmb σ μ) s H locs → lv_has ls 3 [(0, .ref (Z.1 + 33)), (2, .int x2)] → fMarket_openVacancies_27 N go4 x2 s0 s1 σ = some rv → W p l e R s m args below meth c H locs 0 0 (MQ below (Qr Z (some (.int rv)) True (cmb σ μ)) args s 0 0 (fun q => Z.1 ≤ q)) (F0 m 27 ls [.int s1, .int s0]) := by
  have hx := hc.hx
  have hb := hc.hb
  intro x2 s0 s1 H locs ls hw hl hf
  unfold fMarket_openVacancies_27 at hf
  refine lv_iadd hx hb (dq tk_Market_openVacancies 17 rfl) ?_
  obtain ⟨y1, hy1, hf⟩ := nm_some hf
  refine tst (congrArg Value.int hy1) ?_
  refine lv_istore_n (lv' := [(1, .int y1), (0, .ref (Z.1 + 33)), (2, .int x2)]) hx hb (dq tk_Market_openVacancies 18 rfl) rfl hl (by decide) rfl (fun ls hl => ?_)
  refine lv_iinc (v := (x2 + 1)) (lv' := [(2, .int (x2 + 1)), (1, .int y1), (0, .ref (Z.1 + 33))]) hx hb (dq tk_Market_openVacancies 19 rfl) hl (k := 2) rfl rfl (by decide) rfl (fun ls hl => ?_)
  refine lv_goto (tgt := 4) hx hb (dq tk_Market_openVacancies 20 rfl) (by decide) ?_
  exact hgo4 hw (lv_sub hl [2, 1, 0] rfl) hf
set_option maxRecDepth 10000 in
theorem w_Market_openVacancies_4 {N : Nat} (hc : Cxz p s m meth c args prog_9_method_3_code "LabourExchange$Market" 3 Z) (hr : meth.sig.returnType = (some .int)) (hR : RO R 0) {rv : Int32} {σ : St} (n : Nat) : ∀ {x1 : Int32} {x2 : Int32} {H : Heap} {locs : List Loc} {ls : Array Slot}, Wd Z (cmb σ μ) s H locs → lv_has ls 3 [(0, .ref (Z.1 + 33)), (1, .int x1), (2, .int x2)] → fMarket_openVacancies_4 N n x1 x2 σ = some rv → W p l e R s m args below meth c H locs 0 0 (MQ below (Qr Z (some (.int rv)) True (cmb σ μ)) args s 0 0 (fun q => Z.1 ≤ q)) (F0 m 4 ls []) := by
  have hx := hc.hx
  have hb := hc.hb
  induction n with
  | zero =>
    intro x1 x2 H locs ls hw hl hf
    have hf : none = some _ := hf
    cases hf
  | succ n ih =>
    intro x1 x2 H locs ls hw hl hf
    unfold fMarket_openVacancies_4 at hf
    refine lv_iload_n hx hb (dq tk_Market_openVacancies 4 rfl) rfl (lv_at hl 2 rfl) ?_
    refine lv_aload_n hx hb (dq tk_Market_openVacancies 5 rfl) rfl (lv_at hl 0 rfl) ?_
    refine G_Market_vacancies hc hw wd_254 (dq tk_Market_openVacancies 6 rfl) ?_
    refine lv_icmp_ge (tgt := 35) hx hb (dq tk_Market_openVacancies 7 rfl) (by decide) (fun c1 => ?_) (fun c1 => ?_)
    · replace hf := if_t hf c1
      refine lv_iload_n hx hb (dq tk_Market_openVacancies 21 rfl) rfl (lv_at hl 1 rfl) ?_
      cases hf
      exact x_iret hc hw hr (dq tk_Market_openVacancies 22 rfl)
    · replace hf := if_f hf c1
      refine lv_iload_n hx hb (dq tk_Market_openVacancies 8 rfl) rfl (lv_at hl 1 rfl) ?_
      refine lv_aload_n hx hb (dq tk_Market_openVacancies 9 rfl) rfl (lv_at hl 0 rfl) ?_
      refine G_Market_filled hc hw wd_252 (dq tk_Market_openVacancies 10 rfl) ?_
      refine lv_iload_n hx hb (dq tk_Market_openVacancies 11 rfl) rfl (lv_at hl 2 rfl) ?_
      obtain ⟨c2, hf⟩ := chk_some hf
      refine AL_Market_filled hc hw c2 (dq tk_Market_openVacancies 12 rfl) ?_
      refine lv_if_eq (tgt := 26) hx hb (dq tk_Market_openVacancies 13 rfl) (by decide) (fun c3 => ?_) (fun c3 => ?_)
      · replace hf := if_t hf c3
        refine lv_iconst (v := 1) hx hb (dq tk_Market_openVacancies 16 rfl) (by decide) ?_
        exact w_Market_openVacancies_27 hc hr hR ih hw (lv_sub hl [0, 2] rfl) hf
      · replace hf := if_f hf c3
        refine lv_iconst (v := 0) hx hb (dq tk_Market_openVacancies 14 rfl) (by decide) ?_
        refine lv_goto (tgt := 27) hx hb (dq tk_Market_openVacancies 15 rfl) (by decide) ?_
        exact w_Market_openVacancies_27 hc hr hR ih hw (lv_sub hl [0, 2] rfl) hf
set_option maxRecDepth 10000 in
theorem w_Market_openVacancies {N : Nat} (hc : Cxz p s m meth c args prog_9_method_3_code "LabourExchange$Market" 3 Z) (hr : meth.sig.returnType = (some .int)) (hR : RO R 0) {rv : Int32} {σ : St} : ∀ {H : Heap} {locs : List Loc} {ls : Array Slot}, Wd Z (cmb σ μ) s H locs → lv_has ls 3 [(0, .ref (Z.1 + 33))] → fMarket_openVacancies N σ = some rv → W p l e R s m args below meth c H locs 0 0 (MQ below (Qr Z (some (.int rv)) True (cmb σ μ)) args s 0 0 (fun q => Z.1 ≤ q)) (F0 m 0 ls []) := by
  have hx := hc.hx
  have hb := hc.hb
  intro H locs ls hw hl hf
  unfold fMarket_openVacancies at hf
  refine lv_iconst (v := 0) hx hb (dq tk_Market_openVacancies 0 rfl) (by decide) ?_
  refine lv_istore_n (lv' := [(1, .int 0), (0, .ref (Z.1 + 33))]) hx hb (dq tk_Market_openVacancies 1 rfl) rfl hl (by decide) rfl (fun ls hl => ?_)
  refine lv_iconst (v := 0) hx hb (dq tk_Market_openVacancies 2 rfl) (by decide) ?_
  refine lv_istore_n (lv' := [(2, .int 0), (1, .int 0), (0, .ref (Z.1 + 33))]) hx hb (dq tk_Market_openVacancies 3 rfl) rfl hl (by decide) rfl (fun ls hl => ?_)
  exact w_Market_openVacancies_4 hc hr hR N hw (lv_sub hl [2, 1, 0] rfl) hf
theorem c_Market_openVacancies {N : Nat}  {rv : Int32} {σ : St} (hf : fMarket_openVacancies N σ = some rv) : Ct l Z y_Market_openVacancies prog_9_method_3_code 3 (some .int) (rmo (0)) [.ref (Z.1 + 33)] (cmb σ μ) (some (.int rv)) True (cmb σ μ) := by
  refine x_met (by decide) (Nat.le_of_ble_eq_true rfl) (fun p e s m args below meth c ls hc hr hw hl => ?_)
  exact w_Market_openVacancies hc hr RO.self hw hl hf
theorem K_Market_openVacancies {idx : Nat} {N : Nat}  {rv : Int32} {σ : St} (hc : Cxz p s m meth c args cc own nL Z) (hw : Wd Z (cmb σ μ) s H locs) (hl : Cond.methodLink own idx y_Market_openVacancies ∈ TB) (hf : fMarket_openVacancies N σ = some rv) (hR : RO R ((0) + 1)) (hcs : cells ≤ R.cells ∧ slots ≤ R.slots) (hls : ls.size = nL) (hst : (rest.map fun v => v.category).sum ≤ 8) (hdg : decode cc pc = .ok (.invokevirtual idx, 3)) (kk : ∀ (H1 : Heap) (locs1 : List Loc), Wd Z (cmb σ μ) s H1 locs1 → True → W p l e R s m args below meth c H1 locs1 cells slots Q (F0 m (pc + 3) ls (.int rv :: rest))) : W p l e R s m args below meth c H locs cells slots Q (F0 m pc ls (.ref (Z.1 + 33) :: rest)) :=
  x_iv hc hw (c_Market_openVacancies hf) yv_Market_openVacancies (Nat.le_of_ble_eq_true rfl) rfl rfl hl (RO.call hR (by decide)) hcs rfl hls hst hdg rfl kk
set_option maxRecDepth 10000 in
theorem w_Market_addVacancy {N : Nat} (hc : Cxz p s m meth c args prog_9_method_2_code "LabourExchange$Market" 6 Z) (hr : meth.sig.returnType = (some .int)) (hR : RO R 0) {rv : Int32} {σ' : St} : ∀ {x1 : Int32} {x2 : Int32} {x3 : Int32} {x4 : Int32} {x5 : Int32} {σ : St} {H : Heap} {locs : List Loc} {ls : Array Slot}, Wd Z (cmb σ μ) s H locs → lv_has ls 6 [(0, .ref (Z.1 + 33)), (1, .int x1), (2, .int x2), (3, .int x3), (4, .int x4), (5, .int x5)] → fMarket_addVacancy N x1 x2 x3 x4 x5 σ = some (rv, σ') → W p l e R s m args below meth c H locs 0 0 (MQ below (Qr Z (some (.int rv)) True (cmb σ' μ)) args s 0 0 (fun q => Z.1 ≤ q)) (F0 m 0 ls []) := by
  have hx := hc.hx
  have hb := hc.hb
  intro x1 x2 x3 x4 x5 σ H locs ls hw hl hf
  unfold fMarket_addVacancy at hf
  refine lv_aload_n hx hb (dq tk_Market_addVacancy 0 rfl) rfl (lv_at hl 0 rfl) ?_
  refine G_Market_office hc hw wd_246 (dq tk_Market_addVacancy 1 rfl) ?_
  refine lv_aload_n hx hb (dq tk_Market_addVacancy 2 rfl) rfl (lv_at hl 0 rfl) ?_
  refine G_Market_vacancies hc hw wd_254 (dq tk_Market_addVacancy 3 rfl) ?_
  refine lv_iload_n hx hb (dq tk_Market_addVacancy 4 rfl) rfl (lv_at hl 1 rfl) ?_
  obtain ⟨c1, hf⟩ := chk_some hf
  obtain ⟨σ1, hσ1, hf⟩ := nm_some hf
  refine AS_Market_office hc hw c1 hσ1 (dq tk_Market_addVacancy 5 rfl) (fun H locs hw => ?_)
  refine lv_aload_n hx hb (dq tk_Market_addVacancy 6 rfl) rfl (lv_at hl 0 rfl) ?_
  refine G_Market_trade hc hw wd_247 (dq tk_Market_addVacancy 7 rfl) ?_
  refine lv_aload_n hx hb (dq tk_Market_addVacancy 8 rfl) rfl (lv_at hl 0 rfl) ?_
  refine G_Market_vacancies hc hw wd_254 (dq tk_Market_addVacancy 9 rfl) ?_
  refine lv_iload_n hx hb (dq tk_Market_addVacancy 10 rfl) rfl (lv_at hl 2 rfl) ?_
  obtain ⟨c2, hf⟩ := chk_some hf
  obtain ⟨σ2, hσ2, hf⟩ := nm_some hf
  refine AS_Market_trade hc hw c2 hσ2 (dq tk_Market_addVacancy 11 rfl) (fun H locs hw => ?_)
  refine lv_aload_n hx hb (dq tk_Market_addVacancy 12 rfl) rfl (lv_at hl 0 rfl) ?_
  refine G_Market_wage hc hw wd_248 (dq tk_Market_addVacancy 13 rfl) ?_
  refine lv_aload_n hx hb (dq tk_Market_addVacancy 14 rfl) rfl (lv_at hl 0 rfl) ?_
  refine G_Market_vacancies hc hw wd_254 (dq tk_Market_addVacancy 15 rfl) ?_
  refine lv_iload_n hx hb (dq tk_Market_addVacancy 16 rfl) rfl (lv_at hl 3 rfl) ?_
  obtain ⟨c3, hf⟩ := chk_some hf
  obtain ⟨σ3, hσ3, hf⟩ := nm_some hf
  refine AS_Market_wage hc hw c3 hσ3 (dq tk_Market_addVacancy 17 rfl) (fun H locs hw => ?_)
  refine lv_aload_n hx hb (dq tk_Market_addVacancy 18 rfl) rfl (lv_at hl 0 rfl) ?_
  refine G_Market_worth hc hw wd_250 (dq tk_Market_addVacancy 19 rfl) ?_
  refine lv_aload_n hx hb (dq tk_Market_addVacancy 20 rfl) rfl (lv_at hl 0 rfl) ?_
  refine G_Market_vacancies hc hw wd_254 (dq tk_Market_addVacancy 21 rfl) ?_
  refine lv_iload hx hb (dq tk_Market_addVacancy 22 rfl) (lv_at hl 4 rfl) ?_
  obtain ⟨c4, hf⟩ := chk_some hf
  obtain ⟨σ4, hσ4, hf⟩ := nm_some hf
  refine AS_Market_worth hc hw c4 hσ4 (dq tk_Market_addVacancy 23 rfl) (fun H locs hw => ?_)
  refine lv_aload_n hx hb (dq tk_Market_addVacancy 24 rfl) rfl (lv_at hl 0 rfl) ?_
  refine G_Market_since hc hw wd_251 (dq tk_Market_addVacancy 25 rfl) ?_
  refine lv_aload_n hx hb (dq tk_Market_addVacancy 26 rfl) rfl (lv_at hl 0 rfl) ?_
  refine G_Market_vacancies hc hw wd_254 (dq tk_Market_addVacancy 27 rfl) ?_
  refine lv_iload hx hb (dq tk_Market_addVacancy 28 rfl) (lv_at hl 5 rfl) ?_
  obtain ⟨c5, hf⟩ := chk_some hf
  obtain ⟨σ5, hσ5, hf⟩ := nm_some hf
  refine AS_Market_since hc hw c5 hσ5 (dq tk_Market_addVacancy 29 rfl) (fun H locs hw => ?_)
  refine lv_aload_n hx hb (dq tk_Market_addVacancy 30 rfl) rfl (lv_at hl 0 rfl) ?_
  refine lv_dup hx hb (dq tk_Market_addVacancy 31 rfl) rfl ?_
  refine G_Market_vacancies hc hw wd_254 (dq tk_Market_addVacancy 32 rfl) ?_
  refine lv_iconst (v := 1) hx hb (dq tk_Market_addVacancy 33 rfl) (by decide) ?_
  refine lv_iadd hx hb (dq tk_Market_addVacancy 34 rfl) ?_
  obtain ⟨σ6, hσ6, hf⟩ := nm_some hf
  refine P_Market_vacancies hc hw wd_254 hσ6 (dq tk_Market_addVacancy 35 rfl) (fun H locs hw => ?_)
  refine lv_aload_n hx hb (dq tk_Market_addVacancy 36 rfl) rfl (lv_at hl 0 rfl) ?_
  refine G_Market_vacancies hc hw wd_254 (dq tk_Market_addVacancy 37 rfl) ?_
  refine lv_iconst (v := 1) hx hb (dq tk_Market_addVacancy 38 rfl) (by decide) ?_
  refine lv_isub hx hb (dq tk_Market_addVacancy 39 rfl) ?_
  cases hf
  exact x_iret hc hw hr (dq tk_Market_addVacancy 40 rfl)
theorem c_Market_addVacancy {N : Nat}  {x1 : Int32} {x2 : Int32} {x3 : Int32} {x4 : Int32} {x5 : Int32} {rv : Int32} {σ' : St} {σ : St} (hf : fMarket_addVacancy N x1 x2 x3 x4 x5 σ = some (rv, σ')) : Ct l Z y_Market_addVacancy prog_9_method_2_code 6 (some .int) (rmo (0)) [.ref (Z.1 + 33), .int x1, .int x2, .int x3, .int x4, .int x5] (cmb σ μ) (some (.int rv)) True (cmb σ' μ) := by
  refine x_met (by decide) (Nat.le_of_ble_eq_true rfl) (fun p e s m args below meth c ls hc hr hw hl => ?_)
  exact w_Market_addVacancy hc hr RO.self hw hl hf
theorem K_Market_addVacancy {idx : Nat} {N : Nat}  {x1 : Int32} {x2 : Int32} {x3 : Int32} {x4 : Int32} {x5 : Int32} {rv : Int32} {σ' : St} {σ : St} (hc : Cxz p s m meth c args cc own nL Z) (hw : Wd Z (cmb σ μ) s H locs) (hl : Cond.methodLink own idx y_Market_addVacancy ∈ TB) (hf : fMarket_addVacancy N x1 x2 x3 x4 x5 σ = some (rv, σ')) (hR : RO R ((0) + 1)) (hcs : cells ≤ R.cells ∧ slots ≤ R.slots) (hls : ls.size = nL) (hst : (rest.map fun v => v.category).sum ≤ 8) (hdg : decode cc pc = .ok (.invokevirtual idx, 3)) (kk : ∀ (H1 : Heap) (locs1 : List Loc), Wd Z (cmb σ' μ) s H1 locs1 → True → W p l e R s m args below meth c H1 locs1 cells slots Q (F0 m (pc + 3) ls (.int rv :: rest))) : W p l e R s m args below meth c H locs cells slots Q (F0 m pc ls (.int x5 :: .int x4 :: .int x3 :: .int x2 :: .int x1 :: .ref (Z.1 + 33) :: rest)) :=
  x_iv hc hw (c_Market_addVacancy hf) yv_Market_addVacancy (Nat.le_of_ble_eq_true rfl) rfl rfl hl (RO.call hR (by decide)) hcs rfl hls hst hdg rfl kk
set_option maxRecDepth 10000 in
theorem w_Market_gainOf {N : Nat} {k1_0 k1_1 : Nat} (hc : Cxz p s m meth c args prog_9_method_9_code "LabourExchange$Market" 5 Z) (hr : meth.sig.returnType = (some .int)) (hR : RO R 4) (hk1_0 : k1_0 < 2) (hk1_1 : k1_1 < 20) {rv : Int32} {σ' : St} : ∀ {x2 : Int32} {x3 : Int32} {σ : St} {H : Heap} {locs : List Loc} {ls : Array Slot}, Wd Z (cmb σ μ) s H locs → lv_has ls 5 [(0, .ref (Z.1 + 33)), (1, .ref (Z.1 + (279 + 187 * k1_0 + 5 * k1_1))), (2, .int x2), (3, .int x3)] → fMarket_gainOf N k1_0 k1_1 x2 x3 σ = some (rv, σ') → W p l e R s m args below meth c H locs 0 0 (MQ below (Qr Z (some (.int rv)) True (cmb σ' μ)) args s 0 0 (fun q => Z.1 ≤ q)) (F0 m 0 ls []) := by
  have hx := hc.hx
  have hb := hc.hb
  intro x2 x3 σ H locs ls hw hl hf
  unfold fMarket_gainOf at hf
  refine lv_aload_n hx hb (dq tk_Market_gainOf 0 rfl) rfl (lv_at hl 0 rfl) ?_
  refine G_Market_worth hc hw wd_250 (dq tk_Market_gainOf 1 rfl) ?_
  refine lv_iload_n hx hb (dq tk_Market_gainOf 2 rfl) rfl (lv_at hl 2 rfl) ?_
  obtain ⟨c1, hf⟩ := chk_some hf
  refine AL_Market_worth hc hw c1 (dq tk_Market_gainOf 3 rfl) ?_
  refine lv_aload_n hx hb (dq tk_Market_gainOf 4 rfl) rfl (lv_at hl 0 rfl) ?_
  refine G_Market_land hc hw wd_245 (dq tk_Market_gainOf 5 rfl) ?_
  refine lv_aload_n hx hb (dq tk_Market_gainOf 6 rfl) rfl (lv_at hl 0 rfl) ?_
  refine G_Market_land hc hw wd_245 (dq tk_Market_gainOf 7 rfl) ?_
  refine G_Land_office hc hw wd_98 (dq tk_Market_gainOf 8 rfl) ?_
  refine lv_aload_n hx hb (dq tk_Market_gainOf 9 rfl) rfl (lv_at hl 1 rfl) ?_
  refine G_Life_person hk1_0 hk1_1 hc hw wd_546 (dq tk_Market_gainOf 10 rfl) ?_
  obtain ⟨c2, hf⟩ := chk_some hf
  refine AL_Land_office hc hw c2 (dq tk_Market_gainOf 11 rfl) ?_
  refine lv_aload_n hx hb (dq tk_Market_gainOf 12 rfl) rfl (lv_at hl 0 rfl) ?_
  refine G_Market_office hc hw wd_246 (dq tk_Market_gainOf 13 rfl) ?_
  refine lv_iload_n hx hb (dq tk_Market_gainOf 14 rfl) rfl (lv_at hl 2 rfl) ?_
  refine AL_Market_office hc hw c1 (dq tk_Market_gainOf 15 rfl) ?_
  obtain ⟨r1, h16, hf⟩ := bn1_someZ hf
  refine K_Land_miles hc hw wd_909 h16 (hR.mono (by decide)) ⟨Nat.zero_le _, Nat.zero_le _⟩ hl.1 (Nat.le_of_ble_eq_true rfl) (dq tk_Market_gainOf 16 rfl) (fun H locs hw _ => ?_)
  refine lv_bipush (v := 10) hx hb (dq tk_Market_gainOf 17 rfl) (by decide) ?_
  refine lv_idiv hx hb (dq tk_Market_gainOf 18 rfl) (by decide) ?_
  refine lv_isub hx hb (dq tk_Market_gainOf 19 rfl) ?_
  obtain ⟨y2, hy2, hf⟩ := nm_some hf
  refine tst (congrArg Value.int hy2) ?_
  refine lv_istore (lv' := [(4, .int y2), (0, .ref (Z.1 + 33)), (1, .ref (Z.1 + (279 + 187 * k1_0 + 5 * k1_1))), (2, .int x2), (3, .int x3)]) hx hb (dq tk_Market_gainOf 20 rfl) hl (by decide) rfl (fun ls hl => ?_)
  refine lv_iload hx hb (dq tk_Market_gainOf 21 rfl) (lv_at hl 0 rfl) ?_
  refine lv_if_le (tgt := 55) hx hb (dq tk_Market_gainOf 22 rfl) (by decide) (fun c3 => ?_) (fun c3 => ?_)
  · replace hf := if_t hf c3
    refine lv_iconst (v := 0) hx hb (dq tk_Market_gainOf 30 rfl) (by decide) ?_
    cases hf
    exact x_iret hc hw hr (dq tk_Market_gainOf 31 rfl)
  · replace hf := if_f hf c3
    refine lv_aload_n hx hb (dq tk_Market_gainOf 23 rfl) rfl (lv_at hl 1 rfl) ?_
    refine lv_aload_n hx hb (dq tk_Market_gainOf 24 rfl) rfl (lv_at hl 2 rfl) ?_
    refine G_Life_person hk1_0 hk1_1 hc hw wd_546 (dq tk_Market_gainOf 25 rfl) ?_
    refine lv_iload_n hx hb (dq tk_Market_gainOf 26 rfl) rfl (lv_at hl 3 rfl) ?_
    refine lv_iload_n hx hb (dq tk_Market_gainOf 27 rfl) rfl (lv_at hl 4 rfl) ?_
    obtain ⟨r3, h28, hf⟩ := bn1_someZ hf
    refine K_Market_isOpenTo hc hw wd_942 h28 (hR.mono (by decide)) ⟨Nat.zero_le _, Nat.zero_le _⟩ hl.1 (Nat.le_of_ble_eq_true rfl) (dq tk_Market_gainOf 28 rfl) (fun H locs hw _ => ?_)
    refine lv_if_ne (tgt := 57) hx hb (dq tk_Market_gainOf 29 rfl) (by decide) (fun c4 => ?_) (fun c4 => ?_)
    · replace hf := if_f hf c4
      refine lv_aload_n hx hb (dq tk_Market_gainOf 32 rfl) rfl (lv_at hl 1 rfl) ?_
      refine lv_aload_n hx hb (dq tk_Market_gainOf 33 rfl) rfl (lv_at hl 2 rfl) ?_
      refine lv_iload_n hx hb (dq tk_Market_gainOf 34 rfl) rfl (lv_at hl 3 rfl) ?_
      refine lv_iload_n hx hb (dq tk_Market_gainOf 35 rfl) rfl (lv_at hl 4 rfl) ?_
      obtain ⟨r4, σ5, h36, hf⟩ := bnd_some hf
      refine K_Market_objectionTo hc hw hk1_0 hk1_1 wd_950 h36 (hR.mono (by decide)) ⟨Nat.zero_le _, Nat.zero_le _⟩ hl.1 (Nat.le_of_ble_eq_true rfl) (dq tk_Market_gainOf 36 rfl) (fun H locs hw _ => ?_)
      refine lv_iconst (v := (-1)) hx hb (dq tk_Market_gainOf 37 rfl) (by decide) ?_
      refine lv_icmp_ne (tgt := 73) hx hb (dq tk_Market_gainOf 38 rfl) (by decide) (fun c5 => ?_) (fun c5 => ?_)
      · replace hf := if_f hf c5
        refine lv_iconst (v := 0) hx hb (dq tk_Market_gainOf 41 rfl) (by decide) ?_
        cases hf
        exact x_iret hc hw hr (dq tk_Market_gainOf 42 rfl)
      · replace hf := if_t hf c5
        refine lv_iload hx hb (dq tk_Market_gainOf 39 rfl) (lv_at hl 0 rfl) ?_
        refine lv_goto (tgt := 74) hx hb (dq tk_Market_gainOf 40 rfl) (by decide) ?_
        cases hf
        exact x_iret hc hw hr (dq tk_Market_gainOf 42 rfl)
    · replace hf := if_t hf c4
      refine lv_iconst (v := 0) hx hb (dq tk_Market_gainOf 30 rfl) (by decide) ?_
      cases hf
      exact x_iret hc hw hr (dq tk_Market_gainOf 31 rfl)
theorem c_Market_gainOf {N : Nat} {k1_0 k1_1 : Nat}  {x2 : Int32} {x3 : Int32} {rv : Int32} {σ' : St} {σ : St} (hk1_0 : k1_0 < 2) (hk1_1 : k1_1 < 20) (hf : fMarket_gainOf N k1_0 k1_1 x2 x3 σ = some (rv, σ')) : Ct l Z y_Market_gainOf prog_9_method_9_code 5 (some .int) (rmo (4)) [.ref (Z.1 + 33), .ref (Z.1 + (279 + 187 * k1_0 + 5 * k1_1)), .int x2, .int x3] (cmb σ μ) (some (.int rv)) True (cmb σ' μ) := by
  refine x_met (by decide) (Nat.le_of_ble_eq_true rfl) (fun p e s m args below meth c ls hc hr hw hl => ?_)
  exact w_Market_gainOf hc hr RO.self hk1_0 hk1_1 hw hl hf
theorem K_Market_gainOf {idx : Nat} {N : Nat} {k1_0 k1_1 : Nat}  {x2 : Int32} {x3 : Int32} {rv : Int32} {σ' : St} {σ : St} (hc : Cxz p s m meth c args cc own nL Z) (hw : Wd Z (cmb σ μ) s H locs) (hk1_0 : k1_0 < 2) (hk1_1 : k1_1 < 20) (hl : Cond.methodLink own idx y_Market_gainOf ∈ TB) (hf : fMarket_gainOf N k1_0 k1_1 x2 x3 σ = some (rv, σ')) (hR : RO R ((4) + 1)) (hcs : cells ≤ R.cells ∧ slots ≤ R.slots) (hls : ls.size = nL) (hst : (rest.map fun v => v.category).sum ≤ 8) (hdg : decode cc pc = .ok (.invokevirtual idx, 3)) (kk : ∀ (H1 : Heap) (locs1 : List Loc), Wd Z (cmb σ' μ) s H1 locs1 → True → W p l e R s m args below meth c H1 locs1 cells slots Q (F0 m (pc + 3) ls (.int rv :: rest))) : W p l e R s m args below meth c H locs cells slots Q (F0 m pc ls (.int x3 :: .int x2 :: .ref (Z.1 + (279 + 187 * k1_0 + 5 * k1_1)) :: .ref (Z.1 + 33) :: rest)) :=
  x_iv hc hw (c_Market_gainOf hk1_0 hk1_1 hf) yv_Market_gainOf (Nat.le_of_ble_eq_true rfl) rfl rfl hl (RO.call hR (by decide)) hcs rfl hls hst hdg rfl kk
end WALK
