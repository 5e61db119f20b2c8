section WALK
variable {p : Program} {l : Launch} {e : Env} {R : Room} {s : State} {m : MethodId} {args : Array Value} {below : List Frame} {meth : Method} {c : Code} {H : Heap} {locs : List Loc} {cells slots : Nat} {Q : State → Prop}
variable {cc : ByteArray} {own : String} {nL : Nat} {Z : ZT} {σ μ ν τ : St} {pc : Nat} {ls : Array Slot} {rest : List Value}
set_option maxRecDepth 10000 in
theorem w_Sending_gather_51 {N : Nat} (hc : Cxz p s m meth c args prog_11_method_3_code "LabourExchange$Sending" 6 Z) (hr : meth.sig.returnType = none) (hR : RO R 0) {σ' : St} {go12 : Int32 → Int32 → Int32 → St → Option St} (hgo12 : ∀ {x1 : Int32} {x2 : Int32} {x3 : Int32} {σ : St} {H : Heap} {locs : List Loc} {ls : Array Slot}, Wd Z (cmb σ μ) s H locs → lv_has ls 6 [(0, .ref (Z.1 + 46)), (1, .int x1), (2, .int x2), (3, .int x3)] → go12 x1 x2 x3 σ = some σ' → W p l e R s m args below meth c H locs 0 0 (MQ below (Qr Z none True (cmb σ' μ)) args s 0 0 (fun q => Z.1 ≤ q)) (F0 m 12 ls [])) {go23 : Int32 → Int32 → Int32 → Int32 → Int32 → St → Option St} (hgo23 : ∀ {x1 : Int32} {x2 : Int32} {x3 : Int32} {x4 : Int32} {x5 : Int32} {σ : St} {H : Heap} {locs : List Loc} {ls : Array Slot}, Wd Z (cmb σ μ) s H locs → lv_has ls 6 [(0, .ref (Z.1 + 46)), (1, .int x1), (2, .int x2), (3, .int x3), (4, .int x4), (5, .int x5)] → go23 x1 x2 x3 x4 x5 σ = some σ' → W p l e R s m args below meth c H locs 0 0 (MQ below (Qr Z none True (cmb σ' μ)) args s 0 0 (fun q => Z.1 ≤ q)) (F0 m 23 ls [])) : ∀ {x1 : Int32} {x2 : Int32} {x3 : Int32} {x5 : Int32} {s0 : Int32} {σ : St} {H : Heap} {locs : List Loc} {ls : Array Slot}, Wd Z (cmb σ μ) s H locs → lv_has ls 6 [(0, .ref (Z.1 + 46)), (1, .int x1), (2, .int x2), (3, .int x3), (5, .int x5)] → fSending_gather_51 N go12 go23 x1 x2 x3 x5 s0 σ = some σ' → W p l e R s m args below meth c H locs 0 0 (MQ below (Qr Z none True (cmb σ' μ)) args s 0 0 (fun q => Z.1 ≤ q)) (F0 m 51 ls [.int s0]) := by
  have hx := hc.hx
  have hb := hc.hb
  intro x1 x2 x3 x5 s0 σ H locs ls hw hl hf
  unfold fSending_gather_51 at hf
  refine lv_istore (lv' := [(4, .int s0), (0, .ref (Z.1 + 46)), (1, .int x1), (2, .int x2), (3, .int x3), (5, .int x5)]) hx hb (dq tk_Sending_gather 30 rfl) hl (by decide) rfl (fun ls hl => ?_)
  refine lv_iinc (v := (x5 + 1)) (lv' := [(5, .int (x5 + 1)), (4, .int s0), (0, .ref (Z.1 + 46)), (1, .int x1), (2, .int x2), (3, .int x3)]) hx hb (dq tk_Sending_gather 31 rfl) hl (k := 5) rfl rfl (by decide) rfl (fun ls hl => ?_)
  refine lv_goto (tgt := 23) hx hb (dq tk_Sending_gather 32 rfl) (by decide) ?_
  exact hgo23 hw (lv_sub hl [2, 3, 4, 5, 1, 0] rfl) hf
set_option maxRecDepth 10000 in
theorem w_Sending_gather_46 {N : Nat} (hc : Cxz p s m meth c args prog_11_method_3_code "LabourExchange$Sending" 6 Z) (hr : meth.sig.returnType = none) (hR : RO R 0) {σ' : St} {go12 : Int32 → Int32 → Int32 → St → Option St} (hgo12 : ∀ {x1 : Int32} {x2 : Int32} {x3 : Int32} {σ : St} {H : Heap} {locs : List Loc} {ls : Array Slot}, Wd Z (cmb σ μ) s H locs → lv_has ls 6 [(0, .ref (Z.1 + 46)), (1, .int x1), (2, .int x2), (3, .int x3)] → go12 x1 x2 x3 σ = some σ' → W p l e R s m args below meth c H locs 0 0 (MQ below (Qr Z none True (cmb σ' μ)) args s 0 0 (fun q => Z.1 ≤ q)) (F0 m 12 ls [])) {go23 : Int32 → Int32 → Int32 → Int32 → Int32 → St → Option St} (hgo23 : ∀ {x1 : Int32} {x2 : Int32} {x3 : Int32} {x4 : Int32} {x5 : Int32} {σ : St} {H : Heap} {locs : List Loc} {ls : Array Slot}, Wd Z (cmb σ μ) s H locs → lv_has ls 6 [(0, .ref (Z.1 + 46)), (1, .int x1), (2, .int x2), (3, .int x3), (4, .int x4), (5, .int x5)] → go23 x1 x2 x3 x4 x5 σ = some σ' → W p l e R s m args below meth c H locs 0 0 (MQ below (Qr Z none True (cmb σ' μ)) args s 0 0 (fun q => Z.1 ≤ q)) (F0 m 23 ls [])) : ∀ {x1 : Int32} {x2 : Int32} {x3 : Int32} {x5 : Int32} {σ : St} {H : Heap} {locs : List Loc} {ls : Array Slot}, Wd Z (cmb σ μ) s H locs → lv_has ls 6 [(0, .ref (Z.1 + 46)), (1, .int x1), (2, .int x2), (3, .int x3), (5, .int x5)] → fSending_gather_46 N go12 go23 x1 x2 x3 x5 σ = some σ' → W p l e R s m args below meth c H locs 0 0 (MQ below (Qr Z none True (cmb σ' μ)) args s 0 0 (fun q => Z.1 ≤ q)) (F0 m 46 ls []) := by
  have hx := hc.hx
  have hb := hc.hb
  intro x1 x2 x3 x5 σ H locs ls hw hl hf
  unfold fSending_gather_46 at hf
  refine lv_iconst (v := 1) hx hb (dq tk_Sending_gather 27 rfl) (by decide) ?_
  refine lv_goto (tgt := 51) hx hb (dq tk_Sending_gather 28 rfl) (by decide) ?_
  exact w_Sending_gather_51 hc hr hR hgo12 hgo23 hw (lv_sub hl [0, 1, 2, 3, 4] rfl) hf
set_option maxRecDepth 10000 in
theorem w_Sending_gather_23 {N : Nat} (hc : Cxz p s m meth c args prog_11_method_3_code "LabourExchange$Sending" 6 Z) (hr : meth.sig.returnType = none) (hR : RO R 0) {σ' : St} {go12 : Int32 → Int32 → Int32 → St → Option St} (hgo12 : ∀ {x1 : Int32} {x2 : Int32} {x3 : Int32} {σ : St} {H : Heap} {locs : List Loc} {ls : Array Slot}, Wd Z (cmb σ μ) s H locs → lv_has ls 6 [(0, .ref (Z.1 + 46)), (1, .int x1), (2, .int x2), (3, .int x3)] → go12 x1 x2 x3 σ = some σ' → W p l e R s m args below meth c H locs 0 0 (MQ below (Qr Z none True (cmb σ' μ)) args s 0 0 (fun q => Z.1 ≤ q)) (F0 m 12 ls [])) (n : Nat) : ∀ {x1 : Int32} {x2 : Int32} {x3 : Int32} {x4 : Int32} {x5 : Int32} {σ : St} {H : Heap} {locs : List Loc} {ls : Array Slot}, Wd Z (cmb σ μ) s H locs → lv_has ls 6 [(0, .ref (Z.1 + 46)), (1, .int x1), (2, .int x2), (3, .int x3), (4, .int x4), (5, .int x5)] → fSending_gather_23 N go12 n x1 x2 x3 x4 x5 σ = some σ' → W p l e R s m args below meth c H locs 0 0 (MQ below (Qr Z none True (cmb σ' μ)) args s 0 0 (fun q => Z.1 ≤ q)) (F0 m 23 ls []) := by
  have hx := hc.hx
  have hb := hc.hb
  induction n with
  | zero =>
    intro x1 x2 x3 x4 x5 σ H locs ls hw hl hf
    have hf : none = some _ := hf
    cases hf
  | succ n ih =>
    intro x1 x2 x3 x4 x5 σ H locs ls hw hl hf
    unfold fSending_gather_23 at hf
    refine lv_iload hx hb (dq tk_Sending_gather 15 rfl) (lv_at hl 5 rfl) ?_
    refine lv_iload_n hx hb (dq tk_Sending_gather 16 rfl) rfl (lv_at hl 2 rfl) ?_
    refine lv_icmp_ge (tgt := 59) hx hb (dq tk_Sending_gather 17 rfl) (by decide) (fun c1 => ?_) (fun c1 => ?_)
    · replace hf := if_t hf c1
      refine lv_iload hx hb (dq tk_Sending_gather 33 rfl) (lv_at hl 4 rfl) ?_
      refine lv_if_eq (tgt := 84) hx hb (dq tk_Sending_gather 34 rfl) (by decide) (fun c2 => ?_) (fun c2 => ?_)
      · replace hf := if_t hf c2
        refine lv_iinc (v := (x3 + 1)) (lv' := [(3, .int (x3 + 1)), (0, .ref (Z.1 + 46)), (1, .int x1), (2, .int x2), (4, .int x4), (5, .int x5)]) hx hb (dq tk_Sending_gather 47 rfl) hl (k := 3) rfl rfl (by decide) rfl (fun ls hl => ?_)
        refine lv_goto (tgt := 12) hx hb (dq tk_Sending_gather 48 rfl) (by decide) ?_
        exact hgo12 hw (lv_sub hl [1, 2, 3, 0] rfl) hf
      · replace hf := if_f hf c2
        refine lv_aload_n hx hb (dq tk_Sending_gather 35 rfl) rfl (lv_at hl 0 rfl) ?_
        refine G_Sending_who hc hw wd_318 (dq tk_Sending_gather 36 rfl) ?_
        refine lv_aload_n hx hb (dq tk_Sending_gather 37 rfl) rfl (lv_at hl 0 rfl) ?_
        refine G_Sending_rows hc hw wd_320 (dq tk_Sending_gather 38 rfl) ?_
        refine lv_iload_n hx hb (dq tk_Sending_gather 39 rfl) rfl (lv_at hl 3 rfl) ?_
        obtain ⟨c3, hf⟩ := chk_some hf
        obtain ⟨σ1, hσ1, hf⟩ := nm_some hf
        refine AS_Sending_who hc hw c3 hσ1 (dq tk_Sending_gather 40 rfl) (fun H locs hw => ?_)
        refine lv_aload_n hx hb (dq tk_Sending_gather 41 rfl) rfl (lv_at hl 0 rfl) ?_
        refine lv_dup hx hb (dq tk_Sending_gather 42 rfl) rfl ?_
        refine G_Sending_rows hc hw wd_320 (dq tk_Sending_gather 43 rfl) ?_
        refine lv_iconst (v := 1) hx hb (dq tk_Sending_gather 44 rfl) (by decide) ?_
        refine lv_iadd hx hb (dq tk_Sending_gather 45 rfl) ?_
        obtain ⟨σ2, hσ2, hf⟩ := nm_some hf
        refine P_Sending_rows hc hw wd_320 hσ2 (dq tk_Sending_gather 46 rfl) (fun H locs hw => ?_)
        refine lv_iinc (v := (x3 + 1)) (lv' := [(3, .int (x3 + 1)), (0, .ref (Z.1 + 46)), (1, .int x1), (2, .int x2), (4, .int x4), (5, .int x5)]) hx hb (dq tk_Sending_gather 47 rfl) hl (k := 3) rfl rfl (by decide) rfl (fun ls hl => ?_)
        refine lv_goto (tgt := 12) hx hb (dq tk_Sending_gather 48 rfl) (by decide) ?_
        exact hgo12 hw (lv_sub hl [1, 2, 3, 0] rfl) hf
    · replace hf := if_f hf c1
      refine lv_iload hx hb (dq tk_Sending_gather 18 rfl) (lv_at hl 4 rfl) ?_
      refine lv_if_ne (tgt := 46) hx hb (dq tk_Sending_gather 19 rfl) (by decide) (fun c4 => ?_) (fun c4 => ?_)
      · replace hf := if_f hf c4
        exact w_Sending_gather_46 hc hr hR hgo12 ih hw (lv_sub hl [0, 1, 2, 3, 5] rfl) hf
      · replace hf := if_t hf c4
        refine lv_aload_n hx hb (dq tk_Sending_gather 20 rfl) rfl (lv_at hl 0 rfl) ?_
        refine G_Sending_gain hc hw wd_314 (dq tk_Sending_gather 21 rfl) ?_
        refine lv_iload_n hx hb (dq tk_Sending_gather 22 rfl) rfl (lv_at hl 3 rfl) ?_
        obtain ⟨c5, hf⟩ := chk_some hf
        refine AL_Sending_gain hc hw c5 (dq tk_Sending_gather 23 rfl) ?_
        refine lv_iload hx hb (dq tk_Sending_gather 24 rfl) (lv_at hl 5 rfl) ?_
        obtain ⟨c6, hf⟩ := chk_some hf
        refine AL_Sending_gainr (inb_lt c5) hc hw c6 (dq tk_Sending_gather 25 rfl) ?_
        refine lv_if_le (tgt := 50) hx hb (dq tk_Sending_gather 26 rfl) (by decide) (fun c7 => ?_) (fun c7 => ?_)
        · replace hf := if_t hf c7
          refine lv_iconst (v := 0) hx hb (dq tk_Sending_gather 29 rfl) (by decide) ?_
          exact w_Sending_gather_51 hc hr hR hgo12 ih hw (lv_sub hl [0, 1, 2, 3, 5] rfl) hf
        · replace hf := if_f hf c7
          exact w_Sending_gather_46 hc hr hR hgo12 ih hw (lv_sub hl [0, 1, 2, 3, 5] rfl) hf
set_option maxRecDepth 10000 in
theorem w_Sending_gather_131 {N : Nat} (hc : Cxz p s m meth c args prog_11_method_3_code "LabourExchange$Sending" 6 Z) (hr : meth.sig.returnType = none) (hR : RO R 0) {σ' : St} {go92 : Int32 → Int32 → Int32 → St → Option St} (hgo92 : ∀ {x1 : Int32} {x2 : Int32} {x3 : Int32} {σ : St} {H : Heap} {locs : List Loc} {ls : Array Slot}, Wd Z (cmb σ μ) s H locs → lv_has ls 6 [(0, .ref (Z.1 + 46)), (1, .int x1), (2, .int x2), (3, .int x3)] → go92 x1 x2 x3 σ = some σ' → W p l e R s m args below meth c H locs 0 0 (MQ below (Qr Z none True (cmb σ' μ)) args s 0 0 (fun q => Z.1 ≤ q)) (F0 m 92 ls [])) {go103 : Int32 → Int32 → Int32 → Int32 → Int32 → St → Option St} (hgo103 : ∀ {x1 : Int32} {x2 : Int32} {x3 : Int32} {x4 : Int32} {x5 : Int32} {σ : St} {H : Heap} {locs : List Loc} {ls : Array Slot}, Wd Z (cmb σ μ) s H locs → lv_has ls 6 [(0, .ref (Z.1 + 46)), (1, .int x1), (2, .int x2), (3, .int x3), (4, .int x4), (5, .int x5)] → go103 x1 x2 x3 x4 x5 σ = some σ' → W p l e R s m args below meth c H locs 0 0 (MQ below (Qr Z none True (cmb σ' μ)) args s 0 0 (fun q => Z.1 ≤ q)) (F0 m 103 ls [])) : ∀ {x1 : Int32} {x2 : Int32} {x3 : Int32} {x5 : Int32} {s0 : Int32} {σ : St} {H : Heap} {locs : List Loc} {ls : Array Slot}, Wd Z (cmb σ μ) s H locs → lv_has ls 6 [(0, .ref (Z.1 + 46)), (1, .int x1), (2, .int x2), (3, .int x3), (5, .int x5)] → fSending_gather_131 N go92 go103 x1 x2 x3 x5 s0 σ = some σ' → W p l e R s m args below meth c H locs 0 0 (MQ below (Qr Z none True (cmb σ' μ)) args s 0 0 (fun q => Z.1 ≤ q)) (F0 m 131 ls [.int s0]) := by
  have hx := hc.hx
  have hb := hc.hb
  intro x1 x2 x3 x5 s0 σ H locs ls hw hl hf
  unfold fSending_gather_131 at hf
  refine lv_istore (lv' := [(4, .int s0), (0, .ref (Z.1 + 46)), (1, .int x1), (2, .int x2), (3, .int x3), (5, .int x5)]) hx hb (dq tk_Sending_gather 73 rfl) hl (by decide) rfl (fun ls hl => ?_)
  refine lv_iinc (v := (x5 + 1)) (lv' := [(5, .int (x5 + 1)), (4, .int s0), (0, .ref (Z.1 + 46)), (1, .int x1), (2, .int x2), (3, .int x3)]) hx hb (dq tk_Sending_gather 74 rfl) hl (k := 5) rfl rfl (by decide) rfl (fun ls hl => ?_)
  refine lv_goto (tgt := 103) hx hb (dq tk_Sending_gather 75 rfl) (by decide) ?_
  exact hgo103 hw (lv_sub hl [2, 3, 4, 5, 1, 0] rfl) hf
set_option maxRecDepth 10000 in
theorem w_Sending_gather_126 {N : Nat} (hc : Cxz p s m meth c args prog_11_method_3_code "LabourExchange$Sending" 6 Z) (hr : meth.sig.returnType = none) (hR : RO R 0) {σ' : St} {go92 : Int32 → Int32 → Int32 → St → Option St} (hgo92 : ∀ {x1 : Int32} {x2 : Int32} {x3 : Int32} {σ : St} {H : Heap} {locs : List Loc} {ls : Array Slot}, Wd Z (cmb σ μ) s H locs → lv_has ls 6 [(0, .ref (Z.1 + 46)), (1, .int x1), (2, .int x2), (3, .int x3)] → go92 x1 x2 x3 σ = some σ' → W p l e R s m args below meth c H locs 0 0 (MQ below (Qr Z none True (cmb σ' μ)) args s 0 0 (fun q => Z.1 ≤ q)) (F0 m 92 ls [])) {go103 : Int32 → Int32 → Int32 → Int32 → Int32 → St → Option St} (hgo103 : ∀ {x1 : Int32} {x2 : Int32} {x3 : Int32} {x4 : Int32} {x5 : Int32} {σ : St} {H : Heap} {locs : List Loc} {ls : Array Slot}, Wd Z (cmb σ μ) s H locs → lv_has ls 6 [(0, .ref (Z.1 + 46)), (1, .int x1), (2, .int x2), (3, .int x3), (4, .int x4), (5, .int x5)] → go103 x1 x2 x3 x4 x5 σ = some σ' → W p l e R s m args below meth c H locs 0 0 (MQ below (Qr Z none True (cmb σ' μ)) args s 0 0 (fun q => Z.1 ≤ q)) (F0 m 103 ls [])) : ∀ {x1 : Int32} {x2 : Int32} {x3 : Int32} {x5 : Int32} {σ : St} {H : Heap} {locs : List Loc} {ls : Array Slot}, Wd Z (cmb σ μ) s H locs → lv_has ls 6 [(0, .ref (Z.1 + 46)), (1, .int x1), (2, .int x2), (3, .int x3), (5, .int x5)] → fSending_gather_126 N go92 go103 x1 x2 x3 x5 σ = some σ' → W p l e R s m args below meth c H locs 0 0 (MQ below (Qr Z none True (cmb σ' μ)) args s 0 0 (fun q => Z.1 ≤ q)) (F0 m 126 ls []) := by
  have hx := hc.hx
  have hb := hc.hb
  intro x1 x2 x3 x5 σ H locs ls hw hl hf
  unfold fSending_gather_126 at hf
  refine lv_iconst (v := 1) hx hb (dq tk_Sending_gather 70 rfl) (by decide) ?_
  refine lv_goto (tgt := 131) hx hb (dq tk_Sending_gather 71 rfl) (by decide) ?_
  exact w_Sending_gather_131 hc hr hR hgo92 hgo103 hw (lv_sub hl [0, 1, 2, 3, 4] rfl) hf
set_option maxRecDepth 10000 in
theorem w_Sending_gather_103 {N : Nat} (hc : Cxz p s m meth c args prog_11_method_3_code "LabourExchange$Sending" 6 Z) (hr : meth.sig.returnType = none) (hR : RO R 0) {σ' : St} {go92 : Int32 → Int32 → Int32 → St → Option St} (hgo92 : ∀ {x1 : Int32} {x2 : Int32} {x3 : Int32} {σ : St} {H : Heap} {locs : List Loc} {ls : Array Slot}, Wd Z (cmb σ μ) s H locs → lv_has ls 6 [(0, .ref (Z.1 + 46)), (1, .int x1), (2, .int x2), (3, .int x3)] → go92 x1 x2 x3 σ = some σ' → W p l e R s m args below meth c H locs 0 0 (MQ below (Qr Z none True (cmb σ' μ)) args s 0 0 (fun q => Z.1 ≤ q)) (F0 m 92 ls [])) (n : Nat) : ∀ {x1 : Int32} {x2 : Int32} {x3 : Int32} {x4 : Int32} {x5 : Int32} {σ : St} {H : Heap} {locs : List Loc} {ls : Array Slot}, Wd Z (cmb σ μ) s H locs → lv_has ls 6 [(0, .ref (Z.1 + 46)), (1, .int x1), (2, .int x2), (3, .int x3), (4, .int x4), (5, .int x5)] → fSending_gather_103 N go92 n x1 x2 x3 x4 x5 σ = some σ' → W p l e R s m args below meth c H locs 0 0 (MQ below (Qr Z none True (cmb σ' μ)) args s 0 0 (fun q => Z.1 ≤ q)) (F0 m 103 ls []) := by
  have hx := hc.hx
  have hb := hc.hb
  induction n with
  | zero =>
    intro x1 x2 x3 x4 x5 σ H locs ls hw hl hf
    have hf : none = some _ := hf
    cases hf
  | succ n ih =>
    intro x1 x2 x3 x4 x5 σ H locs ls hw hl hf
    unfold fSending_gather_103 at hf
    refine lv_iload hx hb (dq tk_Sending_gather 58 rfl) (lv_at hl 5 rfl) ?_
    refine lv_iload_n hx hb (dq tk_Sending_gather 59 rfl) rfl (lv_at hl 1 rfl) ?_
    refine lv_icmp_ge (tgt := 139) hx hb (dq tk_Sending_gather 60 rfl) (by decide) (fun c1 => ?_) (fun c1 => ?_)
    · replace hf := if_t hf c1
      refine lv_iload hx hb (dq tk_Sending_gather 76 rfl) (lv_at hl 4 rfl) ?_
      refine lv_if_eq (tgt := 164) hx hb (dq tk_Sending_gather 77 rfl) (by decide) (fun c2 => ?_) (fun c2 => ?_)
      · replace hf := if_t hf c2
        refine lv_iinc (v := (x3 + 1)) (lv' := [(3, .int (x3 + 1)), (0, .ref (Z.1 + 46)), (1, .int x1), (2, .int x2), (4, .int x4), (5, .int x5)]) hx hb (dq tk_Sending_gather 90 rfl) hl (k := 3) rfl rfl (by decide) rfl (fun ls hl => ?_)
        refine lv_goto (tgt := 92) hx hb (dq tk_Sending_gather 91 rfl) (by decide) ?_
        exact hgo92 hw (lv_sub hl [1, 2, 3, 0] rfl) hf
      · replace hf := if_f hf c2
        refine lv_aload_n hx hb (dq tk_Sending_gather 78 rfl) rfl (lv_at hl 0 rfl) ?_
        refine G_Sending_where hc hw wd_319 (dq tk_Sending_gather 79 rfl) ?_
        refine lv_aload_n hx hb (dq tk_Sending_gather 80 rfl) rfl (lv_at hl 0 rfl) ?_
        refine G_Sending_columns hc hw wd_321 (dq tk_Sending_gather 81 rfl) ?_
        refine lv_iload_n hx hb (dq tk_Sending_gather 82 rfl) rfl (lv_at hl 3 rfl) ?_
        obtain ⟨c3, hf⟩ := chk_some hf
        obtain ⟨σ1, hσ1, hf⟩ := nm_some hf
        refine AS_Sending_where hc hw c3 hσ1 (dq tk_Sending_gather 83 rfl) (fun H locs hw => ?_)
        refine lv_aload_n hx hb (dq tk_Sending_gather 84 rfl) rfl (lv_at hl 0 rfl) ?_
        refine lv_dup hx hb (dq tk_Sending_gather 85 rfl) rfl ?_
        refine G_Sending_columns hc hw wd_321 (dq tk_Sending_gather 86 rfl) ?_
        refine lv_iconst (v := 1) hx hb (dq tk_Sending_gather 87 rfl) (by decide) ?_
        refine lv_iadd hx hb (dq tk_Sending_gather 88 rfl) ?_
        obtain ⟨σ2, hσ2, hf⟩ := nm_some hf
        refine P_Sending_columns hc hw wd_321 hσ2 (dq tk_Sending_gather 89 rfl) (fun H locs hw => ?_)
        refine lv_iinc (v := (x3 + 1)) (lv' := [(3, .int (x3 + 1)), (0, .ref (Z.1 + 46)), (1, .int x1), (2, .int x2), (4, .int x4), (5, .int x5)]) hx hb (dq tk_Sending_gather 90 rfl) hl (k := 3) rfl rfl (by decide) rfl (fun ls hl => ?_)
        refine lv_goto (tgt := 92) hx hb (dq tk_Sending_gather 91 rfl) (by decide) ?_
        exact hgo92 hw (lv_sub hl [1, 2, 3, 0] rfl) hf
    · replace hf := if_f hf c1
      refine lv_iload hx hb (dq tk_Sending_gather 61 rfl) (lv_at hl 4 rfl) ?_
      refine lv_if_ne (tgt := 126) hx hb (dq tk_Sending_gather 62 rfl) (by decide) (fun c4 => ?_) (fun c4 => ?_)
      · replace hf := if_f hf c4
        exact w_Sending_gather_126 hc hr hR hgo92 ih hw (lv_sub hl [0, 1, 2, 3, 5] rfl) hf
      · replace hf := if_t hf c4
        refine lv_aload_n hx hb (dq tk_Sending_gather 63 rfl) rfl (lv_at hl 0 rfl) ?_
        refine G_Sending_gain hc hw wd_314 (dq tk_Sending_gather 64 rfl) ?_
        refine lv_iload hx hb (dq tk_Sending_gather 65 rfl) (lv_at hl 5 rfl) ?_
        obtain ⟨c5, hf⟩ := chk_some hf
        refine AL_Sending_gain hc hw c5 (dq tk_Sending_gather 66 rfl) ?_
        refine lv_iload_n hx hb (dq tk_Sending_gather 67 rfl) rfl (lv_at hl 3 rfl) ?_
        obtain ⟨c6, hf⟩ := chk_some hf
        refine AL_Sending_gainr (inb_lt c5) hc hw c6 (dq tk_Sending_gather 68 rfl) ?_
        refine lv_if_le (tgt := 130) hx hb (dq tk_Sending_gather 69 rfl) (by decide) (fun c7 => ?_) (fun c7 => ?_)
        · replace hf := if_t hf c7
          refine lv_iconst (v := 0) hx hb (dq tk_Sending_gather 72 rfl) (by decide) ?_
          exact w_Sending_gather_131 hc hr hR hgo92 ih hw (lv_sub hl [0, 1, 2, 3, 5] rfl) hf
        · replace hf := if_f hf c7
          exact w_Sending_gather_126 hc hr hR hgo92 ih hw (lv_sub hl [0, 1, 2, 3, 5] rfl) hf
set_option maxRecDepth 10000 in
theorem w_Sending_gather_92 {N : Nat} (hc : Cxz p s m meth c args prog_11_method_3_code "LabourExchange$Sending" 6 Z) (hr : meth.sig.returnType = none) (hR : RO R 0) {σ' : St} (n : Nat) : ∀ {x1 : Int32} {x2 : Int32} {x3 : Int32} {σ : St} {H : Heap} {locs : List Loc} {ls : Array Slot}, Wd Z (cmb σ μ) s H locs → lv_has ls 6 [(0, .ref (Z.1 + 46)), (1, .int x1), (2, .int x2), (3, .int x3)] → fSending_gather_92 N n x1 x2 x3 σ = some σ' → W p l e R s m args below meth c H locs 0 0 (MQ below (Qr Z none True (cmb σ' μ)) args s 0 0 (fun q => Z.1 ≤ q)) (F0 m 92 ls []) := by
  have hx := hc.hx
  have hb := hc.hb
  induction n with
  | zero =>
    intro x1 x2 x3 σ H locs ls hw hl hf
    have hf : none = some _ := hf
    cases hf
  | succ n ih =>
    intro x1 x2 x3 σ H locs ls hw hl hf
    unfold fSending_gather_92 at hf
    refine lv_iload_n hx hb (dq tk_Sending_gather 51 rfl) rfl (lv_at hl 3 rfl) ?_
    refine lv_iload_n hx hb (dq tk_Sending_gather 52 rfl) rfl (lv_at hl 2 rfl) ?_
    refine lv_icmp_ge (tgt := 170) hx hb (dq tk_Sending_gather 53 rfl) (by decide) (fun c1 => ?_) (fun c1 => ?_)
    · replace hf := if_t hf c1
      refine lv_aload_n hx hb (dq tk_Sending_gather 92 rfl) rfl (lv_at hl 0 rfl) ?_
      refine lv_aload_n hx hb (dq tk_Sending_gather 93 rfl) rfl (lv_at hl 0 rfl) ?_
      refine G_Sending_rows hc hw wd_320 (dq tk_Sending_gather 94 rfl) ?_
      refine lv_aload_n hx hb (dq tk_Sending_gather 95 rfl) rfl (lv_at hl 0 rfl) ?_
      refine G_Sending_columns hc hw wd_321 (dq tk_Sending_gather 96 rfl) ?_
      refine lv_iadd hx hb (dq tk_Sending_gather 97 rfl) ?_
      obtain ⟨σ1, hσ1, hf⟩ := nm_some hf
      refine P_Sending_size hc hw wd_322 hσ1 (dq tk_Sending_gather 98 rfl) (fun H locs hw => ?_)
      cases hf
      exact x_vret hc hw hr (dq tk_Sending_gather 99 rfl)
    · replace hf := if_f hf c1
      refine lv_iconst (v := 0) hx hb (dq tk_Sending_gather 54 rfl) (by decide) ?_
      refine lv_istore (lv' := [(4, .int 0), (0, .ref (Z.1 + 46)), (1, .int x1), (2, .int x2), (3, .int x3)]) hx hb (dq tk_Sending_gather 55 rfl) hl (by decide) rfl (fun ls hl => ?_)
      refine lv_iconst (v := 0) hx hb (dq tk_Sending_gather 56 rfl) (by decide) ?_
      refine lv_istore (lv' := [(5, .int 0), (4, .int 0), (0, .ref (Z.1 + 46)), (1, .int x1), (2, .int x2), (3, .int x3)]) hx hb (dq tk_Sending_gather 57 rfl) hl (by decide) rfl (fun ls hl => ?_)
      exact w_Sending_gather_103 hc hr hR ih N hw (lv_sub hl [2, 3, 4, 5, 1, 0] rfl) hf
set_option maxRecDepth 10000 in
theorem w_Sending_gather_12 {N : Nat} (hc : Cxz p s m meth c args prog_11_method_3_code "LabourExchange$Sending" 6 Z) (hr : meth.sig.returnType = none) (hR : RO R 0) {σ' : St} (n : Nat) : ∀ {x1 : Int32} {x2 : Int32} {x3 : Int32} {σ : St} {H : Heap} {locs : List Loc} {ls : Array Slot}, Wd Z (cmb σ μ) s H locs → lv_has ls 6 [(0, .ref (Z.1 + 46)), (1, .int x1), (2, .int x2), (3, .int x3)] → fSending_gather_12 N n x1 x2 x3 σ = some σ' → W p l e R s m args below meth c H locs 0 0 (MQ below (Qr Z none True (cmb σ' μ)) args s 0 0 (fun q => Z.1 ≤ q)) (F0 m 12 ls []) := by
  have hx := hc.hx
  have hb := hc.hb
  induction n with
  | zero =>
    intro x1 x2 x3 σ H locs ls hw hl hf
    have hf : none = some _ := hf
    cases hf
  | succ n ih =>
    intro x1 x2 x3 σ H locs ls hw hl hf
    unfold fSending_gather_12 at hf
    refine lv_iload_n hx hb (dq tk_Sending_gather 8 rfl) rfl (lv_at hl 3 rfl) ?_
    refine lv_iload_n hx hb (dq tk_Sending_gather 9 rfl) rfl (lv_at hl 1 rfl) ?_
    refine lv_icmp_ge (tgt := 90) hx hb (dq tk_Sending_gather 10 rfl) (by decide) (fun c1 => ?_) (fun c1 => ?_)
    · replace hf := if_t hf c1
      refine lv_iconst (v := 0) hx hb (dq tk_Sending_gather 49 rfl) (by decide) ?_
      refine lv_istore_n (lv' := [(3, .int 0), (0, .ref (Z.1 + 46)), (1, .int x1), (2, .int x2)]) hx hb (dq tk_Sending_gather 50 rfl) rfl hl (by decide) rfl (fun ls hl => ?_)
      exact w_Sending_gather_92 hc hr hR N hw (lv_sub hl [1, 2, 3, 0] rfl) hf
    · replace hf := if_f hf c1
      refine lv_iconst (v := 0) hx hb (dq tk_Sending_gather 11 rfl) (by decide) ?_
      refine lv_istore (lv' := [(4, .int 0), (0, .ref (Z.1 + 46)), (1, .int x1), (2, .int x2), (3, .int x3)]) hx hb (dq tk_Sending_gather 12 rfl) hl (by decide) rfl (fun ls hl => ?_)
      refine lv_iconst (v := 0) hx hb (dq tk_Sending_gather 13 rfl) (by decide) ?_
      refine lv_istore (lv' := [(5, .int 0), (4, .int 0), (0, .ref (Z.1 + 46)), (1, .int x1), (2, .int x2), (3, .int x3)]) hx hb (dq tk_Sending_gather 14 rfl) hl (by decide) rfl (fun ls hl => ?_)
      exact w_Sending_gather_23 hc hr hR ih N hw (lv_sub hl [2, 3, 4, 5, 1, 0] rfl) hf
set_option maxRecDepth 10000 in
theorem w_Sending_gather {N : Nat} (hc : Cxz p s m meth c args prog_11_method_3_code "LabourExchange$Sending" 6 Z) (hr : meth.sig.returnType = none) (hR : RO R 0) {σ' : St} : ∀ {x1 : Int32} {x2 : Int32} {σ : St} {H : Heap} {locs : List Loc} {ls : Array Slot}, Wd Z (cmb σ μ) s H locs → lv_has ls 6 [(0, .ref (Z.1 + 46)), (1, .int x1), (2, .int x2)] → fSending_gather N x1 x2 σ = some σ' → W p l e R s m args below meth c H locs 0 0 (MQ below (Qr Z none True (cmb σ' μ)) args s 0 0 (fun q => Z.1 ≤ q)) (F0 m 0 ls []) := by
  have hx := hc.hx
  have hb := hc.hb
  intro x1 x2 σ H locs ls hw hl hf
  unfold fSending_gather at hf
  refine lv_aload_n hx hb (dq tk_Sending_gather 0 rfl) rfl (lv_at hl 0 rfl) ?_
  refine lv_iconst (v := 0) hx hb (dq tk_Sending_gather 1 rfl) (by decide) ?_
  obtain ⟨σ1, hσ1, hf⟩ := nm_some hf
  refine P_Sending_rows hc hw wd_320 hσ1 (dq tk_Sending_gather 2 rfl) (fun H locs hw => ?_)
  refine lv_aload_n hx hb (dq tk_Sending_gather 3 rfl) rfl (lv_at hl 0 rfl) ?_
  refine lv_iconst (v := 0) hx hb (dq tk_Sending_gather 4 rfl) (by decide) ?_
  obtain ⟨σ2, hσ2, hf⟩ := nm_some hf
  refine P_Sending_columns hc hw wd_321 hσ2 (dq tk_Sending_gather 5 rfl) (fun H locs hw => ?_)
  refine lv_iconst (v := 0) hx hb (dq tk_Sending_gather 6 rfl) (by decide) ?_
  refine lv_istore_n (lv' := [(3, .int 0), (0, .ref (Z.1 + 46)), (1, .int x1), (2, .int x2)]) hx hb (dq tk_Sending_gather 7 rfl) rfl hl (by decide) rfl (fun ls hl => ?_)
  exact w_Sending_gather_12 hc hr hR N hw (lv_sub hl [1, 2, 3, 0] rfl) hf
theorem c_Sending_gather {N : Nat}  {x1 : Int32} {x2 : Int32} {σ' : St} {σ : St} (hf : fSending_gather N x1 x2 σ = some σ') : Ct l Z y_Sending_gather prog_11_method_3_code 6 none (rmo (0)) [.ref (Z.1 + 46), .int x1, .int x2] (cmb σ μ) none True (cmb σ' μ) := by
  refine x_met (by decide) (Nat.le_of_ble_eq_true rfl) (fun p e s m args below meth c ls hc hr hw hl => ?_)
  exact w_Sending_gather hc hr RO.self hw hl hf
theorem K_Sending_gather {idx : Nat} {N : Nat}  {x1 : Int32} {x2 : Int32} {σ' : St} {σ : St} (hc : Cxz p s m meth c args cc own nL Z) (hw : Wd Z (cmb σ μ) s H locs) (hl : Cond.methodLink own idx y_Sending_gather ∈ TB) (hf : fSending_gather N x1 x2 σ = some σ') (hR : RO R ((0) + 1)) (hcs : cells ≤ R.cells ∧ slots ≤ R.slots) (hls : ls.size = nL) (hst : (rest.map fun v => v.category).sum ≤ 8) (hdg : decode cc pc = .ok (.invokevirtual idx, 3)) (kk : ∀ (H1 : Heap) (locs1 : List Loc), Wd Z (cmb σ' μ) s H1 locs1 → True → W p l e R s m args below meth c H1 locs1 cells slots Q (F0 m (pc + 3) ls rest)) : W p l e R s m args below meth c H locs cells slots Q (F0 m pc ls (.int x2 :: .int x1 :: .ref (Z.1 + 46) :: rest)) :=
  x_iv hc hw (c_Sending_gather hf) yv_Sending_gather (Nat.le_of_ble_eq_true rfl) rfl rfl hl (RO.call hR (by decide)) hcs rfl hls hst hdg rfl kk
set_option maxRecDepth 10000 in
theorem w_Sending_unmark_reached_2 {N : Nat} (hc : Cxz p s m meth c args prog_11_method_5_code "LabourExchange$Sending" 2 Z) (hr : meth.sig.returnType = none) (hR : RO R 0) {σ' : St} (n : Nat) : ∀ {x1 : Int32} {σ : St} {H : Heap} {locs : List Loc} {ls : Array Slot}, Wd Z (cmb σ μ) s H locs → lv_has ls 2 [(0, .ref (Z.1 + 77)), (1, .int x1)] → fSending_unmark_reached_2 N n x1 σ = some σ' → W p l e R s m args below meth c H locs 0 0 (MQ below (Qr Z none True (cmb σ' μ)) args s 0 0 (fun q => Z.1 ≤ q)) (F0 m 2 ls []) := by
  have hx := hc.hx
  have hb := hc.hb
  induction n with
  | zero =>
    intro x1 σ H locs ls hw hl hf
    have hf : none = some _ := hf
    cases hf
  | succ n ih =>
    intro x1 σ H locs ls hw hl hf
    unfold fSending_unmark_reached_2 at hf
    refine lv_iload_n hx hb (dq tk_Sending_unmark 2 rfl) rfl (lv_at hl 1 rfl) ?_
    refine lv_aload_n hx hb (dq tk_Sending_unmark 3 rfl) rfl (lv_at hl 0 rfl) ?_
    refine LN_Sending_reached hc hw (dq tk_Sending_unmark 4 rfl) ?_
    refine lv_icmp_ge (tgt := 18) hx hb (dq tk_Sending_unmark 5 rfl) (by decide) (fun c1 => ?_) (fun c1 => ?_)
    · replace hf := if_t hf c1
      cases hf
      exact x_vret hc hw hr (dq tk_Sending_unmark 12 rfl)
    · replace hf := if_f hf c1
      refine lv_aload_n hx hb (dq tk_Sending_unmark 6 rfl) rfl (lv_at hl 0 rfl) ?_
      refine lv_iload_n hx hb (dq tk_Sending_unmark 7 rfl) rfl (lv_at hl 1 rfl) ?_
      refine lv_iconst (v := 0) hx hb (dq tk_Sending_unmark 8 rfl) (by decide) ?_
      obtain ⟨c2, hf⟩ := chk_some hf
      obtain ⟨σ1, hσ1, hf⟩ := nm_some hf
      refine AS_Sending_reached hc hw c2 hσ1 (dq tk_Sending_unmark 9 rfl) (fun H locs hw => ?_)
      refine lv_iinc (v := (x1 + 1)) (lv' := [(1, .int (x1 + 1)), (0, .ref (Z.1 + 77))]) hx hb (dq tk_Sending_unmark 10 rfl) hl (k := 1) rfl rfl (by decide) rfl (fun ls hl => ?_)
      refine lv_goto (tgt := 2) hx hb (dq tk_Sending_unmark 11 rfl) (by decide) ?_
      exact ih hw (lv_sub hl [1, 0] rfl) hf
set_option maxRecDepth 10000 in
theorem w_Sending_unmark_reached {N : Nat} (hc : Cxz p s m meth c args prog_11_method_5_code "LabourExchange$Sending" 2 Z) (hr : meth.sig.returnType = none) (hR : RO R 0) {σ' : St} : ∀ {σ : St} {H : Heap} {locs : List Loc} {ls : Array Slot}, Wd Z (cmb σ μ) s H locs → lv_has ls 2 [(0, .ref (Z.1 + 77))] → fSending_unmark_reached N σ = some σ' → W p l e R s m args below meth c H locs 0 0 (MQ below (Qr Z none True (cmb σ' μ)) args s 0 0 (fun q => Z.1 ≤ q)) (F0 m 0 ls []) := by
  have hx := hc.hx
  have hb := hc.hb
  intro σ H locs ls hw hl hf
  unfold fSending_unmark_reached at hf
  refine lv_iconst (v := 0) hx hb (dq tk_Sending_unmark 0 rfl) (by decide) ?_
  refine lv_istore_n (lv' := [(1, .int 0), (0, .ref (Z.1 + 77))]) hx hb (dq tk_Sending_unmark 1 rfl) rfl hl (by decide) rfl (fun ls hl => ?_)
  exact w_Sending_unmark_reached_2 hc hr hR N hw (lv_sub hl [1, 0] rfl) hf
theorem c_Sending_unmark_reached {N : Nat}  {σ' : St} {σ : St} (hf : fSending_unmark_reached N σ = some σ') : Ct l Z y_Sending_unmark prog_11_method_5_code 2 none (rmo (0)) [.ref (Z.1 + 77)] (cmb σ μ) none True (cmb σ' μ) := by
  refine x_met (by decide) (Nat.le_of_ble_eq_true rfl) (fun p e s m args below meth c ls hc hr hw hl => ?_)
  exact w_Sending_unmark_reached hc hr RO.self hw hl hf
theorem K_Sending_unmark_reached {idx : Nat} {N : Nat}  {σ' : St} {σ : St} (hc : Cxz p s m meth c args cc own nL Z) (hw : Wd Z (cmb σ μ) s H locs) (hl : Cond.methodLink own idx y_Sending_unmark ∈ TB) (hf : fSending_unmark_reached N σ = some σ') (hR : RO R ((0) + 1)) (hcs : cells ≤ R.cells ∧ slots ≤ R.slots) (hls : ls.size = nL) (hst : (rest.map fun v => v.category).sum ≤ 8) (hdg : decode cc pc = .ok (.invokestatic idx, 3)) (kk : ∀ (H1 : Heap) (locs1 : List Loc), Wd Z (cmb σ' μ) s H1 locs1 → True → W p l e R s m args below meth c H1 locs1 cells slots Q (F0 m (pc + 3) ls rest)) : W p l e R s m args below meth c H locs cells slots Q (F0 m pc ls (.ref (Z.1 + 77) :: rest)) :=
  x_is hc hw (c_Sending_unmark_reached hf) ys_Sending_unmark hl (RO.call hR (by decide)) hcs rfl hls hst hdg rfl kk
set_option maxRecDepth 10000 in
theorem w_Sending_isPair {N : Nat} (hc : Cxz p s m meth c args prog_11_method_4_code "LabourExchange$Sending" 3 Z) (hr : meth.sig.returnType = (some .boolean)) (hR : RO R 0) {rv : Int32} {σ : St} : ∀ {x1 : Int32} {x2 : Int32} {H : Heap} {locs : List Loc} {ls : Array Slot}, Wd Z (cmb σ μ) s H locs → lv_has ls 3 [(0, .ref (Z.1 + 46)), (1, .int x1), (2, .int x2)] → fSending_isPair N x1 x2 σ = some rv → W p l e R s m args below meth c H locs 0 0 (MQ below (Qr Z (some (.int rv)) True (cmb σ μ)) args s 0 0 (fun q => Z.1 ≤ q)) (F0 m 0 ls []) := by
  have hx := hc.hx
  have hb := hc.hb
  intro x1 x2 H locs ls hw hl hf
  unfold fSending_isPair at hf
  refine lv_iload_n hx hb (dq tk_Sending_isPair 0 rfl) rfl (lv_at hl 1 rfl) ?_
  refine lv_aload_n hx hb (dq tk_Sending_isPair 1 rfl) rfl (lv_at hl 0 rfl) ?_
  refine G_Sending_rows hc hw wd_320 (dq tk_Sending_isPair 2 rfl) ?_
  refine lv_icmp_gt (tgt := 45) hx hb (dq tk_Sending_isPair 3 rfl) (by decide) (fun c1 => ?_) (fun c1 => ?_)
  · replace hf := if_t hf c1
    refine lv_iconst (v := 0) hx hb (dq tk_Sending_isPair 27 rfl) (by decide) ?_
    cases hf
    exact x_zret hc hw hr (by decide) (dq tk_Sending_isPair 28 rfl)
  · replace hf := if_f hf c1
    refine lv_iload_n hx hb (dq tk_Sending_isPair 4 rfl) rfl (lv_at hl 2 rfl) ?_
    refine lv_aload_n hx hb (dq tk_Sending_isPair 5 rfl) rfl (lv_at hl 0 rfl) ?_
    refine G_Sending_columns hc hw wd_321 (dq tk_Sending_isPair 6 rfl) ?_
    refine lv_icmp_gt (tgt := 45) hx hb (dq tk_Sending_isPair 7 rfl) (by decide) (fun c2 => ?_) (fun c2 => ?_)
    · replace hf := if_t hf c2
      refine lv_iconst (v := 0) hx hb (dq tk_Sending_isPair 27 rfl) (by decide) ?_
      cases hf
      exact x_zret hc hw hr (by decide) (dq tk_Sending_isPair 28 rfl)
    · replace hf := if_f hf c2
      refine lv_aload_n hx hb (dq tk_Sending_isPair 8 rfl) rfl (lv_at hl 0 rfl) ?_
      refine G_Sending_gain hc hw wd_314 (dq tk_Sending_isPair 9 rfl) ?_
      refine lv_aload_n hx hb (dq tk_Sending_isPair 10 rfl) rfl (lv_at hl 0 rfl) ?_
      refine G_Sending_who hc hw wd_318 (dq tk_Sending_isPair 11 rfl) ?_
      refine lv_iload_n hx hb (dq tk_Sending_isPair 12 rfl) rfl (lv_at hl 1 rfl) ?_
      refine lv_iconst (v := 1) hx hb (dq tk_Sending_isPair 13 rfl) (by decide) ?_
      refine lv_isub hx hb (dq tk_Sending_isPair 14 rfl) ?_
      obtain ⟨c3, hf⟩ := chk_some hf
      refine AL_Sending_who hc hw c3 (dq tk_Sending_isPair 15 rfl) ?_
      obtain ⟨c4, hf⟩ := chk_some hf
      refine AL_Sending_gain hc hw c4 (dq tk_Sending_isPair 16 rfl) ?_
      refine lv_aload_n hx hb (dq tk_Sending_isPair 17 rfl) rfl (lv_at hl 0 rfl) ?_
      refine G_Sending_where hc hw wd_319 (dq tk_Sending_isPair 18 rfl) ?_
      refine lv_iload_n hx hb (dq tk_Sending_isPair 19 rfl) rfl (lv_at hl 2 rfl) ?_
      refine lv_iconst (v := 1) hx hb (dq tk_Sending_isPair 20 rfl) (by decide) ?_
      refine lv_isub hx hb (dq tk_Sending_isPair 21 rfl) ?_
      obtain ⟨c5, hf⟩ := chk_some hf
      refine AL_Sending_where hc hw c5 (dq tk_Sending_isPair 22 rfl) ?_
      obtain ⟨c6, hf⟩ := chk_some hf
      refine AL_Sending_gainr (inb_lt c4) hc hw c6 (dq tk_Sending_isPair 23 rfl) ?_
      refine lv_if_le (tgt := 45) hx hb (dq tk_Sending_isPair 24 rfl) (by decide) (fun c7 => ?_) (fun c7 => ?_)
      · replace hf := if_t hf c7
        refine lv_iconst (v := 0) hx hb (dq tk_Sending_isPair 27 rfl) (by decide) ?_
        cases hf
        exact x_zret hc hw hr (by decide) (dq tk_Sending_isPair 28 rfl)
      · replace hf := if_f hf c7
        refine lv_iconst (v := 1) hx hb (dq tk_Sending_isPair 25 rfl) (by decide) ?_
        refine lv_goto (tgt := 46) hx hb (dq tk_Sending_isPair 26 rfl) (by decide) ?_
        cases hf
        exact x_zret hc hw hr (by decide) (dq tk_Sending_isPair 28 rfl)
theorem c_Sending_isPair {N : Nat}  {x1 : Int32} {x2 : Int32} {rv : Int32} {σ : St} (hf : fSending_isPair N x1 x2 σ = some rv) : Ct l Z y_Sending_isPair prog_11_method_4_code 3 (some .boolean) (rmo (0)) [.ref (Z.1 + 46), .int x1, .int x2] (cmb σ μ) (some (.int rv)) True (cmb σ μ) := by
  refine x_met (by decide) (Nat.le_of_ble_eq_true rfl) (fun p e s m args below meth c ls hc hr hw hl => ?_)
  exact w_Sending_isPair hc hr RO.self hw hl hf
theorem K_Sending_isPair {idx : Nat} {N : Nat}  {x1 : Int32} {x2 : Int32} {rv : Int32} {σ : St} (hc : Cxz p s m meth c args cc own nL Z) (hw : Wd Z (cmb σ μ) s H locs) (hl : Cond.methodLink own idx y_Sending_isPair ∈ TB) (hf : fSending_isPair N x1 x2 σ = some rv) (hR : RO R ((0) + 1)) (hcs : cells ≤ R.cells ∧ slots ≤ R.slots) (hls : ls.size = nL) (hst : (rest.map fun v => v.category).sum ≤ 8) (hdg : decode cc pc = .ok (.invokevirtual idx, 3)) (kk : ∀ (H1 : Heap) (locs1 : List Loc), Wd Z (cmb σ μ) s H1 locs1 → True → W p l e R s m args below meth c H1 locs1 cells slots Q (F0 m (pc + 3) ls (.int rv :: rest))) : W p l e R s m args below meth c H locs cells slots Q (F0 m pc ls (.int x2 :: .int x1 :: .ref (Z.1 + 46) :: rest)) :=
  x_iv hc hw (c_Sending_isPair hf) yv_Sending_isPair (Nat.le_of_ble_eq_true rfl) rfl rfl hl (RO.call hR (by decide)) hcs rfl hls hst hdg rfl kk
set_option maxRecDepth 10000 in
theorem w_Sending_costOf {N : Nat} (hc : Cxz p s m meth c args prog_11_method_6_code "LabourExchange$Sending" 3 Z) (hr : meth.sig.returnType = (some .int)) (hR : RO R 1) {rv : Int32} {σ : St} : ∀ {x1 : Int32} {x2 : Int32} {H : Heap} {locs : List Loc} {ls : Array Slot}, Wd Z (cmb σ μ) s H locs → lv_has ls 3 [(0, .ref (Z.1 + 46)), (1, .int x1), (2, .int x2)] → fSending_costOf N x1 x2 σ = some rv → W p l e R s m args below meth c H locs 0 0 (MQ below (Qr Z (some (.int rv)) True (cmb σ μ)) args s 0 0 (fun q => Z.1 ≤ q)) (F0 m 0 ls []) := by
  have hx := hc.hx
  have hb := hc.hb
  intro x1 x2 H locs ls hw hl hf
  unfold fSending_costOf at hf
  refine lv_iload_n hx hb (dq tk_Sending_costOf 0 rfl) rfl (lv_at hl 1 rfl) ?_
  refine lv_aload_n hx hb (dq tk_Sending_costOf 1 rfl) rfl (lv_at hl 0 rfl) ?_
  refine G_Sending_rows hc hw wd_320 (dq tk_Sending_costOf 2 rfl) ?_
  refine lv_icmp_gt (tgt := 16) hx hb (dq tk_Sending_costOf 3 rfl) (by decide) (fun c1 => ?_) (fun c1 => ?_)
  · replace hf := if_t hf c1
    refine lv_iconst (v := 0) hx hb (dq tk_Sending_costOf 8 rfl) (by decide) ?_
    cases hf
    exact x_iret hc hw hr (dq tk_Sending_costOf 9 rfl)
  · replace hf := if_f hf c1
    refine lv_iload_n hx hb (dq tk_Sending_costOf 4 rfl) rfl (lv_at hl 2 rfl) ?_
    refine lv_aload_n hx hb (dq tk_Sending_costOf 5 rfl) rfl (lv_at hl 0 rfl) ?_
    refine G_Sending_columns hc hw wd_321 (dq tk_Sending_costOf 6 rfl) ?_
    refine lv_icmp_le (tgt := 18) hx hb (dq tk_Sending_costOf 7 rfl) (by decide) (fun c2 => ?_) (fun c2 => ?_)
    · replace hf := if_t hf c2
      refine lv_aload_n hx hb (dq tk_Sending_costOf 10 rfl) rfl (lv_at hl 0 rfl) ?_
      refine lv_iload_n hx hb (dq tk_Sending_costOf 11 rfl) rfl (lv_at hl 1 rfl) ?_
      refine lv_iload_n hx hb (dq tk_Sending_costOf 12 rfl) rfl (lv_at hl 2 rfl) ?_
      obtain ⟨r1, h13, hf⟩ := bn1_someZ hf
      refine K_Sending_isPair hc hw wd_988 h13 (hR.mono (by decide)) ⟨Nat.zero_le _, Nat.zero_le _⟩ hl.1 (Nat.le_of_ble_eq_true rfl) (dq tk_Sending_costOf 13 rfl) (fun H locs hw _ => ?_)
      refine lv_if_eq (tgt := 53) hx hb (dq tk_Sending_costOf 14 rfl) (by decide) (fun c3 => ?_) (fun c3 => ?_)
      · replace hf := if_t hf c3
        refine lv_iconst (v := 1) hx hb (dq tk_Sending_costOf 33 rfl) (by decide) ?_
        cases hf
        exact x_iret hc hw hr (dq tk_Sending_costOf 34 rfl)
      · replace hf := if_f hf c3
        refine lv_aload_n hx hb (dq tk_Sending_costOf 15 rfl) rfl (lv_at hl 0 rfl) ?_
        refine G_Sending_gain hc hw wd_314 (dq tk_Sending_costOf 16 rfl) ?_
        refine lv_aload_n hx hb (dq tk_Sending_costOf 17 rfl) rfl (lv_at hl 0 rfl) ?_
        refine G_Sending_who hc hw wd_318 (dq tk_Sending_costOf 18 rfl) ?_
        refine lv_iload_n hx hb (dq tk_Sending_costOf 19 rfl) rfl (lv_at hl 1 rfl) ?_
        refine lv_iconst (v := 1) hx hb (dq tk_Sending_costOf 20 rfl) (by decide) ?_
        refine lv_isub hx hb (dq tk_Sending_costOf 21 rfl) ?_
        obtain ⟨c4, hf⟩ := chk_some hf
        refine AL_Sending_who hc hw c4 (dq tk_Sending_costOf 22 rfl) ?_
        obtain ⟨c5, hf⟩ := chk_some hf
        refine AL_Sending_gain hc hw c5 (dq tk_Sending_costOf 23 rfl) ?_
        refine lv_aload_n hx hb (dq tk_Sending_costOf 24 rfl) rfl (lv_at hl 0 rfl) ?_
        refine G_Sending_where hc hw wd_319 (dq tk_Sending_costOf 25 rfl) ?_
        refine lv_iload_n hx hb (dq tk_Sending_costOf 26 rfl) rfl (lv_at hl 2 rfl) ?_
        refine lv_iconst (v := 1) hx hb (dq tk_Sending_costOf 27 rfl) (by decide) ?_
        refine lv_isub hx hb (dq tk_Sending_costOf 28 rfl) ?_
        obtain ⟨c6, hf⟩ := chk_some hf
        refine AL_Sending_where hc hw c6 (dq tk_Sending_costOf 29 rfl) ?_
        obtain ⟨c7, hf⟩ := chk_some hf
        refine AL_Sending_gainr (inb_lt c5) hc hw c7 (dq tk_Sending_costOf 30 rfl) ?_
        refine lv_ineg hx hb (dq tk_Sending_costOf 31 rfl) ?_
        refine lv_goto (tgt := 54) hx hb (dq tk_Sending_costOf 32 rfl) (by decide) ?_
        cases hf
        exact x_iret hc hw hr (dq tk_Sending_costOf 34 rfl)
    · replace hf := if_f hf c2
      refine lv_iconst (v := 0) hx hb (dq tk_Sending_costOf 8 rfl) (by decide) ?_
      cases hf
      exact x_iret hc hw hr (dq tk_Sending_costOf 9 rfl)
theorem c_Sending_costOf {N : Nat}  {x1 : Int32} {x2 : Int32} {rv : Int32} {σ : St} (hf : fSending_costOf N x1 x2 σ = some rv) : Ct l Z y_Sending_costOf prog_11_method_6_code 3 (some .int) (rmo (1)) [.ref (Z.1 + 46), .int x1, .int x2] (cmb σ μ) (some (.int rv)) True (cmb σ μ) := by
  refine x_met (by decide) (Nat.le_of_ble_eq_true rfl) (fun p e s m args below meth c ls hc hr hw hl => ?_)
  exact w_Sending_costOf hc hr RO.self hw hl hf
theorem K_Sending_costOf {idx : Nat} {N : Nat}  {x1 : Int32} {x2 : Int32} {rv : Int32} {σ : St} (hc : Cxz p s m meth c args cc own nL Z) (hw : Wd Z (cmb σ μ) s H locs) (hl : Cond.methodLink own idx y_Sending_costOf ∈ TB) (hf : fSending_costOf N x1 x2 σ = some rv) (hR : RO R ((1) + 1)) (hcs : cells ≤ R.cells ∧ slots ≤ R.slots) (hls : ls.size = nL) (hst : (rest.map fun v => v.category).sum ≤ 8) (hdg : decode cc pc = .ok (.invokevirtual idx, 3)) (kk : ∀ (H1 : Heap) (locs1 : List Loc), Wd Z (cmb σ μ) s H1 locs1 → True → W p l e R s m args below meth c H1 locs1 cells slots Q (F0 m (pc + 3) ls (.int rv :: rest))) : W p l e R s m args below meth c H locs cells slots Q (F0 m pc ls (.int x2 :: .int x1 :: .ref (Z.1 + 46) :: rest)) :=
  x_iv hc hw (c_Sending_costOf hf) yv_Sending_costOf (Nat.le_of_ble_eq_true rfl) rfl rfl hl (RO.call hR (by decide)) hcs rfl hls hst hdg rfl kk
set_option maxRecDepth 10000 in
theorem w_Sending_overPrice {N : Nat} (hc : Cxz p s m meth c args prog_11_method_7_code "LabourExchange$Sending" 3 Z) (hr : meth.sig.returnType = (some .int)) (hR : RO R 2) {rv : Int32} {σ : St} : ∀ {x1 : Int32} {x2 : Int32} {H : Heap} {locs : List Loc} {ls : Array Slot}, Wd Z (cmb σ μ) s H locs → lv_has ls 3 [(0, .ref (Z.1 + 46)), (1, .int x1), (2, .int x2)] → fSending_overPrice N x1 x2 σ = some rv → W p l e R s m args below meth c H locs 0 0 (MQ below (Qr Z (some (.int rv)) True (cmb σ μ)) args s 0 0 (fun q => Z.1 ≤ q)) (F0 m 0 ls []) := by
  have hx := hc.hx
  have hb := hc.hb
  intro x1 x2 H locs ls hw hl hf
  unfold fSending_overPrice at hf
  refine lv_aload_n hx hb (dq tk_Sending_overPrice 0 rfl) rfl (lv_at hl 0 rfl) ?_
  refine lv_iload_n hx hb (dq tk_Sending_overPrice 1 rfl) rfl (lv_at hl 1 rfl) ?_
  refine lv_iload_n hx hb (dq tk_Sending_overPrice 2 rfl) rfl (lv_at hl 2 rfl) ?_
  obtain ⟨r1, h3, hf⟩ := bn1_someZ hf
  refine K_Sending_costOf hc hw wd_984 h3 (hR.mono (by decide)) ⟨Nat.zero_le _, Nat.zero_le _⟩ hl.1 (Nat.le_of_ble_eq_true rfl) (dq tk_Sending_overPrice 3 rfl) (fun H locs hw _ => ?_)
  refine lv_aload_n hx hb (dq tk_Sending_overPrice 4 rfl) rfl (lv_at hl 0 rfl) ?_
  refine G_Sending_rowPrice hc hw wd_323 (dq tk_Sending_overPrice 5 rfl) ?_
  refine lv_iload_n hx hb (dq tk_Sending_overPrice 6 rfl) rfl (lv_at hl 1 rfl) ?_
  obtain ⟨c1, hf⟩ := chk_some hf
  refine AL_Sending_rowPrice hc hw c1 (dq tk_Sending_overPrice 7 rfl) ?_
  refine lv_isub hx hb (dq tk_Sending_overPrice 8 rfl) ?_
  refine lv_aload_n hx hb (dq tk_Sending_overPrice 9 rfl) rfl (lv_at hl 0 rfl) ?_
  refine G_Sending_columnPrice hc hw wd_324 (dq tk_Sending_overPrice 10 rfl) ?_
  refine lv_iload_n hx hb (dq tk_Sending_overPrice 11 rfl) rfl (lv_at hl 2 rfl) ?_
  obtain ⟨c2, hf⟩ := chk_some hf
  refine AL_Sending_columnPrice hc hw c2 (dq tk_Sending_overPrice 12 rfl) ?_
  refine lv_isub hx hb (dq tk_Sending_overPrice 13 rfl) ?_
  cases hf
  exact x_iret hc hw hr (dq tk_Sending_overPrice 14 rfl)
theorem c_Sending_overPrice {N : Nat}  {x1 : Int32} {x2 : Int32} {rv : Int32} {σ : St} (hf : fSending_overPrice N x1 x2 σ = some rv) : Ct l Z y_Sending_overPrice prog_11_method_7_code 3 (some .int) (rmo (2)) [.ref (Z.1 + 46), .int x1, .int x2] (cmb σ μ) (some (.int rv)) True (cmb σ μ) := by
  refine x_met (by decide) (Nat.le_of_ble_eq_true rfl) (fun p e s m args below meth c ls hc hr hw hl => ?_)
  exact w_Sending_overPrice hc hr RO.self hw hl hf
theorem K_Sending_overPrice {idx : Nat} {N : Nat}  {x1 : Int32} {x2 : Int32} {rv : Int32} {σ : St} (hc : Cxz p s m meth c args cc own nL Z) (hw : Wd Z (cmb σ μ) s H locs) (hl : Cond.methodLink own idx y_Sending_overPrice ∈ TB) (hf : fSending_overPrice N x1 x2 σ = some rv) (hR : RO R ((2) + 1)) (hcs : cells ≤ R.cells ∧ slots ≤ R.slots) (hls : ls.size = nL) (hst : (rest.map fun v => v.category).sum ≤ 8) (hdg : decode cc pc = .ok (.invokevirtual idx, 3)) (kk : ∀ (H1 : Heap) (locs1 : List Loc), Wd Z (cmb σ μ) s H1 locs1 → True → W p l e R s m args below meth c H1 locs1 cells slots Q (F0 m (pc + 3) ls (.int rv :: rest))) : W p l e R s m args below meth c H locs cells slots Q (F0 m pc ls (.int x2 :: .int x1 :: .ref (Z.1 + 46) :: rest)) :=
  x_iv hc hw (c_Sending_overPrice hf) yv_Sending_overPrice (Nat.le_of_ble_eq_true rfl) rfl rfl hl (RO.call hR (by decide)) hcs rfl hls hst hdg rfl kk
set_option maxRecDepth 10000 in
theorem w_Sending_reachFrom_76 {N : Nat} (hc : Cxz p s m meth c args prog_11_method_9_code "LabourExchange$Sending" 7 Z) (hr : meth.sig.returnType = (some .int)) (hR : RO R 3) {rv : Int32} {σ' : St} {go16 : Int32 → Int32 → Int32 → Int32 → Int32 → St → Option (Int32 × St)} (hgo16 : ∀ {x1 : Int32} {x2 : Int32} {x3 : Int32} {x4 : Int32} {x5 : Int32} {σ : St} {H : Heap} {locs : List Loc} {ls : Array Slot}, Wd Z (cmb σ μ) s H locs → lv_has ls 7 [(0, .ref (Z.1 + 46)), (1, .int x1), (2, .int x2), (3, .int x3), (4, .int x4), (5, .int x5)] → go16 x1 x2 x3 x4 x5 σ = some (rv, σ') → W p l e R s m args below meth c H locs 0 0 (MQ below (Qr Z (some (.int rv)) True (cmb σ' μ)) args s 0 0 (fun q => Z.1 ≤ q)) (F0 m 16 ls [])) : ∀ {x1 : Int32} {x2 : Int32} {x3 : Int32} {x4 : Int32} {x5 : Int32} {σ : St} {H : Heap} {locs : List Loc} {ls : Array Slot}, Wd Z (cmb σ μ) s H locs → lv_has ls 7 [(0, .ref (Z.1 + 46)), (1, .int x1), (2, .int x2), (3, .int x3), (4, .int x4), (5, .int x5)] → fSending_reachFrom_76 N go16 x1 x2 x3 x4 x5 σ = some (rv, σ') → W p l e R s m args below meth c H locs 0 0 (MQ below (Qr Z (some (.int rv)) True (cmb σ' μ)) args s 0 0 (fun q => Z.1 ≤ q)) (F0 m 76 ls []) := by
  have hx := hc.hx
  have hb := hc.hb
  intro x1 x2 x3 x4 x5 σ H locs ls hw hl hf
  unfold fSending_reachFrom_76 at hf
  refine lv_aload_n hx hb (dq tk_Sending_reachFrom 42 rfl) rfl (lv_at hl 0 rfl) ?_
  refine G_Sending_least hc hw wd_328 (dq tk_Sending_reachFrom 43 rfl) ?_
  refine lv_iload hx hb (dq tk_Sending_reachFrom 44 rfl) (lv_at hl 5 rfl) ?_
  obtain ⟨c1, hf⟩ := chk_some hf
  refine AL_Sending_least hc hw c1 (dq tk_Sending_reachFrom 45 rfl) ?_
  refine lv_iload hx hb (dq tk_Sending_reachFrom 46 rfl) (lv_at hl 4 rfl) ?_
  refine lv_icmp_ge (tgt := 100) hx hb (dq tk_Sending_reachFrom 47 rfl) (by decide) (fun c2 => ?_) (fun c2 => ?_)
  · replace hf := if_t hf c2
    refine lv_iinc (v := (x5 + 1)) (lv' := [(5, .int (x5 + 1)), (0, .ref (Z.1 + 46)), (1, .int x1), (2, .int x2), (3, .int x3), (4, .int x4)]) hx hb (dq tk_Sending_reachFrom 55 rfl) hl (k := 5) rfl rfl (by decide) rfl (fun ls hl => ?_)
    refine lv_goto (tgt := 16) hx hb (dq tk_Sending_reachFrom 56 rfl) (by decide) ?_
    exact hgo16 hw (lv_sub hl [1, 2, 3, 4, 5, 0] rfl) hf
  · replace hf := if_f hf c2
    refine lv_aload_n hx hb (dq tk_Sending_reachFrom 48 rfl) rfl (lv_at hl 0 rfl) ?_
    refine G_Sending_least hc hw wd_328 (dq tk_Sending_reachFrom 49 rfl) ?_
    refine lv_iload hx hb (dq tk_Sending_reachFrom 50 rfl) (lv_at hl 5 rfl) ?_
    refine AL_Sending_least hc hw c1 (dq tk_Sending_reachFrom 51 rfl) ?_
    obtain ⟨y1, hy1, hf⟩ := nm_some hf
    refine tst (congrArg Value.int hy1) ?_
    refine lv_istore (lv' := [(4, .int y1), (0, .ref (Z.1 + 46)), (1, .int x1), (2, .int x2), (3, .int x3), (5, .int x5)]) hx hb (dq tk_Sending_reachFrom 52 rfl) hl (by decide) rfl (fun ls hl => ?_)
    refine lv_iload hx hb (dq tk_Sending_reachFrom 53 rfl) (lv_at hl 5 rfl) ?_
    refine lv_istore_n (lv' := [(3, .int x5), (4, .int y1), (0, .ref (Z.1 + 46)), (1, .int x1), (2, .int x2), (5, .int x5)]) hx hb (dq tk_Sending_reachFrom 54 rfl) rfl hl (by decide) rfl (fun ls hl => ?_)
    refine lv_iinc (v := (x5 + 1)) (lv' := [(5, .int (x5 + 1)), (3, .int x5), (4, .int y1), (0, .ref (Z.1 + 46)), (1, .int x1), (2, .int x2)]) hx hb (dq tk_Sending_reachFrom 55 rfl) hl (k := 5) rfl rfl (by decide) rfl (fun ls hl => ?_)
    refine lv_goto (tgt := 16) hx hb (dq tk_Sending_reachFrom 56 rfl) (by decide) ?_
    exact hgo16 hw (lv_sub hl [3, 4, 5, 1, 2, 0] rfl) hf
set_option maxRecDepth 10000 in
theorem w_Sending_reachFrom_109 {N : Nat} (hc : Cxz p s m meth c args prog_11_method_9_code "LabourExchange$Sending" 7 Z) (hr : meth.sig.returnType = (some .int)) (hR : RO R 3) {rv : Int32} {σ' : St} (n : Nat) : ∀ {x3 : Int32} {x4 : Int32} {x5 : Int32} {σ : St} {H : Heap} {locs : List Loc} {ls : Array Slot}, Wd Z (cmb σ μ) s H locs → lv_has ls 7 [(0, .ref (Z.1 + 46)), (3, .int x3), (4, .int x4), (5, .int x5)] → fSending_reachFrom_109 N n x3 x4 x5 σ = some (rv, σ') → W p l e R s m args below meth c H locs 0 0 (MQ below (Qr Z (some (.int rv)) True (cmb σ' μ)) args s 0 0 (fun q => Z.1 ≤ q)) (F0 m 109 ls []) := by
  have hx := hc.hx
  have hb := hc.hb
  induction n with
  | zero =>
    intro x3 x4 x5 σ H locs ls hw hl hf
    have hf : none = some _ := hf
    cases hf
  | succ n ih =>
    intro x3 x4 x5 σ H locs ls hw hl hf
    unfold fSending_reachFrom_109 at hf
    refine lv_iload hx hb (dq tk_Sending_reachFrom 59 rfl) (lv_at hl 3 rfl) ?_
    refine lv_aload_n hx hb (dq tk_Sending_reachFrom 60 rfl) rfl (lv_at hl 0 rfl) ?_
    refine G_Sending_size hc hw wd_322 (dq tk_Sending_reachFrom 61 rfl) ?_
    refine lv_icmp_gt (tgt := 178) hx hb (dq tk_Sending_reachFrom 62 rfl) (by decide) (fun c1 => ?_) (fun c1 => ?_)
    · replace hf := if_t hf c1
      refine lv_iload_n hx hb (dq tk_Sending_reachFrom 98 rfl) rfl (lv_at hl 1 rfl) ?_
      cases hf
      exact x_iret hc hw hr (dq tk_Sending_reachFrom 99 rfl)
    · replace hf := if_f hf c1
      refine lv_aload_n hx hb (dq tk_Sending_reachFrom 63 rfl) rfl (lv_at hl 0 rfl) ?_
      refine G_Sending_reached hc hw wd_329 (dq tk_Sending_reachFrom 64 rfl) ?_
      refine lv_iload hx hb (dq tk_Sending_reachFrom 65 rfl) (lv_at hl 3 rfl) ?_
      obtain ⟨c2, hf⟩ := chk_some hf
      refine AL_Sending_reached hc hw c2 (dq tk_Sending_reachFrom 66 rfl) ?_
      refine lv_if_eq (tgt := 160) hx hb (dq tk_Sending_reachFrom 67 rfl) (by decide) (fun c3 => ?_) (fun c3 => ?_)
      · replace hf := if_t hf c3
        refine lv_aload_n hx hb (dq tk_Sending_reachFrom 88 rfl) rfl (lv_at hl 0 rfl) ?_
        refine G_Sending_least hc hw wd_328 (dq tk_Sending_reachFrom 89 rfl) ?_
        refine lv_iload hx hb (dq tk_Sending_reachFrom 90 rfl) (lv_at hl 3 rfl) ?_
        refine lv_dup2_11 hx hb (dq tk_Sending_reachFrom 91 rfl) rfl rfl ?_
        refine AL_Sending_least hc hw c2 (dq tk_Sending_reachFrom 92 rfl) ?_
        refine lv_iload hx hb (dq tk_Sending_reachFrom 93 rfl) (lv_at hl 2 rfl) ?_
        refine lv_isub hx hb (dq tk_Sending_reachFrom 94 rfl) ?_
        obtain ⟨σ1, hσ1, hf⟩ := nm_some hf
        refine AS_Sending_least hc hw c2 hσ1 (dq tk_Sending_reachFrom 95 rfl) (fun H locs hw => ?_)
        refine lv_iinc (v := (x5 + 1)) (lv' := [(5, .int (x5 + 1)), (0, .ref (Z.1 + 46)), (3, .int x3), (4, .int x4)]) hx hb (dq tk_Sending_reachFrom 96 rfl) hl (k := 3) rfl rfl (by decide) rfl (fun ls hl => ?_)
        refine lv_goto (tgt := 109) hx hb (dq tk_Sending_reachFrom 97 rfl) (by decide) ?_
        exact ih hw (lv_sub hl [1, 2, 3, 0] rfl) hf
      · replace hf := if_f hf c3
        refine lv_aload_n hx hb (dq tk_Sending_reachFrom 68 rfl) rfl (lv_at hl 0 rfl) ?_
        refine G_Sending_rowPrice hc hw wd_323 (dq tk_Sending_reachFrom 69 rfl) ?_
        refine lv_aload_n hx hb (dq tk_Sending_reachFrom 70 rfl) rfl (lv_at hl 0 rfl) ?_
        refine G_Sending_rowAt hc hw wd_325 (dq tk_Sending_reachFrom 71 rfl) ?_
        refine lv_iload hx hb (dq tk_Sending_reachFrom 72 rfl) (lv_at hl 3 rfl) ?_
        refine AL_Sending_rowAt hc hw c2 (dq tk_Sending_reachFrom 73 rfl) ?_
        refine lv_dup2_11 hx hb (dq tk_Sending_reachFrom 74 rfl) rfl rfl ?_
        obtain ⟨c4, hf⟩ := chk_some hf
        refine AL_Sending_rowPrice hc hw c4 (dq tk_Sending_reachFrom 75 rfl) ?_
        refine lv_iload hx hb (dq tk_Sending_reachFrom 76 rfl) (lv_at hl 2 rfl) ?_
        refine lv_iadd hx hb (dq tk_Sending_reachFrom 77 rfl) ?_
        obtain ⟨σ2, hσ2, hf⟩ := nm_some hf
        refine AS_Sending_rowPrice hc hw c4 hσ2 (dq tk_Sending_reachFrom 78 rfl) (fun H locs hw => ?_)
        refine lv_aload_n hx hb (dq tk_Sending_reachFrom 79 rfl) rfl (lv_at hl 0 rfl) ?_
        refine G_Sending_columnPrice hc hw wd_324 (dq tk_Sending_reachFrom 80 rfl) ?_
        refine lv_iload hx hb (dq tk_Sending_reachFrom 81 rfl) (lv_at hl 3 rfl) ?_
        refine lv_dup2_11 hx hb (dq tk_Sending_reachFrom 82 rfl) rfl rfl ?_
        refine AL_Sending_columnPrice hc hw c2 (dq tk_Sending_reachFrom 83 rfl) ?_
        refine lv_iload hx hb (dq tk_Sending_reachFrom 84 rfl) (lv_at hl 2 rfl) ?_
        refine lv_isub hx hb (dq tk_Sending_reachFrom 85 rfl) ?_
        obtain ⟨σ3, hσ3, hf⟩ := nm_some hf
        refine AS_Sending_columnPrice hc hw c2 hσ3 (dq tk_Sending_reachFrom 86 rfl) (fun H locs hw => ?_)
        refine lv_goto (tgt := 172) hx hb (dq tk_Sending_reachFrom 87 rfl) (by decide) ?_
        refine lv_iinc (v := (x5 + 1)) (lv' := [(5, .int (x5 + 1)), (0, .ref (Z.1 + 46)), (3, .int x3), (4, .int x4)]) hx hb (dq tk_Sending_reachFrom 96 rfl) hl (k := 3) rfl rfl (by decide) rfl (fun ls hl => ?_)
        refine lv_goto (tgt := 109) hx hb (dq tk_Sending_reachFrom 97 rfl) (by decide) ?_
        exact ih hw (lv_sub hl [1, 2, 3, 0] rfl) hf
set_option maxRecDepth 10000 in
theorem w_Sending_reachFrom_16 {N : Nat} (hc : Cxz p s m meth c args prog_11_method_9_code "LabourExchange$Sending" 7 Z) (hr : meth.sig.returnType = (some .int)) (hR : RO R 3) {rv : Int32} {σ' : St} (n : Nat) : ∀ {x1 : Int32} {x2 : Int32} {x3 : Int32} {x4 : Int32} {x5 : Int32} {σ : St} {H : Heap} {locs : List Loc} {ls : Array Slot}, Wd Z (cmb σ μ) s H locs → lv_has ls 7 [(0, .ref (Z.1 + 46)), (1, .int x1), (2, .int x2), (3, .int x3), (4, .int x4), (5, .int x5)] → fSending_reachFrom_16 N n x1 x2 x3 x4 x5 σ = some (rv, σ') → W p l e R s m args below meth c H locs 0 0 (MQ below (Qr Z (some (.int rv)) True (cmb σ' μ)) args s 0 0 (fun q => Z.1 ≤ q)) (F0 m 16 ls []) := by
  have hx := hc.hx
  have hb := hc.hb
  induction n with
  | zero =>
    intro x1 x2 x3 x4 x5 σ H locs ls hw hl hf
    have hf : none = some _ := hf
    cases hf
  | succ n ih =>
    intro x1 x2 x3 x4 x5 σ H locs ls hw hl hf
    unfold fSending_reachFrom_16 at hf
    refine lv_iload hx hb (dq tk_Sending_reachFrom 11 rfl) (lv_at hl 5 rfl) ?_
    refine lv_aload_n hx hb (dq tk_Sending_reachFrom 12 rfl) rfl (lv_at hl 0 rfl) ?_
    refine G_Sending_size hc hw wd_322 (dq tk_Sending_reachFrom 13 rfl) ?_
    refine lv_icmp_gt (tgt := 106) hx hb (dq tk_Sending_reachFrom 14 rfl) (by decide) (fun c1 => ?_) (fun c1 => ?_)
    · replace hf := if_t hf c1
      refine lv_iconst (v := 0) hx hb (dq tk_Sending_reachFrom 57 rfl) (by decide) ?_
      refine lv_istore (lv' := [(5, .int 0), (0, .ref (Z.1 + 46)), (1, .int x1), (2, .int x2), (3, .int x3), (4, .int x4)]) hx hb (dq tk_Sending_reachFrom 58 rfl) hl (by decide) rfl (fun ls hl => ?_)
      exact w_Sending_reachFrom_109 hc hr hR N hw (lv_sub hl [1, 4, 5, 0] rfl) hf
    · replace hf := if_f hf c1
      refine lv_aload_n hx hb (dq tk_Sending_reachFrom 15 rfl) rfl (lv_at hl 0 rfl) ?_
      refine G_Sending_reached hc hw wd_329 (dq tk_Sending_reachFrom 16 rfl) ?_
      refine lv_iload hx hb (dq tk_Sending_reachFrom 17 rfl) (lv_at hl 5 rfl) ?_
      obtain ⟨c2, hf⟩ := chk_some hf
      refine AL_Sending_reached hc hw c2 (dq tk_Sending_reachFrom 18 rfl) ?_
      refine lv_if_eq (tgt := 38) hx hb (dq tk_Sending_reachFrom 19 rfl) (by decide) (fun c3 => ?_) (fun c3 => ?_)
      · replace hf := if_t hf c3
        refine lv_aload_n hx hb (dq tk_Sending_reachFrom 21 rfl) rfl (lv_at hl 0 rfl) ?_
        refine lv_iload_n hx hb (dq tk_Sending_reachFrom 22 rfl) rfl (lv_at hl 2 rfl) ?_
        refine lv_iload hx hb (dq tk_Sending_reachFrom 23 rfl) (lv_at hl 5 rfl) ?_
        obtain ⟨r1, h24, hf⟩ := bn1_someZ hf
        refine K_Sending_overPrice hc hw wd_980 h24 (hR.mono (by decide)) ⟨Nat.zero_le _, Nat.zero_le _⟩ hl.1 (Nat.le_of_ble_eq_true rfl) (dq tk_Sending_reachFrom 24 rfl) (fun H locs hw _ => ?_)
        refine lv_istore (lv' := [(6, .int r1), (0, .ref (Z.1 + 46)), (1, .int x1), (2, .int x2), (3, .int x3), (4, .int x4), (5, .int x5)]) hx hb (dq tk_Sending_reachFrom 25 rfl) hl (by decide) rfl (fun ls hl => ?_)
        refine lv_iload hx hb (dq tk_Sending_reachFrom 26 rfl) (lv_at hl 0 rfl) ?_
        refine lv_aload_n hx hb (dq tk_Sending_reachFrom 27 rfl) rfl (lv_at hl 1 rfl) ?_
        refine G_Sending_least hc hw wd_328 (dq tk_Sending_reachFrom 28 rfl) ?_
        refine lv_iload hx hb (dq tk_Sending_reachFrom 29 rfl) (lv_at hl 6 rfl) ?_
        refine AL_Sending_least hc hw c2 (dq tk_Sending_reachFrom 30 rfl) ?_
        refine lv_icmp_ge (tgt := 76) hx hb (dq tk_Sending_reachFrom 31 rfl) (by decide) (fun c4 => ?_) (fun c4 => ?_)
        · replace hf := if_t hf c4
          exact w_Sending_reachFrom_76 hc hr hR ih hw (lv_sub hl [1, 2, 3, 4, 5, 6] rfl) hf
        · replace hf := if_f hf c4
          refine lv_aload_n hx hb (dq tk_Sending_reachFrom 32 rfl) rfl (lv_at hl 1 rfl) ?_
          refine G_Sending_least hc hw wd_328 (dq tk_Sending_reachFrom 33 rfl) ?_
          refine lv_iload hx hb (dq tk_Sending_reachFrom 34 rfl) (lv_at hl 6 rfl) ?_
          refine lv_iload hx hb (dq tk_Sending_reachFrom 35 rfl) (lv_at hl 0 rfl) ?_
          obtain ⟨σ2, hσ2, hf⟩ := nm_some hf
          refine AS_Sending_least hc hw c2 hσ2 (dq tk_Sending_reachFrom 36 rfl) (fun H locs hw => ?_)
          refine lv_aload_n hx hb (dq tk_Sending_reachFrom 37 rfl) rfl (lv_at hl 1 rfl) ?_
          refine G_Sending_from hc hw wd_327 (dq tk_Sending_reachFrom 38 rfl) ?_
          refine lv_iload hx hb (dq tk_Sending_reachFrom 39 rfl) (lv_at hl 6 rfl) ?_
          refine lv_iload_n hx hb (dq tk_Sending_reachFrom 40 rfl) rfl (lv_at hl 2 rfl) ?_
          obtain ⟨σ3, hσ3, hf⟩ := nm_some hf
          refine AS_Sending_from hc hw c2 hσ3 (dq tk_Sending_reachFrom 41 rfl) (fun H locs hw => ?_)
          exact w_Sending_reachFrom_76 hc hr hR ih hw (lv_sub hl [1, 2, 3, 4, 5, 6] rfl) hf
      · replace hf := if_f hf c3
        refine lv_goto (tgt := 100) hx hb (dq tk_Sending_reachFrom 20 rfl) (by decide) ?_
        refine lv_iinc (v := (x5 + 1)) (lv' := [(5, .int (x5 + 1)), (0, .ref (Z.1 + 46)), (1, .int x1), (2, .int x2), (3, .int x3), (4, .int x4)]) hx hb (dq tk_Sending_reachFrom 55 rfl) hl (k := 5) rfl rfl (by decide) rfl (fun ls hl => ?_)
        refine lv_goto (tgt := 16) hx hb (dq tk_Sending_reachFrom 56 rfl) (by decide) ?_
        exact ih hw (lv_sub hl [1, 2, 3, 4, 5, 0] rfl) hf
set_option maxRecDepth 10000 in
theorem w_Sending_reachFrom {N : Nat} (hc : Cxz p s m meth c args prog_11_method_9_code "LabourExchange$Sending" 7 Z) (hr : meth.sig.returnType = (some .int)) (hR : RO R 3) {rv : Int32} {σ' : St} : ∀ {x1 : Int32} {σ : St} {H : Heap} {locs : List Loc} {ls : Array Slot}, Wd Z (cmb σ μ) s H locs → lv_has ls 7 [(0, .ref (Z.1 + 46)), (1, .int x1)] → fSending_reachFrom N x1 σ = some (rv, σ') → W p l e R s m args below meth c H locs 0 0 (MQ below (Qr Z (some (.int rv)) True (cmb σ' μ)) args s 0 0 (fun q => Z.1 ≤ q)) (F0 m 0 ls []) := by
  have hx := hc.hx
  have hb := hc.hb
  intro x1 σ H locs ls hw hl hf
  unfold fSending_reachFrom at hf
  refine lv_aload_n hx hb (dq tk_Sending_reachFrom 0 rfl) rfl (lv_at hl 0 rfl) ?_
  refine G_Sending_rowAt hc hw wd_325 (dq tk_Sending_reachFrom 1 rfl) ?_
  refine lv_iload_n hx hb (dq tk_Sending_reachFrom 2 rfl) rfl (lv_at hl 1 rfl) ?_
  obtain ⟨c1, hf⟩ := chk_some hf
  refine AL_Sending_rowAt hc hw c1 (dq tk_Sending_reachFrom 3 rfl) ?_
  obtain ⟨y1, hy1, hf⟩ := nm_some hf
  refine tst (congrArg Value.int hy1) ?_
  refine lv_istore_n (lv' := [(2, .int y1), (0, .ref (Z.1 + 46)), (1, .int x1)]) hx hb (dq tk_Sending_reachFrom 4 rfl) rfl hl (by decide) rfl (fun ls hl => ?_)
  refine lv_iconst (v := 0) hx hb (dq tk_Sending_reachFrom 5 rfl) (by decide) ?_
  refine lv_istore_n (lv' := [(3, .int 0), (2, .int y1), (0, .ref (Z.1 + 46)), (1, .int x1)]) hx hb (dq tk_Sending_reachFrom 6 rfl) rfl hl (by decide) rfl (fun ls hl => ?_)
  refine lv_ldc hx hb hc.ho (hc.ht _ wd_975) (dq tk_Sending_reachFrom 7 rfl) ?_
  refine lv_istore (lv' := [(4, .int 1000000000), (3, .int 0), (2, .int y1), (0, .ref (Z.1 + 46)), (1, .int x1)]) hx hb (dq tk_Sending_reachFrom 8 rfl) hl (by decide) rfl (fun ls hl => ?_)
  refine lv_iconst (v := 1) hx hb (dq tk_Sending_reachFrom 9 rfl) (by decide) ?_
  refine lv_istore (lv' := [(5, .int 1), (4, .int 1000000000), (3, .int 0), (2, .int y1), (0, .ref (Z.1 + 46)), (1, .int x1)]) hx hb (dq tk_Sending_reachFrom 10 rfl) hl (by decide) rfl (fun ls hl => ?_)
  exact w_Sending_reachFrom_16 hc hr hR N hw (lv_sub hl [4, 5, 3, 2, 1, 0] rfl) hf
theorem c_Sending_reachFrom {N : Nat}  {x1 : Int32} {rv : Int32} {σ' : St} {σ : St} (hf : fSending_reachFrom N x1 σ = some (rv, σ')) : Ct l Z y_Sending_reachFrom prog_11_method_9_code 7 (some .int) (rmo (3)) [.ref (Z.1 + 46), .int x1] (cmb σ μ) (some (.int rv)) True (cmb σ' μ) := by
  refine x_met (by decide) (Nat.le_of_ble_eq_true rfl) (fun p e s m args below meth c ls hc hr hw hl => ?_)
  exact w_Sending_reachFrom hc hr RO.self hw hl hf
theorem K_Sending_reachFrom {idx : Nat} {N : Nat}  {x1 : Int32} {rv : Int32} {σ' : St} {σ : St} (hc : Cxz p s m meth c args cc own nL Z) (hw : Wd Z (cmb σ μ) s H locs) (hl : Cond.methodLink own idx y_Sending_reachFrom ∈ TB) (hf : fSending_reachFrom N x1 σ = some (rv, σ')) (hR : RO R ((3) + 1)) (hcs : cells ≤ R.cells ∧ slots ≤ R.slots) (hls : ls.size = nL) (hst : (rest.map fun v => v.category).sum ≤ 8) (hdg : decode cc pc = .ok (.invokevirtual idx, 3)) (kk : ∀ (H1 : Heap) (locs1 : List Loc), Wd Z (cmb σ' μ) s H1 locs1 → True → W p l e R s m args below meth c H1 locs1 cells slots Q (F0 m (pc + 3) ls (.int rv :: rest))) : W p l e R s m args below meth c H locs cells slots Q (F0 m pc ls (.int x1 :: .ref (Z.1 + 46) :: rest)) :=
  x_iv hc hw (c_Sending_reachFrom hf) yv_Sending_reachFrom (Nat.le_of_ble_eq_true rfl) rfl rfl hl (RO.call hR (by decide)) hcs rfl hls hst hdg rfl kk
set_option maxRecDepth 10000 in
theorem w_Sending_place_65 {N : Nat} (hc : Cxz p s m meth c args prog_11_method_8_code "LabourExchange$Sending" 4 Z) (hr : meth.sig.returnType = none) (hR : RO R 4) {σ' : St} (n : Nat) : ∀ {x2 : Int32} {x3 : Int32} {σ : St} {H : Heap} {locs : List Loc} {ls : Array Slot}, Wd Z (cmb σ μ) s H locs → lv_has ls 4 [(0, .ref (Z.1 + 46)), (2, .int x2), (3, .int x3)] → fSending_place_65 N n x2 x3 σ = some σ' → W p l e R s m args below meth c H locs 0 0 (MQ below (Qr Z none True (cmb σ' μ)) args s 0 0 (fun q => Z.1 ≤ q)) (F0 m 65 ls []) := by
  have hx := hc.hx
  have hb := hc.hb
  induction n with
  | zero =>
    intro x2 x3 σ H locs ls hw hl hf
    have hf : none = some _ := hf
    cases hf
  | succ n ih =>
    intro x2 x3 σ H locs ls hw hl hf
    unfold fSending_place_65 at hf
    refine lv_iload_n hx hb (dq tk_Sending_place 38 rfl) rfl (lv_at hl 2 rfl) ?_
    refine lv_aload_n hx hb (dq tk_Sending_place 39 rfl) rfl (lv_at hl 0 rfl) ?_
    refine G_Sending_size hc hw wd_322 (dq tk_Sending_place 40 rfl) ?_
    refine lv_icmp_gt (tgt := 107) hx hb (dq tk_Sending_place 41 rfl) (by decide) (fun c1 => ?_) (fun c1 => ?_)
    · replace hf := if_t hf c1
      cases hf
      exact x_vret hc hw hr (dq tk_Sending_place 62 rfl)
    · replace hf := if_f hf c1
      refine lv_iload_n hx hb (dq tk_Sending_place 42 rfl) rfl (lv_at hl 1 rfl) ?_
      refine lv_if_eq (tgt := 107) hx hb (dq tk_Sending_place 43 rfl) (by decide) (fun c2 => ?_) (fun c2 => ?_)
      · replace hf := if_t hf c2
        cases hf
        exact x_vret hc hw hr (dq tk_Sending_place 62 rfl)
      · replace hf := if_f hf c2
        refine lv_aload_n hx hb (dq tk_Sending_place 44 rfl) rfl (lv_at hl 0 rfl) ?_
        refine G_Sending_rowAt hc hw wd_325 (dq tk_Sending_place 45 rfl) ?_
        refine lv_iload_n hx hb (dq tk_Sending_place 46 rfl) rfl (lv_at hl 1 rfl) ?_
        refine lv_aload_n hx hb (dq tk_Sending_place 47 rfl) rfl (lv_at hl 0 rfl) ?_
        refine G_Sending_rowAt hc hw wd_325 (dq tk_Sending_place 48 rfl) ?_
        refine lv_aload_n hx hb (dq tk_Sending_place 49 rfl) rfl (lv_at hl 0 rfl) ?_
        refine G_Sending_from hc hw wd_327 (dq tk_Sending_place 50 rfl) ?_
        refine lv_iload_n hx hb (dq tk_Sending_place 51 rfl) rfl (lv_at hl 1 rfl) ?_
        obtain ⟨c3, hf⟩ := chk_some hf
        refine AL_Sending_from hc hw c3 (dq tk_Sending_place 52 rfl) ?_
        obtain ⟨c4, hf⟩ := chk_some hf
        refine AL_Sending_rowAt hc hw c4 (dq tk_Sending_place 53 rfl) ?_
        obtain ⟨σ1, hσ1, hf⟩ := nm_some hf
        refine AS_Sending_rowAt hc hw c3 hσ1 (dq tk_Sending_place 54 rfl) (fun H locs hw => ?_)
        refine lv_aload_n hx hb (dq tk_Sending_place 55 rfl) rfl (lv_at hl 0 rfl) ?_
        refine G_Sending_from hc hw wd_327 (dq tk_Sending_place 56 rfl) ?_
        refine lv_iload_n hx hb (dq tk_Sending_place 57 rfl) rfl (lv_at hl 1 rfl) ?_
        refine AL_Sending_from hc hw c3 (dq tk_Sending_place 58 rfl) ?_
        obtain ⟨y2, hy2, hf⟩ := nm_some hf
        refine tst (congrArg Value.int hy2) ?_
        refine lv_istore_n (lv' := [(2, .int y2), (0, .ref (Z.1 + 46)), (3, .int x3)]) hx hb (dq tk_Sending_place 59 rfl) rfl hl (by decide) rfl (fun ls hl => ?_)
        refine lv_iinc (v := (x3 + 1)) (lv' := [(3, .int (x3 + 1)), (2, .int y2), (0, .ref (Z.1 + 46))]) hx hb (dq tk_Sending_place 60 rfl) hl (k := 2) rfl rfl (by decide) rfl (fun ls hl => ?_)
        refine lv_goto (tgt := 65) hx hb (dq tk_Sending_place 61 rfl) (by decide) ?_
        exact ih hw (lv_sub hl [2, 1, 0] rfl) hf
set_option maxRecDepth 10000 in
theorem w_Sending_place_63 {N : Nat} (hc : Cxz p s m meth c args prog_11_method_8_code "LabourExchange$Sending" 4 Z) (hr : meth.sig.returnType = none) (hR : RO R 4) {σ' : St} : ∀ {x2 : Int32} {σ : St} {H : Heap} {locs : List Loc} {ls : Array Slot}, Wd Z (cmb σ μ) s H locs → lv_has ls 4 [(0, .ref (Z.1 + 46)), (2, .int x2)] → fSending_place_63 N x2 σ = some σ' → W p l e R s m args below meth c H locs 0 0 (MQ below (Qr Z none True (cmb σ' μ)) args s 0 0 (fun q => Z.1 ≤ q)) (F0 m 63 ls []) := by
  have hx := hc.hx
  have hb := hc.hb
  intro x2 σ H locs ls hw hl hf
  unfold fSending_place_63 at hf
  refine lv_iconst (v := 0) hx hb (dq tk_Sending_place 36 rfl) (by decide) ?_
  refine lv_istore_n (lv' := [(3, .int 0), (0, .ref (Z.1 + 46)), (2, .int x2)]) hx hb (dq tk_Sending_place 37 rfl) rfl hl (by decide) rfl (fun ls hl => ?_)
  exact w_Sending_place_65 hc hr hR N hw (lv_sub hl [1, 2, 0] rfl) hf
set_option maxRecDepth 10000 in
theorem w_Sending_place_27 {N : Nat} (hc : Cxz p s m meth c args prog_11_method_8_code "LabourExchange$Sending" 4 Z) (hr : meth.sig.returnType = none) (hR : RO R 4) {σ' : St} (n : Nat) : ∀ {x2 : Int32} {x3 : Int32} {σ : St} {H : Heap} {locs : List Loc} {ls : Array Slot}, Wd Z (cmb σ μ) s H locs → lv_has ls 4 [(0, .ref (Z.1 + 46)), (2, .int x2), (3, .int x3)] → fSending_place_27 N n x2 x3 σ = some σ' → W p l e R s m args below meth c H locs 0 0 (MQ below (Qr Z none True (cmb σ' μ)) args s 0 0 (fun q => Z.1 ≤ q)) (F0 m 27 ls []) := by
  have hx := hc.hx
  have hb := hc.hb
  induction n with
  | zero =>
    intro x2 x3 σ H locs ls hw hl hf
    have hf : none = some _ := hf
    cases hf
  | succ n ih =>
    intro x2 x3 σ H locs ls hw hl hf
    unfold fSending_place_27 at hf
    refine lv_iload_n hx hb (dq tk_Sending_place 16 rfl) rfl (lv_at hl 2 rfl) ?_
    refine lv_aload_n hx hb (dq tk_Sending_place 17 rfl) rfl (lv_at hl 0 rfl) ?_
    refine G_Sending_size hc hw wd_322 (dq tk_Sending_place 18 rfl) ?_
    refine lv_icmp_gt (tgt := 63) hx hb (dq tk_Sending_place 19 rfl) (by decide) (fun c1 => ?_) (fun c1 => ?_)
    · replace hf := if_t hf c1
      exact w_Sending_place_63 hc hr hR hw (lv_sub hl [0, 1] rfl) hf
    · replace hf := if_f hf c1
      refine lv_aload_n hx hb (dq tk_Sending_place 20 rfl) rfl (lv_at hl 0 rfl) ?_
      refine G_Sending_rowAt hc hw wd_325 (dq tk_Sending_place 21 rfl) ?_
      refine lv_iload_n hx hb (dq tk_Sending_place 22 rfl) rfl (lv_at hl 1 rfl) ?_
      obtain ⟨c2, hf⟩ := chk_some hf
      refine AL_Sending_rowAt hc hw c2 (dq tk_Sending_place 23 rfl) ?_
      refine lv_if_eq (tgt := 63) hx hb (dq tk_Sending_place 24 rfl) (by decide) (fun c3 => ?_) (fun c3 => ?_)
      · replace hf := if_t hf c3
        exact w_Sending_place_63 hc hr hR hw (lv_sub hl [0, 1] rfl) hf
      · replace hf := if_f hf c3
        refine lv_aload_n hx hb (dq tk_Sending_place 25 rfl) rfl (lv_at hl 0 rfl) ?_
        refine G_Sending_reached hc hw wd_329 (dq tk_Sending_place 26 rfl) ?_
        refine lv_iload_n hx hb (dq tk_Sending_place 27 rfl) rfl (lv_at hl 1 rfl) ?_
        refine lv_iconst (v := 1) hx hb (dq tk_Sending_place 28 rfl) (by decide) ?_
        obtain ⟨σ1, hσ1, hf⟩ := nm_some hf
        refine AS_Sending_reached hc hw c2 hσ1 (dq tk_Sending_place 29 rfl) (fun H locs hw => ?_)
        refine lv_aload_n hx hb (dq tk_Sending_place 30 rfl) rfl (lv_at hl 0 rfl) ?_
        refine lv_iload_n hx hb (dq tk_Sending_place 31 rfl) rfl (lv_at hl 1 rfl) ?_
        obtain ⟨r2, σ3, h32, hf⟩ := bnd_some hf
        refine K_Sending_reachFrom hc hw wd_976 h32 (hR.mono (by decide)) ⟨Nat.zero_le _, Nat.zero_le _⟩ hl.1 (Nat.le_of_ble_eq_true rfl) (dq tk_Sending_place 32 rfl) (fun H locs hw _ => ?_)
        refine lv_istore_n (lv' := [(2, .int r2), (0, .ref (Z.1 + 46)), (3, .int x3)]) hx hb (dq tk_Sending_place 33 rfl) rfl hl (by decide) rfl (fun ls hl => ?_)
        refine lv_iinc (v := (x3 + 1)) (lv' := [(3, .int (x3 + 1)), (2, .int r2), (0, .ref (Z.1 + 46))]) hx hb (dq tk_Sending_place 34 rfl) hl (k := 2) rfl rfl (by decide) rfl (fun ls hl => ?_)
        refine lv_goto (tgt := 27) hx hb (dq tk_Sending_place 35 rfl) (by decide) ?_
        exact ih hw (lv_sub hl [2, 1, 0] rfl) hf
set_option maxRecDepth 10000 in
theorem w_Sending_place {N : Nat} (hc : Cxz p s m meth c args prog_11_method_8_code "LabourExchange$Sending" 4 Z) (hr : meth.sig.returnType = none) (hR : RO R 4) {σ' : St} : ∀ {x1 : Int32} {σ : St} {H : Heap} {locs : List Loc} {ls : Array Slot}, Wd Z (cmb σ μ) s H locs → lv_has ls 4 [(0, .ref (Z.1 + 46)), (1, .int x1)] → fSending_place N x1 σ = some σ' → W p l e R s m args below meth c H locs 0 0 (MQ below (Qr Z none True (cmb σ' μ)) args s 0 0 (fun q => Z.1 ≤ q)) (F0 m 0 ls []) := by
  have hx := hc.hx
  have hb := hc.hb
  intro x1 σ H locs ls hw hl hf
  unfold fSending_place at hf
  refine lv_aload_n hx hb (dq tk_Sending_place 0 rfl) rfl (lv_at hl 0 rfl) ?_
  refine G_Sending_reached hc hw wd_329 (dq tk_Sending_place 1 rfl) ?_
  obtain ⟨σ1, h2, hf⟩ := bn1_someZ hf
  refine K_Sending_unmark_reached hc hw wd_972 h2 (hR.mono (by decide)) ⟨Nat.zero_le _, Nat.zero_le _⟩ hl.1 (Nat.le_of_ble_eq_true rfl) (dq tk_Sending_place 2 rfl) (fun H locs hw _ => ?_)
  refine lv_aload_n hx hb (dq tk_Sending_place 3 rfl) rfl (lv_at hl 0 rfl) ?_
  refine G_Sending_least hc hw wd_328 (dq tk_Sending_place 4 rfl) ?_
  refine lv_ldc hx hb hc.ho (hc.ht _ wd_975) (dq tk_Sending_place 5 rfl) ?_
  obtain ⟨σ2, h6, hf⟩ := bn1_someZ hf
  refine K_Arrays_fill_Sending_least hc hw wd_311 h6 (hR.mono (by decide)) ⟨Nat.zero_le _, Nat.zero_le _⟩ hl.1 (Nat.le_of_ble_eq_true rfl) (dq tk_Sending_place 6 rfl) (fun H locs hw _ => ?_)
  refine lv_aload_n hx hb (dq tk_Sending_place 7 rfl) rfl (lv_at hl 0 rfl) ?_
  refine G_Sending_rowAt hc hw wd_325 (dq tk_Sending_place 8 rfl) ?_
  refine lv_iconst (v := 0) hx hb (dq tk_Sending_place 9 rfl) (by decide) ?_
  refine lv_iload_n hx hb (dq tk_Sending_place 10 rfl) rfl (lv_at hl 1 rfl) ?_
  obtain ⟨σ3, hσ3, hf⟩ := nm_some hf
  refine AS_Sending_rowAt hc hw (by decide) hσ3 (dq tk_Sending_place 11 rfl) (fun H locs hw => ?_)
  refine lv_iconst (v := 0) hx hb (dq tk_Sending_place 12 rfl) (by decide) ?_
  refine lv_istore_n (lv' := [(2, .int 0), (0, .ref (Z.1 + 46)), (1, .int x1)]) hx hb (dq tk_Sending_place 13 rfl) rfl hl (by decide) rfl (fun ls hl => ?_)
  refine lv_iconst (v := 0) hx hb (dq tk_Sending_place 14 rfl) (by decide) ?_
  refine lv_istore_n (lv' := [(3, .int 0), (2, .int 0), (0, .ref (Z.1 + 46)), (1, .int x1)]) hx hb (dq tk_Sending_place 15 rfl) rfl hl (by decide) rfl (fun ls hl => ?_)
  exact w_Sending_place_27 hc hr hR N hw (lv_sub hl [2, 1, 0] rfl) hf
theorem c_Sending_place {N : Nat}  {x1 : Int32} {σ' : St} {σ : St} (hf : fSending_place N x1 σ = some σ') : Ct l Z y_Sending_place prog_11_method_8_code 4 none (rmo (4)) [.ref (Z.1 + 46), .int x1] (cmb σ μ) none True (cmb σ' μ) := by
  refine x_met (by decide) (Nat.le_of_ble_eq_true rfl) (fun p e s m args below meth c ls hc hr hw hl => ?_)
  exact w_Sending_place hc hr RO.self hw hl hf
theorem K_Sending_place {idx : Nat} {N : Nat}  {x1 : Int32} {σ' : St} {σ : St} (hc : Cxz p s m meth c args cc own nL Z) (hw : Wd Z (cmb σ μ) s H locs) (hl : Cond.methodLink own idx y_Sending_place ∈ TB) (hf : fSending_place N x1 σ = some σ') (hR : RO R ((4) + 1)) (hcs : cells ≤ R.cells ∧ slots ≤ R.slots) (hls : ls.size = nL) (hst : (rest.map fun v => v.category).sum ≤ 8) (hdg : decode cc pc = .ok (.invokevirtual idx, 3)) (kk : ∀ (H1 : Heap) (locs1 : List Loc), Wd Z (cmb σ' μ) s H1 locs1 → True → W p l e R s m args below meth c H1 locs1 cells slots Q (F0 m (pc + 3) ls rest)) : W p l e R s m args below meth c H locs cells slots Q (F0 m pc ls (.int x1 :: .ref (Z.1 + 46) :: rest)) :=
  x_iv hc hw (c_Sending_place hf) yv_Sending_place (Nat.le_of_ble_eq_true rfl) rfl rfl hl (RO.call hR (by decide)) hcs rfl hls hst hdg rfl kk
set_option maxRecDepth 10000 in
theorem w_Sending_unmark_settled_2 {N : Nat} (hc : Cxz p s m meth c args prog_11_method_5_code "LabourExchange$Sending" 2 Z) (hr : meth.sig.returnType = none) (hR : RO R 0) {σ' : St} (n : Nat) : ∀ {x1 : Int32} {σ : St} {H : Heap} {locs : List Loc} {ls : Array Slot}, Wd Z (cmb σ μ) s H locs → lv_has ls 2 [(0, .ref (Z.1 + 78)), (1, .int x1)] → fSending_unmark_settled_2 N n x1 σ = some σ' → W p l e R s m args below meth c H locs 0 0 (MQ below (Qr Z none True (cmb σ' μ)) args s 0 0 (fun q => Z.1 ≤ q)) (F0 m 2 ls []) := by
  have hx := hc.hx
  have hb := hc.hb
  induction n with
  | zero =>
    intro x1 σ H locs ls hw hl hf
    have hf : none = some _ := hf
    cases hf
  | succ n ih =>
    intro x1 σ H locs ls hw hl hf
    unfold fSending_unmark_settled_2 at hf
    refine lv_iload_n hx hb (dq tk_Sending_unmark 2 rfl) rfl (lv_at hl 1 rfl) ?_
    refine lv_aload_n hx hb (dq tk_Sending_unmark 3 rfl) rfl (lv_at hl 0 rfl) ?_
    refine LN_Sending_settled hc hw (dq tk_Sending_unmark 4 rfl) ?_
    refine lv_icmp_ge (tgt := 18) hx hb (dq tk_Sending_unmark 5 rfl) (by decide) (fun c1 => ?_) (fun c1 => ?_)
    · replace hf := if_t hf c1
      cases hf
      exact x_vret hc hw hr (dq tk_Sending_unmark 12 rfl)
    · replace hf := if_f hf c1
      refine lv_aload_n hx hb (dq tk_Sending_unmark 6 rfl) rfl (lv_at hl 0 rfl) ?_
      refine lv_iload_n hx hb (dq tk_Sending_unmark 7 rfl) rfl (lv_at hl 1 rfl) ?_
      refine lv_iconst (v := 0) hx hb (dq tk_Sending_unmark 8 rfl) (by decide) ?_
      obtain ⟨c2, hf⟩ := chk_some hf
      obtain ⟨σ1, hσ1, hf⟩ := nm_some hf
      refine AS_Sending_settled hc hw c2 hσ1 (dq tk_Sending_unmark 9 rfl) (fun H locs hw => ?_)
      refine lv_iinc (v := (x1 + 1)) (lv' := [(1, .int (x1 + 1)), (0, .ref (Z.1 + 78))]) hx hb (dq tk_Sending_unmark 10 rfl) hl (k := 1) rfl rfl (by decide) rfl (fun ls hl => ?_)
      refine lv_goto (tgt := 2) hx hb (dq tk_Sending_unmark 11 rfl) (by decide) ?_
      exact ih hw (lv_sub hl [1, 0] rfl) hf
set_option maxRecDepth 10000 in
theorem w_Sending_unmark_settled {N : Nat} (hc : Cxz p s m meth c args prog_11_method_5_code "LabourExchange$Sending" 2 Z) (hr : meth.sig.returnType = none) (hR : RO R 0) {σ' : St} : ∀ {σ : St} {H : Heap} {locs : List Loc} {ls : Array Slot}, Wd Z (cmb σ μ) s H locs → lv_has ls 2 [(0, .ref (Z.1 + 78))] → fSending_unmark_settled N σ = some σ' → W p l e R s m args below meth c H locs 0 0 (MQ below (Qr Z none True (cmb σ' μ)) args s 0 0 (fun q => Z.1 ≤ q)) (F0 m 0 ls []) := by
  have hx := hc.hx
  have hb := hc.hb
  intro σ H locs ls hw hl hf
  unfold fSending_unmark_settled at hf
  refine lv_iconst (v := 0) hx hb (dq tk_Sending_unmark 0 rfl) (by decide) ?_
  refine lv_istore_n (lv' := [(1, .int 0), (0, .ref (Z.1 + 78))]) hx hb (dq tk_Sending_unmark 1 rfl) rfl hl (by decide) rfl (fun ls hl => ?_)
  exact w_Sending_unmark_settled_2 hc hr hR N hw (lv_sub hl [1, 0] rfl) hf
theorem c_Sending_unmark_settled {N : Nat}  {σ' : St} {σ : St} (hf : fSending_unmark_settled N σ = some σ') : Ct l Z y_Sending_unmark prog_11_method_5_code 2 none (rmo (0)) [.ref (Z.1 + 78)] (cmb σ μ) none True (cmb σ' μ) := by
  refine x_met (by decide) (Nat.le_of_ble_eq_true rfl) (fun p e s m args below meth c ls hc hr hw hl => ?_)
  exact w_Sending_unmark_settled hc hr RO.self hw hl hf
theorem K_Sending_unmark_settled {idx : Nat} {N : Nat}  {σ' : St} {σ : St} (hc : Cxz p s m meth c args cc own nL Z) (hw : Wd Z (cmb σ μ) s H locs) (hl : Cond.methodLink own idx y_Sending_unmark ∈ TB) (hf : fSending_unmark_settled N σ = some σ') (hR : RO R ((0) + 1)) (hcs : cells ≤ R.cells ∧ slots ≤ R.slots) (hls : ls.size = nL) (hst : (rest.map fun v => v.category).sum ≤ 8) (hdg : decode cc pc = .ok (.invokestatic idx, 3)) (kk : ∀ (H1 : Heap) (locs1 : List Loc), Wd Z (cmb σ' μ) s H1 locs1 → True → W p l e R s m args below meth c H1 locs1 cells slots Q (F0 m (pc + 3) ls rest)) : W p l e R s m args below meth c H locs cells slots Q (F0 m pc ls (.ref (Z.1 + 78) :: rest)) :=
  x_is hc hw (c_Sending_unmark_settled hf) ys_Sending_unmark hl (RO.call hR (by decide)) hcs rfl hls hst hdg rfl kk
set_option maxRecDepth 10000 in
theorem w_Sending_moveOn_5 {N : Nat} (hc : Cxz p s m meth c args prog_11_method_12_code "LabourExchange$Sending" 7 Z) (hr : meth.sig.returnType = none) (hR : RO R 0) {σ' : St} (n : Nat) : ∀ {x2 : Int32} {x3 : Int32} {x4 : Int32} {σ : St} {H : Heap} {locs : List Loc} {ls : Array Slot}, Wd Z (cmb σ μ) s H locs → lv_has ls 7 [(0, .ref (Z.1 + 46)), (2, .int x2), (3, .int x3), (4, .int x4)] → fSending_moveOn_5 N n x2 x3 x4 σ = some σ' → W p l e R s m args below meth c H locs 0 0 (MQ below (Qr Z none True (cmb σ' μ)) args s 0 0 (fun q => Z.1 ≤ q)) (F0 m 5 ls []) := by
  have hx := hc.hx
  have hb := hc.hb
  induction n with
  | zero =>
    intro x2 x3 x4 σ H locs ls hw hl hf
    have hf : none = some _ := hf
    cases hf
  | succ n ih =>
    intro x2 x3 x4 σ H locs ls hw hl hf
    unfold fSending_moveOn_5 at hf
    refine lv_iload hx hb (dq tk_Sending_moveOn 4 rfl) (lv_at hl 3 rfl) ?_
    refine lv_aload_n hx hb (dq tk_Sending_moveOn 5 rfl) rfl (lv_at hl 0 rfl) ?_
    refine G_Sending_size hc hw wd_322 (dq tk_Sending_moveOn 6 rfl) ?_
    refine lv_icmp_gt (tgt := 61) hx hb (dq tk_Sending_moveOn 7 rfl) (by decide) (fun c1 => ?_) (fun c1 => ?_)
    · replace hf := if_t hf c1
      cases hf
      exact x_vret hc hw hr (dq tk_Sending_moveOn 35 rfl)
    · replace hf := if_f hf c1
      refine lv_iload_n hx hb (dq tk_Sending_moveOn 8 rfl) rfl (lv_at hl 2 rfl) ?_
      refine lv_iload_n hx hb (dq tk_Sending_moveOn 9 rfl) rfl (lv_at hl 1 rfl) ?_
      refine lv_icmp_eq (tgt := 61) hx hb (dq tk_Sending_moveOn 10 rfl) (by decide) (fun c2 => ?_) (fun c2 => ?_)
      · replace hf := if_t hf c2
        cases hf
        exact x_vret hc hw hr (dq tk_Sending_moveOn 35 rfl)
      · replace hf := if_f hf c2
        refine lv_aload_n hx hb (dq tk_Sending_moveOn 11 rfl) rfl (lv_at hl 0 rfl) ?_
        refine G_Sending_from hc hw wd_327 (dq tk_Sending_moveOn 12 rfl) ?_
        refine lv_iload_n hx hb (dq tk_Sending_moveOn 13 rfl) rfl (lv_at hl 2 rfl) ?_
        obtain ⟨c3, hf⟩ := chk_some hf
        refine AL_Sending_from hc hw c3 (dq tk_Sending_moveOn 14 rfl) ?_
        obtain ⟨y1, hy1, hf⟩ := nm_some hf
        refine tst (congrArg Value.int hy1) ?_
        refine lv_istore (lv' := [(5, .int y1), (0, .ref (Z.1 + 46)), (2, .int x2), (3, .int x3), (4, .int x4)]) hx hb (dq tk_Sending_moveOn 15 rfl) hl (by decide) rfl (fun ls hl => ?_)
        refine lv_aload_n hx hb (dq tk_Sending_moveOn 16 rfl) rfl (lv_at hl 1 rfl) ?_
        refine G_Sending_columnOf hc hw wd_326 (dq tk_Sending_moveOn 17 rfl) ?_
        refine lv_iload hx hb (dq tk_Sending_moveOn 18 rfl) (lv_at hl 0 rfl) ?_
        obtain ⟨c4, hf⟩ := chk_some hf
        refine AL_Sending_columnOf hc hw c4 (dq tk_Sending_moveOn 19 rfl) ?_
        obtain ⟨y2, hy2, hf⟩ := nm_some hf
        refine tst (congrArg Value.int hy2) ?_
        refine lv_istore (lv' := [(6, .int y2), (5, .int y1), (0, .ref (Z.1 + 46)), (2, .int x2), (3, .int x3), (4, .int x4)]) hx hb (dq tk_Sending_moveOn 20 rfl) hl (by decide) rfl (fun ls hl => ?_)
        refine lv_aload_n hx hb (dq tk_Sending_moveOn 21 rfl) rfl (lv_at hl 2 rfl) ?_
        refine G_Sending_columnOf hc hw wd_326 (dq tk_Sending_moveOn 22 rfl) ?_
        refine lv_iload hx hb (dq tk_Sending_moveOn 23 rfl) (lv_at hl 1 rfl) ?_
        refine lv_iload_n hx hb (dq tk_Sending_moveOn 24 rfl) rfl (lv_at hl 4 rfl) ?_
        obtain ⟨σ3, hσ3, hf⟩ := nm_some hf
        refine AS_Sending_columnOf hc hw c4 hσ3 (dq tk_Sending_moveOn 25 rfl) (fun H locs hw => ?_)
        refine lv_aload_n hx hb (dq tk_Sending_moveOn 26 rfl) rfl (lv_at hl 2 rfl) ?_
        refine G_Sending_rowAt hc hw wd_325 (dq tk_Sending_moveOn 27 rfl) ?_
        refine lv_iload_n hx hb (dq tk_Sending_moveOn 28 rfl) rfl (lv_at hl 4 rfl) ?_
        refine lv_iload hx hb (dq tk_Sending_moveOn 29 rfl) (lv_at hl 1 rfl) ?_
        obtain ⟨σ4, hσ4, hf⟩ := nm_some hf
        refine AS_Sending_rowAt hc hw c3 hσ4 (dq tk_Sending_moveOn 30 rfl) (fun H locs hw => ?_)
        refine lv_iload hx hb (dq tk_Sending_moveOn 31 rfl) (lv_at hl 0 rfl) ?_
        refine lv_istore_n (lv' := [(3, .int y2), (6, .int y2), (5, .int y1), (0, .ref (Z.1 + 46)), (2, .int x2), (4, .int x4)]) hx hb (dq tk_Sending_moveOn 32 rfl) rfl hl (by decide) rfl (fun ls hl => ?_)
        refine lv_iinc (v := (x4 + 1)) (lv' := [(4, .int (x4 + 1)), (3, .int y2), (6, .int y2), (5, .int y1), (0, .ref (Z.1 + 46)), (2, .int x2)]) hx hb (dq tk_Sending_moveOn 33 rfl) hl (k := 5) rfl rfl (by decide) rfl (fun ls hl => ?_)
        refine lv_goto (tgt := 5) hx hb (dq tk_Sending_moveOn 34 rfl) (by decide) ?_
        exact ih hw (lv_sub hl [4, 5, 1, 0] rfl) hf
set_option maxRecDepth 10000 in
theorem w_Sending_moveOn {N : Nat} (hc : Cxz p s m meth c args prog_11_method_12_code "LabourExchange$Sending" 7 Z) (hr : meth.sig.returnType = none) (hR : RO R 0) {σ' : St} : ∀ {x1 : Int32} {x2 : Int32} {σ : St} {H : Heap} {locs : List Loc} {ls : Array Slot}, Wd Z (cmb σ μ) s H locs → lv_has ls 7 [(0, .ref (Z.1 + 46)), (1, .int x1), (2, .int x2)] → fSending_moveOn N x1 x2 σ = some σ' → W p l e R s m args below meth c H locs 0 0 (MQ below (Qr Z none True (cmb σ' μ)) args s 0 0 (fun q => Z.1 ≤ q)) (F0 m 0 ls []) := by
  have hx := hc.hx
  have hb := hc.hb
  intro x1 x2 σ H locs ls hw hl hf
  unfold fSending_moveOn at hf
  refine lv_iload_n hx hb (dq tk_Sending_moveOn 0 rfl) rfl (lv_at hl 1 rfl) ?_
  refine lv_istore_n (lv' := [(3, .int x1), (0, .ref (Z.1 + 46)), (1, .int x1), (2, .int x2)]) hx hb (dq tk_Sending_moveOn 1 rfl) rfl hl (by decide) rfl (fun ls hl => ?_)
  refine lv_iconst (v := 0) hx hb (dq tk_Sending_moveOn 2 rfl) (by decide) ?_
  refine lv_istore (lv' := [(4, .int 0), (3, .int x1), (0, .ref (Z.1 + 46)), (1, .int x1), (2, .int x2)]) hx hb (dq tk_Sending_moveOn 3 rfl) hl (by decide) rfl (fun ls hl => ?_)
  exact w_Sending_moveOn_5 hc hr hR N hw (lv_sub hl [2, 4, 1, 0] rfl) hf
theorem c_Sending_moveOn {N : Nat}  {x1 : Int32} {x2 : Int32} {σ' : St} {σ : St} (hf : fSending_moveOn N x1 x2 σ = some σ') : Ct l Z y_Sending_moveOn prog_11_method_12_code 7 none (rmo (0)) [.ref (Z.1 + 46), .int x1, .int x2] (cmb σ μ) none True (cmb σ' μ) := by
  refine x_met (by decide) (Nat.le_of_ble_eq_true rfl) (fun p e s m args below meth c ls hc hr hw hl => ?_)
  exact w_Sending_moveOn hc hr RO.self hw hl hf
theorem K_Sending_moveOn {idx : Nat} {N : Nat}  {x1 : Int32} {x2 : Int32} {σ' : St} {σ : St} (hc : Cxz p s m meth c args cc own nL Z) (hw : Wd Z (cmb σ μ) s H locs) (hl : Cond.methodLink own idx y_Sending_moveOn ∈ TB) (hf : fSending_moveOn N x1 x2 σ = some σ') (hR : RO R ((0) + 1)) (hcs : cells ≤ R.cells ∧ slots ≤ R.slots) (hls : ls.size = nL) (hst : (rest.map fun v => v.category).sum ≤ 8) (hdg : decode cc pc = .ok (.invokevirtual idx, 3)) (kk : ∀ (H1 : Heap) (locs1 : List Loc), Wd Z (cmb σ' μ) s H1 locs1 → True → W p l e R s m args below meth c H1 locs1 cells slots Q (F0 m (pc + 3) ls rest)) : W p l e R s m args below meth c H locs cells slots Q (F0 m pc ls (.int x2 :: .int x1 :: .ref (Z.1 + 46) :: rest)) :=
  x_iv hc hw (c_Sending_moveOn hf) yv_Sending_moveOn (Nat.le_of_ble_eq_true rfl) rfl rfl hl (RO.call hR (by decide)) hcs rfl hls hst hdg rfl kk
set_option maxRecDepth 10000 in
theorem w_Sending_exchange_58 {N : Nat} (hc : Cxz p s m meth c args prog_11_method_11_code "LabourExchange$Sending" 7 Z) (hr : meth.sig.returnType = (some .boolean)) (hR : RO R 3) {rv : Int32} {σ' : St} {go39 : Int32 → Int32 → Int32 → Int32 → Int32 → St → Option (Int32 × St)} (hgo39 : ∀ {x1 : Int32} {x2 : Int32} {x3 : Int32} {x4 : Int32} {x5 : Int32} {σ : St} {H : Heap} {locs : List Loc} {ls : Array Slot}, Wd Z (cmb σ μ) s H locs → lv_has ls 7 [(0, .ref (Z.1 + 46)), (1, .int x1), (2, .int x2), (3, .int x3), (4, .int x4), (5, .int x5)] → go39 x1 x2 x3 x4 x5 σ = some (rv, σ') → W p l e R s m args below meth c H locs 0 0 (MQ below (Qr Z (some (.int rv)) True (cmb σ' μ)) args s 0 0 (fun q => Z.1 ≤ q)) (F0 m 39 ls [])) (n : Nat) : ∀ {x1 : Int32} {x2 : Int32} {x3 : Int32} {x4 : Int32} {x5 : Int32} {x6 : Int32} {σ : St} {H : Heap} {locs : List Loc} {ls : Array Slot}, Wd Z (cmb σ μ) s H locs → lv_has ls 7 [(0, .ref (Z.1 + 46)), (1, .int x1), (2, .int x2), (3, .int x3), (4, .int x4), (5, .int x5), (6, .int x6)] → fSending_exchange_58 N go39 n x1 x2 x3 x4 x5 x6 σ = some (rv, σ') → W p l e R s m args below meth c H locs 0 0 (MQ below (Qr Z (some (.int rv)) True (cmb σ' μ)) args s 0 0 (fun q => Z.1 ≤ q)) (F0 m 58 ls []) := by
  have hx := hc.hx
  have hb := hc.hb
  induction n with
  | zero =>
    intro x1 x2 x3 x4 x5 x6 σ H locs ls hw hl hf
    have hf : none = some _ := hf
    cases hf
  | succ n ih =>
    intro x1 x2 x3 x4 x5 x6 σ H locs ls hw hl hf
    unfold fSending_exchange_58 at hf
    refine lv_iload hx hb (dq tk_Sending_exchange 35 rfl) (lv_at hl 6 rfl) ?_
    refine lv_aload_n hx hb (dq tk_Sending_exchange 36 rfl) rfl (lv_at hl 0 rfl) ?_
    refine G_Sending_size hc hw wd_322 (dq tk_Sending_exchange 37 rfl) ?_
    refine lv_icmp_gt (tgt := 164) hx hb (dq tk_Sending_exchange 38 rfl) (by decide) (fun c1 => ?_) (fun c1 => ?_)
    · replace hf := if_t hf c1
      refine lv_iinc (v := (x5 + 1)) (lv' := [(5, .int (x5 + 1)), (0, .ref (Z.1 + 46)), (1, .int x1), (2, .int x2), (3, .int x3), (4, .int x4), (6, .int x6)]) hx hb (dq tk_Sending_exchange 89 rfl) hl (k := 5) rfl rfl (by decide) rfl (fun ls hl => ?_)
      refine lv_goto (tgt := 39) hx hb (dq tk_Sending_exchange 90 rfl) (by decide) ?_
      exact hgo39 hw (lv_sub hl [1, 2, 3, 4, 5, 0] rfl) hf
    · replace hf := if_f hf c1
      refine lv_aload_n hx hb (dq tk_Sending_exchange 39 rfl) rfl (lv_at hl 0 rfl) ?_
      refine G_Sending_reached hc hw wd_329 (dq tk_Sending_exchange 40 rfl) ?_
      refine lv_iload hx hb (dq tk_Sending_exchange 41 rfl) (lv_at hl 6 rfl) ?_
      obtain ⟨c2, hf⟩ := chk_some hf
      refine AL_Sending_reached hc hw c2 (dq tk_Sending_exchange 42 rfl) ?_
      refine lv_if_ne (tgt := 158) hx hb (dq tk_Sending_exchange 43 rfl) (by decide) (fun c3 => ?_) (fun c3 => ?_)
      · replace hf := if_f hf c3
        refine lv_iinc (v := (x6 + 1)) (lv' := [(6, .int (x6 + 1)), (0, .ref (Z.1 + 46)), (1, .int x1), (2, .int x2), (3, .int x3), (4, .int x4), (5, .int x5)]) hx hb (dq tk_Sending_exchange 87 rfl) hl (k := 6) rfl rfl (by decide) rfl (fun ls hl => ?_)
        refine lv_goto (tgt := 58) hx hb (dq tk_Sending_exchange 88 rfl) (by decide) ?_
        exact ih hw (lv_sub hl [1, 2, 3, 4, 5, 6, 0] rfl) hf
      · replace hf := if_t hf c3
        refine lv_aload_n hx hb (dq tk_Sending_exchange 44 rfl) rfl (lv_at hl 0 rfl) ?_
        refine G_Sending_settled hc hw wd_330 (dq tk_Sending_exchange 45 rfl) ?_
        refine lv_iload hx hb (dq tk_Sending_exchange 46 rfl) (lv_at hl 6 rfl) ?_
        refine AL_Sending_settled hc hw c2 (dq tk_Sending_exchange 47 rfl) ?_
        refine lv_if_ne (tgt := 158) hx hb (dq tk_Sending_exchange 48 rfl) (by decide) (fun c4 => ?_) (fun c4 => ?_)
        · replace hf := if_f hf c4
          refine lv_iinc (v := (x6 + 1)) (lv' := [(6, .int (x6 + 1)), (0, .ref (Z.1 + 46)), (1, .int x1), (2, .int x2), (3, .int x3), (4, .int x4), (5, .int x5)]) hx hb (dq tk_Sending_exchange 87 rfl) hl (k := 6) rfl rfl (by decide) rfl (fun ls hl => ?_)
          refine lv_goto (tgt := 58) hx hb (dq tk_Sending_exchange 88 rfl) (by decide) ?_
          exact ih hw (lv_sub hl [1, 2, 3, 4, 5, 6, 0] rfl) hf
        · replace hf := if_t hf c4
          refine lv_aload_n hx hb (dq tk_Sending_exchange 49 rfl) rfl (lv_at hl 0 rfl) ?_
          refine lv_aload_n hx hb (dq tk_Sending_exchange 50 rfl) rfl (lv_at hl 0 rfl) ?_
          refine G_Sending_queue hc hw wd_331 (dq tk_Sending_exchange 51 rfl) ?_
          refine lv_iload hx hb (dq tk_Sending_exchange 52 rfl) (lv_at hl 5 rfl) ?_
          obtain ⟨c5, hf⟩ := chk_some hf
          refine AL_Sending_queue hc hw c5 (dq tk_Sending_exchange 53 rfl) ?_
          refine lv_iload hx hb (dq tk_Sending_exchange 54 rfl) (lv_at hl 6 rfl) ?_
          obtain ⟨r1, h55, hf⟩ := bn1_someZ hf
          refine K_Sending_overPrice hc hw wd_980 h55 (hR.mono (by decide)) ⟨Nat.zero_le _, Nat.zero_le _⟩ hl.1 (Nat.le_of_ble_eq_true rfl) (dq tk_Sending_exchange 55 rfl) (fun H locs hw _ => ?_)
          refine lv_if_ne (tgt := 158) hx hb (dq tk_Sending_exchange 56 rfl) (by decide) (fun c6 => ?_) (fun c6 => ?_)
          · replace hf := if_f hf c6
            refine lv_iinc (v := (x6 + 1)) (lv' := [(6, .int (x6 + 1)), (0, .ref (Z.1 + 46)), (1, .int x1), (2, .int x2), (3, .int x3), (4, .int x4), (5, .int x5)]) hx hb (dq tk_Sending_exchange 87 rfl) hl (k := 6) rfl rfl (by decide) rfl (fun ls hl => ?_)
            refine lv_goto (tgt := 58) hx hb (dq tk_Sending_exchange 88 rfl) (by decide) ?_
            exact ih hw (lv_sub hl [1, 2, 3, 4, 5, 6, 0] rfl) hf
          · replace hf := if_t hf c6
            refine lv_aload_n hx hb (dq tk_Sending_exchange 57 rfl) rfl (lv_at hl 0 rfl) ?_
            refine G_Sending_reached hc hw wd_329 (dq tk_Sending_exchange 58 rfl) ?_
            refine lv_iload hx hb (dq tk_Sending_exchange 59 rfl) (lv_at hl 6 rfl) ?_
            refine lv_iconst (v := 1) hx hb (dq tk_Sending_exchange 60 rfl) (by decide) ?_
            obtain ⟨σ2, hσ2, hf⟩ := nm_some hf
            refine AS_Sending_reached hc hw c2 hσ2 (dq tk_Sending_exchange 61 rfl) (fun H locs hw => ?_)
            refine lv_aload_n hx hb (dq tk_Sending_exchange 62 rfl) rfl (lv_at hl 0 rfl) ?_
            refine G_Sending_from hc hw wd_327 (dq tk_Sending_exchange 63 rfl) ?_
            refine lv_iload hx hb (dq tk_Sending_exchange 64 rfl) (lv_at hl 6 rfl) ?_
            refine lv_aload_n hx hb (dq tk_Sending_exchange 65 rfl) rfl (lv_at hl 0 rfl) ?_
            refine G_Sending_queue hc hw wd_331 (dq tk_Sending_exchange 66 rfl) ?_
            refine lv_iload hx hb (dq tk_Sending_exchange 67 rfl) (lv_at hl 5 rfl) ?_
            refine AL_Sending_queue hc hw c5 (dq tk_Sending_exchange 68 rfl) ?_
            obtain ⟨σ3, hσ3, hf⟩ := nm_some hf
            refine AS_Sending_from hc hw c2 hσ3 (dq tk_Sending_exchange 69 rfl) (fun H locs hw => ?_)
            refine lv_iload hx hb (dq tk_Sending_exchange 70 rfl) (lv_at hl 6 rfl) ?_
            refine lv_iload_n hx hb (dq tk_Sending_exchange 71 rfl) rfl (lv_at hl 3 rfl) ?_
            refine lv_icmp_eq (tgt := 158) hx hb (dq tk_Sending_exchange 72 rfl) (by decide) (fun c7 => ?_) (fun c7 => ?_)
            · replace hf := if_t hf c7
              refine lv_iinc (v := (x6 + 1)) (lv' := [(6, .int (x6 + 1)), (0, .ref (Z.1 + 46)), (1, .int x1), (2, .int x2), (3, .int x3), (4, .int x4), (5, .int x5)]) hx hb (dq tk_Sending_exchange 87 rfl) hl (k := 6) rfl rfl (by decide) rfl (fun ls hl => ?_)
              refine lv_goto (tgt := 58) hx hb (dq tk_Sending_exchange 88 rfl) (by decide) ?_
              exact ih hw (lv_sub hl [1, 2, 3, 4, 5, 6, 0] rfl) hf
            · replace hf := if_f hf c7
              refine lv_iload hx hb (dq tk_Sending_exchange 73 rfl) (lv_at hl 4 rfl) ?_
              refine lv_aload_n hx hb (dq tk_Sending_exchange 74 rfl) rfl (lv_at hl 0 rfl) ?_
              refine G_Sending_queue hc hw wd_331 (dq tk_Sending_exchange 75 rfl) ?_
              refine LN_Sending_queue hc hw (dq tk_Sending_exchange 76 rfl) ?_
              refine lv_icmp_ge (tgt := 158) hx hb (dq tk_Sending_exchange 77 rfl) (by decide) (fun c8 => ?_) (fun c8 => ?_)
              · replace hf := if_t hf c8
                refine lv_iinc (v := (x6 + 1)) (lv' := [(6, .int (x6 + 1)), (0, .ref (Z.1 + 46)), (1, .int x1), (2, .int x2), (3, .int x3), (4, .int x4), (5, .int x5)]) hx hb (dq tk_Sending_exchange 87 rfl) hl (k := 6) rfl rfl (by decide) rfl (fun ls hl => ?_)
                refine lv_goto (tgt := 58) hx hb (dq tk_Sending_exchange 88 rfl) (by decide) ?_
                exact ih hw (lv_sub hl [1, 2, 3, 4, 5, 6, 0] rfl) hf
              · replace hf := if_f hf c8
                refine lv_aload_n hx hb (dq tk_Sending_exchange 78 rfl) rfl (lv_at hl 0 rfl) ?_
                refine G_Sending_queue hc hw wd_331 (dq tk_Sending_exchange 79 rfl) ?_
                refine lv_iload hx hb (dq tk_Sending_exchange 80 rfl) (lv_at hl 4 rfl) ?_
                refine lv_aload_n hx hb (dq tk_Sending_exchange 81 rfl) rfl (lv_at hl 0 rfl) ?_
                refine G_Sending_rowAt hc hw wd_325 (dq tk_Sending_exchange 82 rfl) ?_
                refine lv_iload hx hb (dq tk_Sending_exchange 83 rfl) (lv_at hl 6 rfl) ?_
                refine AL_Sending_rowAt hc hw c2 (dq tk_Sending_exchange 84 rfl) ?_
                obtain ⟨c9, hf⟩ := chk_some hf
                obtain ⟨σ4, hσ4, hf⟩ := nm_some hf
                refine AS_Sending_queue hc hw c9 hσ4 (dq tk_Sending_exchange 85 rfl) (fun H locs hw => ?_)
                refine lv_iinc (v := (x4 + 1)) (lv' := [(4, .int (x4 + 1)), (0, .ref (Z.1 + 46)), (1, .int x1), (2, .int x2), (3, .int x3), (5, .int x5), (6, .int x6)]) hx hb (dq tk_Sending_exchange 86 rfl) hl (k := 4) rfl rfl (by decide) rfl (fun ls hl => ?_)
                refine lv_iinc (v := (x6 + 1)) (lv' := [(6, .int (x6 + 1)), (4, .int (x4 + 1)), (0, .ref (Z.1 + 46)), (1, .int x1), (2, .int x2), (3, .int x3), (5, .int x5)]) hx hb (dq tk_Sending_exchange 87 rfl) hl (k := 6) rfl rfl (by decide) rfl (fun ls hl => ?_)
                refine lv_goto (tgt := 58) hx hb (dq tk_Sending_exchange 88 rfl) (by decide) ?_
                exact ih hw (lv_sub hl [2, 3, 4, 5, 1, 6, 0] rfl) hf
set_option maxRecDepth 10000 in
theorem w_Sending_exchange_199 {N : Nat} (hc : Cxz p s m meth c args prog_11_method_11_code "LabourExchange$Sending" 7 Z) (hr : meth.sig.returnType = (some .boolean)) (hR : RO R 3) {rv : Int32} {σ' : St} : ∀ {x3 : Int32} {σ : St} {H : Heap} {locs : List Loc} {ls : Array Slot}, Wd Z (cmb σ μ) s H locs → lv_has ls 7 [(0, .ref (Z.1 + 46)), (3, .int x3)] → fSending_exchange_199 N x3 σ = some (rv, σ') → W p l e R s m args below meth c H locs 0 0 (MQ below (Qr Z (some (.int rv)) True (cmb σ' μ)) args s 0 0 (fun q => Z.1 ≤ q)) (F0 m 199 ls []) := by
  have hx := hc.hx
  have hb := hc.hb
  intro x3 σ H locs ls hw hl hf
  unfold fSending_exchange_199 at hf
  refine lv_aload_n hx hb (dq tk_Sending_exchange 110 rfl) rfl (lv_at hl 0 rfl) ?_
  refine G_Sending_reached hc hw wd_329 (dq tk_Sending_exchange 111 rfl) ?_
  refine lv_iload_n hx hb (dq tk_Sending_exchange 112 rfl) rfl (lv_at hl 1 rfl) ?_
  obtain ⟨c1, hf⟩ := chk_some hf
  refine AL_Sending_reached hc hw c1 (dq tk_Sending_exchange 113 rfl) ?_
  cases hf
  exact x_zret hc hw hr rfl (dq tk_Sending_exchange 114 rfl)
set_option maxRecDepth 10000 in
theorem w_Sending_exchange_170 {N : Nat} (hc : Cxz p s m meth c args prog_11_method_11_code "LabourExchange$Sending" 7 Z) (hr : meth.sig.returnType = (some .boolean)) (hR : RO R 3) {rv : Int32} {σ' : St} : ∀ {x1 : Int32} {x2 : Int32} {x3 : Int32} {σ : St} {H : Heap} {locs : List Loc} {ls : Array Slot}, Wd Z (cmb σ μ) s H locs → lv_has ls 7 [(0, .ref (Z.1 + 46)), (1, .int x1), (2, .int x2), (3, .int x3)] → fSending_exchange_170 N x1 x2 x3 σ = some (rv, σ') → W p l e R s m args below meth c H locs 0 0 (MQ below (Qr Z (some (.int rv)) True (cmb σ' μ)) args s 0 0 (fun q => Z.1 ≤ q)) (F0 m 170 ls []) := by
  have hx := hc.hx
  have hb := hc.hb
  intro x1 x2 x3 σ H locs ls hw hl hf
  unfold fSending_exchange_170 at hf
  refine lv_aload_n hx hb (dq tk_Sending_exchange 91 rfl) rfl (lv_at hl 0 rfl) ?_
  refine G_Sending_reached hc hw wd_329 (dq tk_Sending_exchange 92 rfl) ?_
  refine lv_iload_n hx hb (dq tk_Sending_exchange 93 rfl) rfl (lv_at hl 3 rfl) ?_
  obtain ⟨c1, hf⟩ := chk_some hf
  refine AL_Sending_reached hc hw c1 (dq tk_Sending_exchange 94 rfl) ?_
  refine lv_if_eq (tgt := 199) hx hb (dq tk_Sending_exchange 95 rfl) (by decide) (fun c2 => ?_) (fun c2 => ?_)
  · replace hf := if_t hf c2
    exact w_Sending_exchange_199 hc hr hR hw (lv_sub hl [0, 3] rfl) hf
  · replace hf := if_f hf c2
    refine lv_aload_n hx hb (dq tk_Sending_exchange 96 rfl) rfl (lv_at hl 0 rfl) ?_
    refine lv_iload_n hx hb (dq tk_Sending_exchange 97 rfl) rfl (lv_at hl 3 rfl) ?_
    refine lv_iload_n hx hb (dq tk_Sending_exchange 98 rfl) rfl (lv_at hl 2 rfl) ?_
    obtain ⟨σ1, h99, hf⟩ := bn1_someZ hf
    refine K_Sending_moveOn hc hw wd_1000 h99 (hR.mono (by decide)) ⟨Nat.zero_le _, Nat.zero_le _⟩ hl.1 (Nat.le_of_ble_eq_true rfl) (dq tk_Sending_exchange 99 rfl) (fun H locs hw _ => ?_)
    refine lv_aload_n hx hb (dq tk_Sending_exchange 100 rfl) rfl (lv_at hl 0 rfl) ?_
    refine G_Sending_columnOf hc hw wd_326 (dq tk_Sending_exchange 101 rfl) ?_
    refine lv_iload_n hx hb (dq tk_Sending_exchange 102 rfl) rfl (lv_at hl 1 rfl) ?_
    refine lv_iload_n hx hb (dq tk_Sending_exchange 103 rfl) rfl (lv_at hl 2 rfl) ?_
    obtain ⟨c3, hf⟩ := chk_some hf
    obtain ⟨σ2, hσ2, hf⟩ := nm_some hf
    refine AS_Sending_columnOf hc hw c3 hσ2 (dq tk_Sending_exchange 104 rfl) (fun H locs hw => ?_)
    refine lv_aload_n hx hb (dq tk_Sending_exchange 105 rfl) rfl (lv_at hl 0 rfl) ?_
    refine G_Sending_rowAt hc hw wd_325 (dq tk_Sending_exchange 106 rfl) ?_
    refine lv_iload_n hx hb (dq tk_Sending_exchange 107 rfl) rfl (lv_at hl 2 rfl) ?_
    refine lv_iload_n hx hb (dq tk_Sending_exchange 108 rfl) rfl (lv_at hl 1 rfl) ?_
    obtain ⟨c4, hf⟩ := chk_some hf
    obtain ⟨σ3, hσ3, hf⟩ := nm_some hf
    refine AS_Sending_rowAt hc hw c4 hσ3 (dq tk_Sending_exchange 109 rfl) (fun H locs hw => ?_)
    exact w_Sending_exchange_199 hc hr hR hw (lv_sub hl [0, 3] rfl) hf
set_option maxRecDepth 10000 in
theorem w_Sending_exchange_39 {N : Nat} (hc : Cxz p s m meth c args prog_11_method_11_code "LabourExchange$Sending" 7 Z) (hr : meth.sig.returnType = (some .boolean)) (hR : RO R 3) {rv : Int32} {σ' : St} (n : Nat) : ∀ {x1 : Int32} {x2 : Int32} {x3 : Int32} {x4 : Int32} {x5 : Int32} {σ : St} {H : Heap} {locs : List Loc} {ls : Array Slot}, Wd Z (cmb σ μ) s H locs → lv_has ls 7 [(0, .ref (Z.1 + 46)), (1, .int x1), (2, .int x2), (3, .int x3), (4, .int x4), (5, .int x5)] → fSending_exchange_39 N n x1 x2 x3 x4 x5 σ = some (rv, σ') → W p l e R s m args below meth c H locs 0 0 (MQ below (Qr Z (some (.int rv)) True (cmb σ' μ)) args s 0 0 (fun q => Z.1 ≤ q)) (F0 m 39 ls []) := by
  have hx := hc.hx
  have hb := hc.hb
  induction n with
  | zero =>
    intro x1 x2 x3 x4 x5 σ H locs ls hw hl hf
    have hf : none = some _ := hf
    cases hf
  | succ n ih =>
    intro x1 x2 x3 x4 x5 σ H locs ls hw hl hf
    unfold fSending_exchange_39 at hf
    refine lv_iload hx hb (dq tk_Sending_exchange 25 rfl) (lv_at hl 5 rfl) ?_
    refine lv_iload hx hb (dq tk_Sending_exchange 26 rfl) (lv_at hl 4 rfl) ?_
    refine lv_icmp_ge (tgt := 170) hx hb (dq tk_Sending_exchange 27 rfl) (by decide) (fun c1 => ?_) (fun c1 => ?_)
    · replace hf := if_t hf c1
      exact w_Sending_exchange_170 hc hr hR hw (lv_sub hl [0, 1, 2, 3] rfl) hf
    · replace hf := if_f hf c1
      refine lv_aload_n hx hb (dq tk_Sending_exchange 28 rfl) rfl (lv_at hl 0 rfl) ?_
      refine G_Sending_reached hc hw wd_329 (dq tk_Sending_exchange 29 rfl) ?_
      refine lv_iload_n hx hb (dq tk_Sending_exchange 30 rfl) rfl (lv_at hl 3 rfl) ?_
      obtain ⟨c2, hf⟩ := chk_some hf
      refine AL_Sending_reached hc hw c2 (dq tk_Sending_exchange 31 rfl) ?_
      refine lv_if_ne (tgt := 170) hx hb (dq tk_Sending_exchange 32 rfl) (by decide) (fun c3 => ?_) (fun c3 => ?_)
      · replace hf := if_f hf c3
        exact w_Sending_exchange_170 hc hr hR hw (lv_sub hl [0, 1, 2, 3] rfl) hf
      · replace hf := if_t hf c3
        refine lv_iconst (v := 1) hx hb (dq tk_Sending_exchange 33 rfl) (by decide) ?_
        refine lv_istore (lv' := [(6, .int 1), (0, .ref (Z.1 + 46)), (1, .int x1), (2, .int x2), (3, .int x3), (4, .int x4), (5, .int x5)]) hx hb (dq tk_Sending_exchange 34 rfl) hl (by decide) rfl (fun ls hl => ?_)
        exact w_Sending_exchange_58 hc hr hR ih N hw (lv_sub hl [1, 2, 3, 4, 5, 6, 0] rfl) hf
set_option maxRecDepth 10000 in
theorem w_Sending_exchange {N : Nat} (hc : Cxz p s m meth c args prog_11_method_11_code "LabourExchange$Sending" 7 Z) (hr : meth.sig.returnType = (some .boolean)) (hR : RO R 3) {rv : Int32} {σ' : St} : ∀ {x1 : Int32} {x2 : Int32} {σ : St} {H : Heap} {locs : List Loc} {ls : Array Slot}, Wd Z (cmb σ μ) s H locs → lv_has ls 7 [(0, .ref (Z.1 + 46)), (1, .int x1), (2, .int x2)] → fSending_exchange N x1 x2 σ = some (rv, σ') → W p l e R s m args below meth c H locs 0 0 (MQ below (Qr Z (some (.int rv)) True (cmb σ' μ)) args s 0 0 (fun q => Z.1 ≤ q)) (F0 m 0 ls []) := by
  have hx := hc.hx
  have hb := hc.hb
  intro x1 x2 σ H locs ls hw hl hf
  unfold fSending_exchange at hf
  refine lv_aload_n hx hb (dq tk_Sending_exchange 0 rfl) rfl (lv_at hl 0 rfl) ?_
  refine G_Sending_columnOf hc hw wd_326 (dq tk_Sending_exchange 1 rfl) ?_
  refine lv_iload_n hx hb (dq tk_Sending_exchange 2 rfl) rfl (lv_at hl 1 rfl) ?_
  obtain ⟨c1, hf⟩ := chk_some hf
  refine AL_Sending_columnOf hc hw c1 (dq tk_Sending_exchange 3 rfl) ?_
  obtain ⟨y1, hy1, hf⟩ := nm_some hf
  refine tst (congrArg Value.int hy1) ?_
  refine lv_istore_n (lv' := [(3, .int y1), (0, .ref (Z.1 + 46)), (1, .int x1), (2, .int x2)]) hx hb (dq tk_Sending_exchange 4 rfl) rfl hl (by decide) rfl (fun ls hl => ?_)
  refine lv_aload_n hx hb (dq tk_Sending_exchange 5 rfl) rfl (lv_at hl 1 rfl) ?_
  refine G_Sending_reached hc hw wd_329 (dq tk_Sending_exchange 6 rfl) ?_
  obtain ⟨σ2, h7, hf⟩ := bn1_someZ hf
  refine K_Sending_unmark_reached hc hw wd_972 h7 (hR.mono (by decide)) ⟨Nat.zero_le _, Nat.zero_le _⟩ hl.1 (Nat.le_of_ble_eq_true rfl) (dq tk_Sending_exchange 7 rfl) (fun H locs hw _ => ?_)
  refine lv_aload_n hx hb (dq tk_Sending_exchange 8 rfl) rfl (lv_at hl 1 rfl) ?_
  refine G_Sending_reached hc hw wd_329 (dq tk_Sending_exchange 9 rfl) ?_
  refine lv_iload_n hx hb (dq tk_Sending_exchange 10 rfl) rfl (lv_at hl 3 rfl) ?_
  refine lv_iconst (v := 1) hx hb (dq tk_Sending_exchange 11 rfl) (by decide) ?_
  obtain ⟨c2, hf⟩ := chk_some hf
  obtain ⟨σ3, hσ3, hf⟩ := nm_some hf
  refine AS_Sending_reached hc hw c2 hσ3 (dq tk_Sending_exchange 12 rfl) (fun H locs hw => ?_)
  refine lv_aload_n hx hb (dq tk_Sending_exchange 13 rfl) rfl (lv_at hl 1 rfl) ?_
  refine G_Sending_queue hc hw wd_331 (dq tk_Sending_exchange 14 rfl) ?_
  refine lv_iconst (v := 0) hx hb (dq tk_Sending_exchange 15 rfl) (by decide) ?_
  refine lv_aload_n hx hb (dq tk_Sending_exchange 16 rfl) rfl (lv_at hl 1 rfl) ?_
  refine G_Sending_rowAt hc hw wd_325 (dq tk_Sending_exchange 17 rfl) ?_
  refine lv_iload_n hx hb (dq tk_Sending_exchange 18 rfl) rfl (lv_at hl 3 rfl) ?_
  refine AL_Sending_rowAt hc hw c2 (dq tk_Sending_exchange 19 rfl) ?_
  obtain ⟨σ4, hσ4, hf⟩ := nm_some hf
  refine AS_Sending_queue hc hw (by decide) hσ4 (dq tk_Sending_exchange 20 rfl) (fun H locs hw => ?_)
  refine lv_iconst (v := 1) hx hb (dq tk_Sending_exchange 21 rfl) (by decide) ?_
  refine lv_istore (lv' := [(4, .int 1), (3, .int y1), (0, .ref (Z.1 + 46)), (1, .int x1), (2, .int x2)]) hx hb (dq tk_Sending_exchange 22 rfl) hl (by decide) rfl (fun ls hl => ?_)
  refine lv_iconst (v := 0) hx hb (dq tk_Sending_exchange 23 rfl) (by decide) ?_
  refine lv_istore (lv' := [(5, .int 0), (4, .int 1), (3, .int y1), (0, .ref (Z.1 + 46)), (1, .int x1), (2, .int x2)]) hx hb (dq tk_Sending_exchange 24 rfl) hl (by decide) rfl (fun ls hl => ?_)
  exact w_Sending_exchange_39 hc hr hR N hw (lv_sub hl [3, 4, 5, 2, 1, 0] rfl) hf
theorem c_Sending_exchange {N : Nat}  {x1 : Int32} {x2 : Int32} {rv : Int32} {σ' : St} {σ : St} (hf : fSending_exchange N x1 x2 σ = some (rv, σ')) : Ct l Z y_Sending_exchange prog_11_method_11_code 7 (some .boolean) (rmo (3)) [.ref (Z.1 + 46), .int x1, .int x2] (cmb σ μ) (some (.int rv)) True (cmb σ' μ) := by
  refine x_met (by decide) (Nat.le_of_ble_eq_true rfl) (fun p e s m args below meth c ls hc hr hw hl => ?_)
  exact w_Sending_exchange hc hr RO.self hw hl hf
theorem K_Sending_exchange {idx : Nat} {N : Nat}  {x1 : Int32} {x2 : Int32} {rv : Int32} {σ' : St} {σ : St} (hc : Cxz p s m meth c args cc own nL Z) (hw : Wd Z (cmb σ μ) s H locs) (hl : Cond.methodLink own idx y_Sending_exchange ∈ TB) (hf : fSending_exchange N x1 x2 σ = some (rv, σ')) (hR : RO R ((3) + 1)) (hcs : cells ≤ R.cells ∧ slots ≤ R.slots) (hls : ls.size = nL) (hst : (rest.map fun v => v.category).sum ≤ 8) (hdg : decode cc pc = .ok (.invokevirtual idx, 3)) (kk : ∀ (H1 : Heap) (locs1 : List Loc), Wd Z (cmb σ' μ) s H1 locs1 → True → W p l e R s m args below meth c H1 locs1 cells slots Q (F0 m (pc + 3) ls (.int rv :: rest))) : W p l e R s m args below meth c H locs cells slots Q (F0 m pc ls (.int x2 :: .int x1 :: .ref (Z.1 + 46) :: rest)) :=
  x_iv hc hw (c_Sending_exchange hf) yv_Sending_exchange (Nat.le_of_ble_eq_true rfl) rfl rfl hl (RO.call hR (by decide)) hcs rfl hls hst hdg rfl kk
set_option maxRecDepth 10000 in
theorem w_Sending_settleRow_66 {N : Nat} (hc : Cxz p s m meth c args prog_11_method_10_code "LabourExchange$Sending" 4 Z) (hr : meth.sig.returnType = (some .int)) (hR : RO R 4) {rv : Int32} {σ' : St} : ∀ {x1 : Int32} {x2 : Int32} {σ : St} {H : Heap} {locs : List Loc} {ls : Array Slot}, Wd Z (cmb σ μ) s H locs → lv_has ls 4 [(0, .ref (Z.1 + 46)), (1, .int x1), (2, .int x2)] → fSending_settleRow_66 N x1 x2 σ = some (rv, σ') → W p l e R s m args below meth c H locs 0 0 (MQ below (Qr Z (some (.int rv)) True (cmb σ' μ)) args s 0 0 (fun q => Z.1 ≤ q)) (F0 m 66 ls []) := by
  have hx := hc.hx
  have hb := hc.hb
  intro x1 x2 σ H locs ls hw hl hf
  unfold fSending_settleRow_66 at hf
  refine lv_aload_n hx hb (dq tk_Sending_settleRow 38 rfl) rfl (lv_at hl 0 rfl) ?_
  refine G_Sending_settled hc hw wd_330 (dq tk_Sending_settleRow 39 rfl) ?_
  refine lv_iload_n hx hb (dq tk_Sending_settleRow 40 rfl) rfl (lv_at hl 2 rfl) ?_
  refine lv_iconst (v := 1) hx hb (dq tk_Sending_settleRow 41 rfl) (by decide) ?_
  obtain ⟨c1, hf⟩ := chk_some hf
  obtain ⟨σ1, hσ1, hf⟩ := nm_some hf
  refine AS_Sending_settled hc hw c1 hσ1 (dq tk_Sending_settleRow 42 rfl) (fun H locs hw => ?_)
  refine lv_aload_n hx hb (dq tk_Sending_settleRow 43 rfl) rfl (lv_at hl 0 rfl) ?_
  refine G_Sending_sentTo hc hw wd_316 (dq tk_Sending_settleRow 44 rfl) ?_
  refine lv_aload_n hx hb (dq tk_Sending_settleRow 45 rfl) rfl (lv_at hl 0 rfl) ?_
  refine G_Sending_who hc hw wd_318 (dq tk_Sending_settleRow 46 rfl) ?_
  refine lv_iload_n hx hb (dq tk_Sending_settleRow 47 rfl) rfl (lv_at hl 1 rfl) ?_
  refine lv_iconst (v := 1) hx hb (dq tk_Sending_settleRow 48 rfl) (by decide) ?_
  refine lv_isub hx hb (dq tk_Sending_settleRow 49 rfl) ?_
  obtain ⟨c2, hf⟩ := chk_some hf
  refine AL_Sending_who hc hw c2 (dq tk_Sending_settleRow 50 rfl) ?_
  refine lv_aload_n hx hb (dq tk_Sending_settleRow 51 rfl) rfl (lv_at hl 0 rfl) ?_
  refine G_Sending_where hc hw wd_319 (dq tk_Sending_settleRow 52 rfl) ?_
  refine lv_iload_n hx hb (dq tk_Sending_settleRow 53 rfl) rfl (lv_at hl 2 rfl) ?_
  refine lv_iconst (v := 1) hx hb (dq tk_Sending_settleRow 54 rfl) (by decide) ?_
  refine lv_isub hx hb (dq tk_Sending_settleRow 55 rfl) ?_
  obtain ⟨c3, hf⟩ := chk_some hf
  refine AL_Sending_where hc hw c3 (dq tk_Sending_settleRow 56 rfl) ?_
  obtain ⟨c4, hf⟩ := chk_some hf
  obtain ⟨σ2, hσ2, hf⟩ := nm_some hf
  refine AS_Sending_sentTo hc hw c4 hσ2 (dq tk_Sending_settleRow 57 rfl) (fun H locs hw => ?_)
  refine lv_aload_n hx hb (dq tk_Sending_settleRow 58 rfl) rfl (lv_at hl 0 rfl) ?_
  refine G_Sending_gain hc hw wd_314 (dq tk_Sending_settleRow 59 rfl) ?_
  refine lv_aload_n hx hb (dq tk_Sending_settleRow 60 rfl) rfl (lv_at hl 0 rfl) ?_
  refine G_Sending_who hc hw wd_318 (dq tk_Sending_settleRow 61 rfl) ?_
  refine lv_iload_n hx hb (dq tk_Sending_settleRow 62 rfl) rfl (lv_at hl 1 rfl) ?_
  refine lv_iconst (v := 1) hx hb (dq tk_Sending_settleRow 63 rfl) (by decide) ?_
  refine lv_isub hx hb (dq tk_Sending_settleRow 64 rfl) ?_
  refine AL_Sending_who hc hw c2 (dq tk_Sending_settleRow 65 rfl) ?_
  obtain ⟨c5, hf⟩ := chk_some hf
  refine AL_Sending_gain hc hw c5 (dq tk_Sending_settleRow 66 rfl) ?_
  refine lv_aload_n hx hb (dq tk_Sending_settleRow 67 rfl) rfl (lv_at hl 0 rfl) ?_
  refine G_Sending_where hc hw wd_319 (dq tk_Sending_settleRow 68 rfl) ?_
  refine lv_iload_n hx hb (dq tk_Sending_settleRow 69 rfl) rfl (lv_at hl 2 rfl) ?_
  refine lv_iconst (v := 1) hx hb (dq tk_Sending_settleRow 70 rfl) (by decide) ?_
  refine lv_isub hx hb (dq tk_Sending_settleRow 71 rfl) ?_
  refine AL_Sending_where hc hw c3 (dq tk_Sending_settleRow 72 rfl) ?_
  obtain ⟨c6, hf⟩ := chk_some hf
  refine AL_Sending_gainr (inb_lt c5) hc hw c6 (dq tk_Sending_settleRow 73 rfl) ?_
  cases hf
  exact x_iret hc hw hr (dq tk_Sending_settleRow 74 rfl)
set_option maxRecDepth 10000 in
theorem w_Sending_settleRow_42 {N : Nat} (hc : Cxz p s m meth c args prog_11_method_10_code "LabourExchange$Sending" 4 Z) (hr : meth.sig.returnType = (some .int)) (hR : RO R 4) {rv : Int32} {σ' : St} {go2 : Int32 → Int32 → St → Option (Int32 × St)} (hgo2 : ∀ {x1 : Int32} {x2 : Int32} {σ : St} {H : Heap} {locs : List Loc} {ls : Array Slot}, Wd Z (cmb σ μ) s H locs → lv_has ls 4 [(0, .ref (Z.1 + 46)), (1, .int x1), (2, .int x2)] → go2 x1 x2 σ = some (rv, σ') → W p l e R s m args below meth c H locs 0 0 (MQ below (Qr Z (some (.int rv)) True (cmb σ' μ)) args s 0 0 (fun q => Z.1 ≤ q)) (F0 m 2 ls [])) : ∀ {x1 : Int32} {x2 : Int32} {s0 : Int32} {σ : St} {H : Heap} {locs : List Loc} {ls : Array Slot}, Wd Z (cmb σ μ) s H locs → lv_has ls 4 [(0, .ref (Z.1 + 46)), (1, .int x1), (2, .int x2)] → fSending_settleRow_42 N go2 x1 x2 s0 σ = some (rv, σ') → W p l e R s m args below meth c H locs 0 0 (MQ below (Qr Z (some (.int rv)) True (cmb σ' μ)) args s 0 0 (fun q => Z.1 ≤ q)) (F0 m 42 ls [.int s0]) := by
  have hx := hc.hx
  have hb := hc.hb
  intro x1 x2 s0 σ H locs ls hw hl hf
  unfold fSending_settleRow_42 at hf
  refine lv_istore_n (lv' := [(3, .int s0), (0, .ref (Z.1 + 46)), (1, .int x1), (2, .int x2)]) hx hb (dq tk_Sending_settleRow 24 rfl) rfl hl (by decide) rfl (fun ls hl => ?_)
  refine lv_iload_n hx hb (dq tk_Sending_settleRow 25 rfl) rfl (lv_at hl 0 rfl) ?_
  refine lv_if_eq (tgt := 117) hx hb (dq tk_Sending_settleRow 26 rfl) (by decide) (fun c1 => ?_) (fun c1 => ?_)
  · replace hf := if_t hf c1
    refine lv_iinc (v := (x2 + 1)) (lv' := [(2, .int (x2 + 1)), (3, .int s0), (0, .ref (Z.1 + 46)), (1, .int x1)]) hx hb (dq tk_Sending_settleRow 75 rfl) hl (k := 3) rfl rfl (by decide) rfl (fun ls hl => ?_)
    refine lv_goto (tgt := 2) hx hb (dq tk_Sending_settleRow 76 rfl) (by decide) ?_
    exact hgo2 hw (lv_sub hl [2, 3, 0] rfl) hf
  · replace hf := if_f hf c1
    refine lv_aload_n hx hb (dq tk_Sending_settleRow 27 rfl) rfl (lv_at hl 1 rfl) ?_
    refine G_Sending_columnOf hc hw wd_326 (dq tk_Sending_settleRow 28 rfl) ?_
    refine lv_iload_n hx hb (dq tk_Sending_settleRow 29 rfl) rfl (lv_at hl 2 rfl) ?_
    obtain ⟨c2, hf⟩ := chk_some hf
    refine AL_Sending_columnOf hc hw c2 (dq tk_Sending_settleRow 30 rfl) ?_
    refine lv_iload_n hx hb (dq tk_Sending_settleRow 31 rfl) rfl (lv_at hl 3 rfl) ?_
    refine lv_icmp_eq (tgt := 66) hx hb (dq tk_Sending_settleRow 32 rfl) (by decide) (fun c3 => ?_) (fun c3 => ?_)
    · replace hf := if_t hf c3
      exact w_Sending_settleRow_66 hc hr hR hw (lv_sub hl [1, 2, 3] rfl) hf
    · replace hf := if_f hf c3
      refine lv_aload_n hx hb (dq tk_Sending_settleRow 33 rfl) rfl (lv_at hl 1 rfl) ?_
      refine lv_iload_n hx hb (dq tk_Sending_settleRow 34 rfl) rfl (lv_at hl 2 rfl) ?_
      refine lv_iload_n hx hb (dq tk_Sending_settleRow 35 rfl) rfl (lv_at hl 3 rfl) ?_
      obtain ⟨r1, σ2, h36, hf⟩ := bnd_some hf
      refine K_Sending_exchange hc hw wd_996 h36 (hR.mono (by decide)) ⟨Nat.zero_le _, Nat.zero_le _⟩ hl.1 (Nat.le_of_ble_eq_true rfl) (dq tk_Sending_settleRow 36 rfl) (fun H locs hw _ => ?_)
      refine lv_if_eq (tgt := 117) hx hb (dq tk_Sending_settleRow 37 rfl) (by decide) (fun c4 => ?_) (fun c4 => ?_)
      · replace hf := if_t hf c4
        refine lv_iinc (v := (x2 + 1)) (lv' := [(2, .int (x2 + 1)), (3, .int s0), (0, .ref (Z.1 + 46)), (1, .int x1)]) hx hb (dq tk_Sending_settleRow 75 rfl) hl (k := 3) rfl rfl (by decide) rfl (fun ls hl => ?_)
        refine lv_goto (tgt := 2) hx hb (dq tk_Sending_settleRow 76 rfl) (by decide) ?_
        exact hgo2 hw (lv_sub hl [2, 3, 0] rfl) hf
      · replace hf := if_f hf c4
        exact w_Sending_settleRow_66 hc hr hR hw (lv_sub hl [1, 2, 3] rfl) hf
set_option maxRecDepth 10000 in
theorem w_Sending_settleRow_41 {N : Nat} (hc : Cxz p s m meth c args prog_11_method_10_code "LabourExchange$Sending" 4 Z) (hr : meth.sig.returnType = (some .int)) (hR : RO R 4) {rv : Int32} {σ' : St} {go2 : Int32 → Int32 → St → Option (Int32 × St)} (hgo2 : ∀ {x1 : Int32} {x2 : Int32} {σ : St} {H : Heap} {locs : List Loc} {ls : Array Slot}, Wd Z (cmb σ μ) s H locs → lv_has ls 4 [(0, .ref (Z.1 + 46)), (1, .int x1), (2, .int x2)] → go2 x1 x2 σ = some (rv, σ') → W p l e R s m args below meth c H locs 0 0 (MQ below (Qr Z (some (.int rv)) True (cmb σ' μ)) args s 0 0 (fun q => Z.1 ≤ q)) (F0 m 2 ls [])) : ∀ {x1 : Int32} {x2 : Int32} {σ : St} {H : Heap} {locs : List Loc} {ls : Array Slot}, Wd Z (cmb σ μ) s H locs → lv_has ls 4 [(0, .ref (Z.1 + 46)), (1, .int x1), (2, .int x2)] → fSending_settleRow_41 N go2 x1 x2 σ = some (rv, σ') → W p l e R s m args below meth c H locs 0 0 (MQ below (Qr Z (some (.int rv)) True (cmb σ' μ)) args s 0 0 (fun q => Z.1 ≤ q)) (F0 m 41 ls []) := by
  have hx := hc.hx
  have hb := hc.hb
  intro x1 x2 σ H locs ls hw hl hf
  unfold fSending_settleRow_41 at hf
  refine lv_iconst (v := 0) hx hb (dq tk_Sending_settleRow 23 rfl) (by decide) ?_
  exact w_Sending_settleRow_42 hc hr hR hgo2 hw (lv_sub hl [0, 1, 2] rfl) hf
set_option maxRecDepth 10000 in
theorem w_Sending_settleRow_2 {N : Nat} (hc : Cxz p s m meth c args prog_11_method_10_code "LabourExchange$Sending" 4 Z) (hr : meth.sig.returnType = (some .int)) (hR : RO R 4) {rv : Int32} {σ' : St} (n : Nat) : ∀ {x1 : Int32} {x2 : Int32} {σ : St} {H : Heap} {locs : List Loc} {ls : Array Slot}, Wd Z (cmb σ μ) s H locs → lv_has ls 4 [(0, .ref (Z.1 + 46)), (1, .int x1), (2, .int x2)] → fSending_settleRow_2 N n x1 x2 σ = some (rv, σ') → W p l e R s m args below meth c H locs 0 0 (MQ below (Qr Z (some (.int rv)) True (cmb σ' μ)) args s 0 0 (fun q => Z.1 ≤ q)) (F0 m 2 ls []) := by
  have hx := hc.hx
  have hb := hc.hb
  induction n with
  | zero =>
    intro x1 x2 σ H locs ls hw hl hf
    have hf : none = some _ := hf
    cases hf
  | succ n ih =>
    intro x1 x2 σ H locs ls hw hl hf
    unfold fSending_settleRow_2 at hf
    refine lv_iload_n hx hb (dq tk_Sending_settleRow 2 rfl) rfl (lv_at hl 2 rfl) ?_
    refine lv_aload_n hx hb (dq tk_Sending_settleRow 3 rfl) rfl (lv_at hl 0 rfl) ?_
    refine G_Sending_columns hc hw wd_321 (dq tk_Sending_settleRow 4 rfl) ?_
    refine lv_icmp_gt (tgt := 123) hx hb (dq tk_Sending_settleRow 5 rfl) (by decide) (fun c1 => ?_) (fun c1 => ?_)
    · replace hf := if_t hf c1
      refine lv_aload_n hx hb (dq tk_Sending_settleRow 77 rfl) rfl (lv_at hl 0 rfl) ?_
      refine G_Sending_settled hc hw wd_330 (dq tk_Sending_settleRow 78 rfl) ?_
      refine lv_aload_n hx hb (dq tk_Sending_settleRow 79 rfl) rfl (lv_at hl 0 rfl) ?_
      refine G_Sending_columnOf hc hw wd_326 (dq tk_Sending_settleRow 80 rfl) ?_
      refine lv_iload_n hx hb (dq tk_Sending_settleRow 81 rfl) rfl (lv_at hl 1 rfl) ?_
      obtain ⟨c2, hf⟩ := chk_some hf
      refine AL_Sending_columnOf hc hw c2 (dq tk_Sending_settleRow 82 rfl) ?_
      refine lv_iconst (v := 1) hx hb (dq tk_Sending_settleRow 83 rfl) (by decide) ?_
      obtain ⟨c3, hf⟩ := chk_some hf
      obtain ⟨σ1, hσ1, hf⟩ := nm_some hf
      refine AS_Sending_settled hc hw c3 hσ1 (dq tk_Sending_settleRow 84 rfl) (fun H locs hw => ?_)
      refine lv_iconst (v := 0) hx hb (dq tk_Sending_settleRow 85 rfl) (by decide) ?_
      cases hf
      exact x_iret hc hw hr (dq tk_Sending_settleRow 86 rfl)
    · replace hf := if_f hf c1
      refine lv_aload_n hx hb (dq tk_Sending_settleRow 6 rfl) rfl (lv_at hl 0 rfl) ?_
      refine lv_iload_n hx hb (dq tk_Sending_settleRow 7 rfl) rfl (lv_at hl 1 rfl) ?_
      refine lv_iload_n hx hb (dq tk_Sending_settleRow 8 rfl) rfl (lv_at hl 2 rfl) ?_
      obtain ⟨r2, h9, hf⟩ := bn1_someZ hf
      refine K_Sending_isPair hc hw wd_988 h9 (hR.mono (by decide)) ⟨Nat.zero_le _, Nat.zero_le _⟩ hl.1 (Nat.le_of_ble_eq_true rfl) (dq tk_Sending_settleRow 9 rfl) (fun H locs hw _ => ?_)
      refine lv_if_eq (tgt := 41) hx hb (dq tk_Sending_settleRow 10 rfl) (by decide) (fun c4 => ?_) (fun c4 => ?_)
      · replace hf := if_t hf c4
        exact w_Sending_settleRow_41 hc hr hR ih hw (lv_sub hl [0, 1, 2] rfl) hf
      · replace hf := if_f hf c4
        refine lv_aload_n hx hb (dq tk_Sending_settleRow 11 rfl) rfl (lv_at hl 0 rfl) ?_
        refine G_Sending_settled hc hw wd_330 (dq tk_Sending_settleRow 12 rfl) ?_
        refine lv_iload_n hx hb (dq tk_Sending_settleRow 13 rfl) rfl (lv_at hl 2 rfl) ?_
        obtain ⟨c5, hf⟩ := chk_some hf
        refine AL_Sending_settled hc hw c5 (dq tk_Sending_settleRow 14 rfl) ?_
        refine lv_if_ne (tgt := 41) hx hb (dq tk_Sending_settleRow 15 rfl) (by decide) (fun c6 => ?_) (fun c6 => ?_)
        · replace hf := if_f hf c6
          exact w_Sending_settleRow_41 hc hr hR ih hw (lv_sub hl [0, 1, 2] rfl) hf
        · replace hf := if_t hf c6
          refine lv_aload_n hx hb (dq tk_Sending_settleRow 16 rfl) rfl (lv_at hl 0 rfl) ?_
          refine lv_iload_n hx hb (dq tk_Sending_settleRow 17 rfl) rfl (lv_at hl 1 rfl) ?_
          refine lv_iload_n hx hb (dq tk_Sending_settleRow 18 rfl) rfl (lv_at hl 2 rfl) ?_
          obtain ⟨r3, h19, hf⟩ := bn1_someZ hf
          refine K_Sending_overPrice hc hw wd_980 h19 (hR.mono (by decide)) ⟨Nat.zero_le _, Nat.zero_le _⟩ hl.1 (Nat.le_of_ble_eq_true rfl) (dq tk_Sending_settleRow 19 rfl) (fun H locs hw _ => ?_)
          refine lv_if_ne (tgt := 41) hx hb (dq tk_Sending_settleRow 20 rfl) (by decide) (fun c7 => ?_) (fun c7 => ?_)
          · replace hf := if_f hf c7
            exact w_Sending_settleRow_41 hc hr hR ih hw (lv_sub hl [0, 1, 2] rfl) hf
          · replace hf := if_t hf c7
            refine lv_iconst (v := 1) hx hb (dq tk_Sending_settleRow 21 rfl) (by decide) ?_
            refine lv_goto (tgt := 42) hx hb (dq tk_Sending_settleRow 22 rfl) (by decide) ?_
            exact w_Sending_settleRow_42 hc hr hR ih hw (lv_sub hl [0, 1, 2] rfl) hf
set_option maxRecDepth 10000 in
theorem w_Sending_settleRow {N : Nat} (hc : Cxz p s m meth c args prog_11_method_10_code "LabourExchange$Sending" 4 Z) (hr : meth.sig.returnType = (some .int)) (hR : RO R 4) {rv : Int32} {σ' : St} : ∀ {x1 : Int32} {σ : St} {H : Heap} {locs : List Loc} {ls : Array Slot}, Wd Z (cmb σ μ) s H locs → lv_has ls 4 [(0, .ref (Z.1 + 46)), (1, .int x1)] → fSending_settleRow N x1 σ = some (rv, σ') → W p l e R s m args below meth c H locs 0 0 (MQ below (Qr Z (some (.int rv)) True (cmb σ' μ)) args s 0 0 (fun q => Z.1 ≤ q)) (F0 m 0 ls []) := by
  have hx := hc.hx
  have hb := hc.hb
  intro x1 σ H locs ls hw hl hf
  unfold fSending_settleRow at hf
  refine lv_iconst (v := 1) hx hb (dq tk_Sending_settleRow 0 rfl) (by decide) ?_
  refine lv_istore_n (lv' := [(2, .int 1), (0, .ref (Z.1 + 46)), (1, .int x1)]) hx hb (dq tk_Sending_settleRow 1 rfl) rfl hl (by decide) rfl (fun ls hl => ?_)
  exact w_Sending_settleRow_2 hc hr hR N hw (lv_sub hl [1, 2, 0] rfl) hf
theorem c_Sending_settleRow {N : Nat}  {x1 : Int32} {rv : Int32} {σ' : St} {σ : St} (hf : fSending_settleRow N x1 σ = some (rv, σ')) : Ct l Z y_Sending_settleRow prog_11_method_10_code 4 (some .int) (rmo (4)) [.ref (Z.1 + 46), .int x1] (cmb σ μ) (some (.int rv)) True (cmb σ' μ) := by
  refine x_met (by decide) (Nat.le_of_ble_eq_true rfl) (fun p e s m args below meth c ls hc hr hw hl => ?_)
  exact w_Sending_settleRow hc hr RO.self hw hl hf
theorem K_Sending_settleRow {idx : Nat} {N : Nat}  {x1 : Int32} {rv : Int32} {σ' : St} {σ : St} (hc : Cxz p s m meth c args cc own nL Z) (hw : Wd Z (cmb σ μ) s H locs) (hl : Cond.methodLink own idx y_Sending_settleRow ∈ TB) (hf : fSending_settleRow N x1 σ = some (rv, σ')) (hR : RO R ((4) + 1)) (hcs : cells ≤ R.cells ∧ slots ≤ R.slots) (hls : ls.size = nL) (hst : (rest.map fun v => v.category).sum ≤ 8) (hdg : decode cc pc = .ok (.invokevirtual idx, 3)) (kk : ∀ (H1 : Heap) (locs1 : List Loc), Wd Z (cmb σ' μ) s H1 locs1 → True → W p l e R s m args below meth c H1 locs1 cells slots Q (F0 m (pc + 3) ls (.int rv :: rest))) : W p l e R s m args below meth c H locs cells slots Q (F0 m pc ls (.int x1 :: .ref (Z.1 + 46) :: rest)) :=
  x_iv hc hw (c_Sending_settleRow hf) yv_Sending_settleRow (Nat.le_of_ble_eq_true rfl) rfl rfl hl (RO.call hR (by decide)) hcs rfl hls hst hdg rfl kk
set_option maxRecDepth 10000 in
theorem w_Sending_sendBest_99 {N : Nat} (hc : Cxz p s m meth c args prog_11_method_2_code "LabourExchange$Sending" 5 Z) (hr : meth.sig.returnType = (some .int)) (hR : RO R 5) {rv : Int32} {σ' : St} (n : Nat) : ∀ {x3 : Int32} {x4 : Int32} {σ : St} {H : Heap} {locs : List Loc} {ls : Array Slot}, Wd Z (cmb σ μ) s H locs → lv_has ls 5 [(0, .ref (Z.1 + 46)), (3, .int x3), (4, .int x4)] → fSending_sendBest_99 N n x3 x4 σ = some (rv, σ') → W p l e R s m args below meth c H locs 0 0 (MQ below (Qr Z (some (.int rv)) True (cmb σ' μ)) args s 0 0 (fun q => Z.1 ≤ q)) (F0 m 99 ls []) := by
  have hx := hc.hx
  have hb := hc.hb
  induction n with
  | zero =>
    intro x3 x4 σ H locs ls hw hl hf
    have hf : none = some _ := hf
    cases hf
  | succ n ih =>
    intro x3 x4 σ H locs ls hw hl hf
    unfold fSending_sendBest_99 at hf
    refine lv_iload hx hb (dq tk_Sending_sendBest 54 rfl) (lv_at hl 2 rfl) ?_
    refine lv_aload_n hx hb (dq tk_Sending_sendBest 55 rfl) rfl (lv_at hl 0 rfl) ?_
    refine G_Sending_rows hc hw wd_320 (dq tk_Sending_sendBest 56 rfl) ?_
    refine lv_icmp_gt (tgt := 123) hx hb (dq tk_Sending_sendBest 57 rfl) (by decide) (fun c1 => ?_) (fun c1 => ?_)
    · replace hf := if_t hf c1
      refine lv_iload_n hx hb (dq tk_Sending_sendBest 66 rfl) rfl (lv_at hl 1 rfl) ?_
      cases hf
      exact x_iret hc hw hr (dq tk_Sending_sendBest 67 rfl)
    · replace hf := if_f hf c1
      refine lv_iload_n hx hb (dq tk_Sending_sendBest 58 rfl) rfl (lv_at hl 1 rfl) ?_
      refine lv_aload_n hx hb (dq tk_Sending_sendBest 59 rfl) rfl (lv_at hl 0 rfl) ?_
      refine lv_iload hx hb (dq tk_Sending_sendBest 60 rfl) (lv_at hl 2 rfl) ?_
      obtain ⟨r1, σ2, h61, hf⟩ := bnd_some hf
      refine K_Sending_settleRow hc hw wd_992 h61 (hR.mono (by decide)) ⟨Nat.zero_le _, Nat.zero_le _⟩ hl.1 (Nat.le_of_ble_eq_true rfl) (dq tk_Sending_sendBest 61 rfl) (fun H locs hw _ => ?_)
      refine lv_iadd hx hb (dq tk_Sending_sendBest 62 rfl) ?_
      obtain ⟨y3, hy3, hf⟩ := nm_some hf
      refine tst (congrArg Value.int hy3) ?_
      refine lv_istore_n (lv' := [(3, .int y3), (0, .ref (Z.1 + 46)), (4, .int x4)]) hx hb (dq tk_Sending_sendBest 63 rfl) rfl hl (by decide) rfl (fun ls hl => ?_)
      refine lv_iinc (v := (x4 + 1)) (lv' := [(4, .int (x4 + 1)), (3, .int y3), (0, .ref (Z.1 + 46))]) hx hb (dq tk_Sending_sendBest 64 rfl) hl (k := 2) rfl rfl (by decide) rfl (fun ls hl => ?_)
      refine lv_goto (tgt := 99) hx hb (dq tk_Sending_sendBest 65 rfl) (by decide) ?_
      exact ih hw (lv_sub hl [2, 1, 0] rfl) hf
set_option maxRecDepth 10000 in
theorem w_Sending_sendBest_53 {N : Nat} (hc : Cxz p s m meth c args prog_11_method_2_code "LabourExchange$Sending" 5 Z) (hr : meth.sig.returnType = (some .int)) (hR : RO R 5) {rv : Int32} {σ' : St} (n : Nat) : ∀ {x3 : Int32} {σ : St} {H : Heap} {locs : List Loc} {ls : Array Slot}, Wd Z (cmb σ μ) s H locs → lv_has ls 5 [(0, .ref (Z.1 + 46)), (3, .int x3)] → fSending_sendBest_53 N n x3 σ = some (rv, σ') → W p l e R s m args below meth c H locs 0 0 (MQ below (Qr Z (some (.int rv)) True (cmb σ' μ)) args s 0 0 (fun q => Z.1 ≤ q)) (F0 m 53 ls []) := by
  have hx := hc.hx
  have hb := hc.hb
  induction n with
  | zero =>
    intro x3 σ H locs ls hw hl hf
    have hf : none = some _ := hf
    cases hf
  | succ n ih =>
    intro x3 σ H locs ls hw hl hf
    unfold fSending_sendBest_53 at hf
    refine lv_iload_n hx hb (dq tk_Sending_sendBest 29 rfl) rfl (lv_at hl 1 rfl) ?_
    refine lv_aload_n hx hb (dq tk_Sending_sendBest 30 rfl) rfl (lv_at hl 0 rfl) ?_
    refine G_Sending_size hc hw wd_322 (dq tk_Sending_sendBest 31 rfl) ?_
    refine lv_icmp_gt (tgt := 79) hx hb (dq tk_Sending_sendBest 32 rfl) (by decide) (fun c1 => ?_) (fun c1 => ?_)
    · replace hf := if_t hf c1
      refine lv_aload_n hx hb (dq tk_Sending_sendBest 43 rfl) rfl (lv_at hl 0 rfl) ?_
      refine G_Sending_settled hc hw wd_330 (dq tk_Sending_sendBest 44 rfl) ?_
      obtain ⟨σ1, h45, hf⟩ := bn1_someZ hf
      refine K_Sending_unmark_settled hc hw wd_972 h45 (hR.mono (by decide)) ⟨Nat.zero_le _, Nat.zero_le _⟩ hl.1 (Nat.le_of_ble_eq_true rfl) (dq tk_Sending_sendBest 45 rfl) (fun H locs hw _ => ?_)
      refine lv_aload_n hx hb (dq tk_Sending_sendBest 46 rfl) rfl (lv_at hl 0 rfl) ?_
      refine G_Sending_sentTo hc hw wd_316 (dq tk_Sending_sendBest 47 rfl) ?_
      refine lv_iconst (v := (-1)) hx hb (dq tk_Sending_sendBest 48 rfl) (by decide) ?_
      obtain ⟨σ2, h49, hf⟩ := bn1_someZ hf
      refine K_Arrays_fill_Sending_sentTo hc hw wd_311 h49 (hR.mono (by decide)) ⟨Nat.zero_le _, Nat.zero_le _⟩ hl.1 (Nat.le_of_ble_eq_true rfl) (dq tk_Sending_sendBest 49 rfl) (fun H locs hw _ => ?_)
      refine lv_iconst (v := 0) hx hb (dq tk_Sending_sendBest 50 rfl) (by decide) ?_
      refine lv_istore_n (lv' := [(3, .int 0), (0, .ref (Z.1 + 46))]) hx hb (dq tk_Sending_sendBest 51 rfl) rfl hl (by decide) rfl (fun ls hl => ?_)
      refine lv_iconst (v := 1) hx hb (dq tk_Sending_sendBest 52 rfl) (by decide) ?_
      refine lv_istore (lv' := [(4, .int 1), (3, .int 0), (0, .ref (Z.1 + 46))]) hx hb (dq tk_Sending_sendBest 53 rfl) hl (by decide) rfl (fun ls hl => ?_)
      exact w_Sending_sendBest_99 hc hr hR N hw (lv_sub hl [2, 1, 0] rfl) hf
    · replace hf := if_f hf c1
      refine lv_aload_n hx hb (dq tk_Sending_sendBest 33 rfl) rfl (lv_at hl 0 rfl) ?_
      refine G_Sending_columnOf hc hw wd_326 (dq tk_Sending_sendBest 34 rfl) ?_
      refine lv_aload_n hx hb (dq tk_Sending_sendBest 35 rfl) rfl (lv_at hl 0 rfl) ?_
      refine G_Sending_rowAt hc hw wd_325 (dq tk_Sending_sendBest 36 rfl) ?_
      refine lv_iload_n hx hb (dq tk_Sending_sendBest 37 rfl) rfl (lv_at hl 1 rfl) ?_
      obtain ⟨c2, hf⟩ := chk_some hf
      refine AL_Sending_rowAt hc hw c2 (dq tk_Sending_sendBest 38 rfl) ?_
      refine lv_iload_n hx hb (dq tk_Sending_sendBest 39 rfl) rfl (lv_at hl 1 rfl) ?_
      obtain ⟨c3, hf⟩ := chk_some hf
      obtain ⟨σ3, hσ3, hf⟩ := nm_some hf
      refine AS_Sending_columnOf hc hw c3 hσ3 (dq tk_Sending_sendBest 40 rfl) (fun H locs hw => ?_)
      refine lv_iinc (v := (x3 + 1)) (lv' := [(3, .int (x3 + 1)), (0, .ref (Z.1 + 46))]) hx hb (dq tk_Sending_sendBest 41 rfl) hl (k := 1) rfl rfl (by decide) rfl (fun ls hl => ?_)
      refine lv_goto (tgt := 53) hx hb (dq tk_Sending_sendBest 42 rfl) (by decide) ?_
      exact ih hw (lv_sub hl [1, 0] rfl) hf
set_option maxRecDepth 10000 in
theorem w_Sending_sendBest_32 {N : Nat} (hc : Cxz p s m meth c args prog_11_method_2_code "LabourExchange$Sending" 5 Z) (hr : meth.sig.returnType = (some .int)) (hR : RO R 5) {rv : Int32} {σ' : St} (n : Nat) : ∀ {x3 : Int32} {σ : St} {H : Heap} {locs : List Loc} {ls : Array Slot}, Wd Z (cmb σ μ) s H locs → lv_has ls 5 [(0, .ref (Z.1 + 46)), (3, .int x3)] → fSending_sendBest_32 N n x3 σ = some (rv, σ') → W p l e R s m args below meth c H locs 0 0 (MQ below (Qr Z (some (.int rv)) True (cmb σ' μ)) args s 0 0 (fun q => Z.1 ≤ q)) (F0 m 32 ls []) := by
  have hx := hc.hx
  have hb := hc.hb
  induction n with
  | zero =>
    intro x3 σ H locs ls hw hl hf
    have hf : none = some _ := hf
    cases hf
  | succ n ih =>
    intro x3 σ H locs ls hw hl hf
    unfold fSending_sendBest_32 at hf
    refine lv_iload_n hx hb (dq tk_Sending_sendBest 18 rfl) rfl (lv_at hl 1 rfl) ?_
    refine lv_aload_n hx hb (dq tk_Sending_sendBest 19 rfl) rfl (lv_at hl 0 rfl) ?_
    refine G_Sending_size hc hw wd_322 (dq tk_Sending_sendBest 20 rfl) ?_
    refine lv_icmp_gt (tgt := 51) hx hb (dq tk_Sending_sendBest 21 rfl) (by decide) (fun c1 => ?_) (fun c1 => ?_)
    · replace hf := if_t hf c1
      refine lv_iconst (v := 1) hx hb (dq tk_Sending_sendBest 27 rfl) (by decide) ?_
      refine lv_istore_n (lv' := [(3, .int 1), (0, .ref (Z.1 + 46))]) hx hb (dq tk_Sending_sendBest 28 rfl) rfl hl (by decide) rfl (fun ls hl => ?_)
      exact w_Sending_sendBest_53 hc hr hR N hw (lv_sub hl [1, 0] rfl) hf
    · replace hf := if_f hf c1
      refine lv_aload_n hx hb (dq tk_Sending_sendBest 22 rfl) rfl (lv_at hl 0 rfl) ?_
      refine lv_iload_n hx hb (dq tk_Sending_sendBest 23 rfl) rfl (lv_at hl 1 rfl) ?_
      obtain ⟨σ1, h24, hf⟩ := bn1_someZ hf
      refine K_Sending_place hc hw wd_968 h24 (hR.mono (by decide)) ⟨Nat.zero_le _, Nat.zero_le _⟩ hl.1 (Nat.le_of_ble_eq_true rfl) (dq tk_Sending_sendBest 24 rfl) (fun H locs hw _ => ?_)
      refine lv_iinc (v := (x3 + 1)) (lv' := [(3, .int (x3 + 1)), (0, .ref (Z.1 + 46))]) hx hb (dq tk_Sending_sendBest 25 rfl) hl (k := 1) rfl rfl (by decide) rfl (fun ls hl => ?_)
      refine lv_goto (tgt := 32) hx hb (dq tk_Sending_sendBest 26 rfl) (by decide) ?_
      exact ih hw (lv_sub hl [1, 0] rfl) hf
set_option maxRecDepth 10000 in
theorem w_Sending_sendBest {N : Nat} (hc : Cxz p s m meth c args prog_11_method_2_code "LabourExchange$Sending" 5 Z) (hr : meth.sig.returnType = (some .int)) (hR : RO R 5) {rv : Int32} {σ' : St} : ∀ {x1 : Int32} {x2 : Int32} {σ : St} {H : Heap} {locs : List Loc} {ls : Array Slot}, Wd Z (cmb σ μ) s H locs → lv_has ls 5 [(0, .ref (Z.1 + 46)), (1, .int x1), (2, .int x2)] → fSending_sendBest N x1 x2 σ = some (rv, σ') → W p l e R s m args below meth c H locs 0 0 (MQ below (Qr Z (some (.int rv)) True (cmb σ' μ)) args s 0 0 (fun q => Z.1 ≤ q)) (F0 m 0 ls []) := by
  have hx := hc.hx
  have hb := hc.hb
  intro x1 x2 σ H locs ls hw hl hf
  unfold fSending_sendBest at hf
  refine lv_aload_n hx hb (dq tk_Sending_sendBest 0 rfl) rfl (lv_at hl 0 rfl) ?_
  refine lv_iload_n hx hb (dq tk_Sending_sendBest 1 rfl) rfl (lv_at hl 1 rfl) ?_
  refine lv_iload_n hx hb (dq tk_Sending_sendBest 2 rfl) rfl (lv_at hl 2 rfl) ?_
  obtain ⟨σ1, h3, hf⟩ := bn1_someZ hf
  refine K_Sending_gather hc hw wd_964 h3 (hR.mono (by decide)) ⟨Nat.zero_le _, Nat.zero_le _⟩ hl.1 (Nat.le_of_ble_eq_true rfl) (dq tk_Sending_sendBest 3 rfl) (fun H locs hw _ => ?_)
  refine lv_aload_n hx hb (dq tk_Sending_sendBest 4 rfl) rfl (lv_at hl 0 rfl) ?_
  refine G_Sending_rowPrice hc hw wd_323 (dq tk_Sending_sendBest 5 rfl) ?_
  refine lv_iconst (v := 0) hx hb (dq tk_Sending_sendBest 6 rfl) (by decide) ?_
  obtain ⟨σ2, h7, hf⟩ := bn1_someZ hf
  refine K_Arrays_fill_Sending_rowPrice hc hw wd_311 h7 (hR.mono (by decide)) ⟨Nat.zero_le _, Nat.zero_le _⟩ hl.1 (Nat.le_of_ble_eq_true rfl) (dq tk_Sending_sendBest 7 rfl) (fun H locs hw _ => ?_)
  refine lv_aload_n hx hb (dq tk_Sending_sendBest 8 rfl) rfl (lv_at hl 0 rfl) ?_
  refine G_Sending_columnPrice hc hw wd_324 (dq tk_Sending_sendBest 9 rfl) ?_
  refine lv_iconst (v := 0) hx hb (dq tk_Sending_sendBest 10 rfl) (by decide) ?_
  obtain ⟨σ3, h11, hf⟩ := bn1_someZ hf
  refine K_Arrays_fill_Sending_columnPrice hc hw wd_311 h11 (hR.mono (by decide)) ⟨Nat.zero_le _, Nat.zero_le _⟩ hl.1 (Nat.le_of_ble_eq_true rfl) (dq tk_Sending_sendBest 11 rfl) (fun H locs hw _ => ?_)
  refine lv_aload_n hx hb (dq tk_Sending_sendBest 12 rfl) rfl (lv_at hl 0 rfl) ?_
  refine G_Sending_rowAt hc hw wd_325 (dq tk_Sending_sendBest 13 rfl) ?_
  refine lv_iconst (v := 0) hx hb (dq tk_Sending_sendBest 14 rfl) (by decide) ?_
  obtain ⟨σ4, h15, hf⟩ := bn1_someZ hf
  refine K_Arrays_fill_Sending_rowAt hc hw wd_311 h15 (hR.mono (by decide)) ⟨Nat.zero_le _, Nat.zero_le _⟩ hl.1 (Nat.le_of_ble_eq_true rfl) (dq tk_Sending_sendBest 15 rfl) (fun H locs hw _ => ?_)
  refine lv_iconst (v := 1) hx hb (dq tk_Sending_sendBest 16 rfl) (by decide) ?_
  refine lv_istore_n (lv' := [(3, .int 1), (0, .ref (Z.1 + 46)), (1, .int x1), (2, .int x2)]) hx hb (dq tk_Sending_sendBest 17 rfl) rfl hl (by decide) rfl (fun ls hl => ?_)
  exact w_Sending_sendBest_32 hc hr hR N hw (lv_sub hl [1, 0] rfl) hf
theorem c_Sending_sendBest {N : Nat}  {x1 : Int32} {x2 : Int32} {rv : Int32} {σ' : St} {σ : St} (hf : fSending_sendBest N x1 x2 σ = some (rv, σ')) : Ct l Z y_Sending_sendBest prog_11_method_2_code 5 (some .int) (rmo (5)) [.ref (Z.1 + 46), .int x1, .int x2] (cmb σ μ) (some (.int rv)) True (cmb σ' μ) := by
  refine x_met (by decide) (Nat.le_of_ble_eq_true rfl) (fun p e s m args below meth c ls hc hr hw hl => ?_)
  exact w_Sending_sendBest hc hr RO.self hw hl hf
theorem K_Sending_sendBest {idx : Nat} {N : Nat}  {x1 : Int32} {x2 : Int32} {rv : Int32} {σ' : St} {σ : St} (hc : Cxz p s m meth c args cc own nL Z) (hw : Wd Z (cmb σ μ) s H locs) (hl : Cond.methodLink own idx y_Sending_sendBest ∈ TB) (hf : fSending_sendBest N x1 x2 σ = some (rv, σ')) (hR : RO R ((5) + 1)) (hcs : cells ≤ R.cells ∧ slots ≤ R.slots) (hls : ls.size = nL) (hst : (rest.map fun v => v.category).sum ≤ 8) (hdg : decode cc pc = .ok (.invokevirtual idx, 3)) (kk : ∀ (H1 : Heap) (locs1 : List Loc), Wd Z (cmb σ' μ) s H1 locs1 → True → W p l e R s m args below meth c H1 locs1 cells slots Q (F0 m (pc + 3) ls (.int rv :: rest))) : W p l e R s m args below meth c H locs cells slots Q (F0 m pc ls (.int x2 :: .int x1 :: .ref (Z.1 + 46) :: rest)) :=
  x_iv hc hw (c_Sending_sendBest hf) yv_Sending_sendBest (Nat.le_of_ble_eq_true rfl) rfl rfl hl (RO.call hR (by decide)) hcs rfl hls hst hdg rfl kk
end WALK
