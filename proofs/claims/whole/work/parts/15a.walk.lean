section WALK
variable {p : Program} {l : Launch} {e : Env} {R : Room} {s : State} {m : MethodId} {args : Array Value} {below : List Frame} {meth : Method} {c : Code} {H : Heap} {locs : List Loc} {cells slots : Nat} {Q : State → Prop}
variable {cc : ByteArray} {own : String} {nL : Nat} {Z : ZT} {σ μ ν τ : St} {pc : Nat} {ls : Array Slot} {rest : List Value}
set_option maxRecDepth 10000 in
theorem w_Math_min_I {N : Nat} (hc : Cxz p s m meth c args prog_20_method_69_code "java/lang/Math" 2 Z) (hr : meth.sig.returnType = (some .int)) (hR : RO R 0) {rv : Int32} {σ : St} : ∀ {x0 : Int32} {x1 : Int32} {H : Heap} {locs : List Loc} {ls : Array Slot}, Wd Z τ s H locs → lv_has ls 2 [(0, .int x0), (1, .int x1)] → fMath_min_I N x0 x1 σ = some rv → W p l e R s m args below meth c H locs 0 0 (MQ below (Qr Z (some (.int rv)) True τ) args s 0 0 (fun q => Z.1 ≤ q)) (F0 m 0 ls []) := by
  have hx := hc.hx
  have hb := hc.hb
  intro x0 x1 H locs ls hw hl hf
  unfold fMath_min_I at hf
  refine lv_iload_n hx hb (dq tk_Math_min_I 0 rfl) rfl (lv_at hl 0 rfl) ?_
  refine lv_iload_n hx hb (dq tk_Math_min_I 1 rfl) rfl (lv_at hl 1 rfl) ?_
  refine lv_icmp_gt (tgt := 9) hx hb (dq tk_Math_min_I 2 rfl) (by decide) (fun c1 => ?_) (fun c1 => ?_)
  · replace hf := if_t hf c1
    refine lv_iload_n hx hb (dq tk_Math_min_I 5 rfl) rfl (lv_at hl 1 rfl) ?_
    cases hf
    exact x_iret hc hw hr (dq tk_Math_min_I 6 rfl)
  · replace hf := if_f hf c1
    refine lv_iload_n hx hb (dq tk_Math_min_I 3 rfl) rfl (lv_at hl 0 rfl) ?_
    refine lv_goto (tgt := 10) hx hb (dq tk_Math_min_I 4 rfl) (by decide) ?_
    cases hf
    exact x_iret hc hw hr (dq tk_Math_min_I 6 rfl)
theorem c_Math_min_I {N : Nat}  {x0 : Int32} {x1 : Int32} {rv : Int32} {σ : St} (hf : fMath_min_I N x0 x1 σ = some rv) : Ct l Z y_Math_min_I prog_20_method_69_code 2 (some .int) (rmo (0)) [.int x0, .int x1] τ (some (.int rv)) True τ := by
  refine x_metF (by decide +kernel) (Nat.le_of_ble_eq_true rfl) (fun p e s m args below meth c ls hc hr hw hl => ?_)
  exact w_Math_min_I hc hr RO.self hw hl hf
theorem K_Math_min_I {idx : Nat} {N : Nat}  {x0 : Int32} {x1 : Int32} {rv : Int32} {σ : St} (hc : Cxz p s m meth c args cc own nL Z) (hw : Wd Z τ s H locs) (hl : Cond.methodLink own idx y_Math_min_I ∈ TB) (hf : fMath_min_I N x0 x1 σ = some rv) (hR : RO R ((0) + 1)) (hcs : cells ≤ R.cells ∧ slots ≤ R.slots) (hls : ls.size = nL) (hst : (rest.map fun v => v.category).sum ≤ 8) (hdg : decode cc pc = .ok (.invokestatic idx, 3)) (kk : ∀ (H1 : Heap) (locs1 : List Loc), Wd Z τ s H1 locs1 → True → W p l e R s m args below meth c H1 locs1 cells slots Q (F0 m (pc + 3) ls (.int rv :: rest))) : W p l e R s m args below meth c H locs cells slots Q (F0 m pc ls (.int x1 :: .int x0 :: rest)) :=
  x_is hc hw (c_Math_min_I hf) ys_Math_min_I hl (RO.call hR (by decide)) hcs rfl hls hst hdg rfl kk
set_option maxRecDepth 10000 in
theorem w_Math_max_I {N : Nat} (hc : Cxz p s m meth c args prog_20_method_65_code "java/lang/Math" 2 Z) (hr : meth.sig.returnType = (some .int)) (hR : RO R 0) {rv : Int32} {σ : St} : ∀ {x0 : Int32} {x1 : Int32} {H : Heap} {locs : List Loc} {ls : Array Slot}, Wd Z τ s H locs → lv_has ls 2 [(0, .int x0), (1, .int x1)] → fMath_max_I N x0 x1 σ = some rv → W p l e R s m args below meth c H locs 0 0 (MQ below (Qr Z (some (.int rv)) True τ) args s 0 0 (fun q => Z.1 ≤ q)) (F0 m 0 ls []) := by
  have hx := hc.hx
  have hb := hc.hb
  intro x0 x1 H locs ls hw hl hf
  unfold fMath_max_I at hf
  refine lv_iload_n hx hb (dq tk_Math_max_I 0 rfl) rfl (lv_at hl 0 rfl) ?_
  refine lv_iload_n hx hb (dq tk_Math_max_I 1 rfl) rfl (lv_at hl 1 rfl) ?_
  refine lv_icmp_lt (tgt := 9) hx hb (dq tk_Math_max_I 2 rfl) (by decide) (fun c1 => ?_) (fun c1 => ?_)
  · replace hf := if_t hf c1
    refine lv_iload_n hx hb (dq tk_Math_max_I 5 rfl) rfl (lv_at hl 1 rfl) ?_
    cases hf
    exact x_iret hc hw hr (dq tk_Math_max_I 6 rfl)
  · replace hf := if_f hf c1
    refine lv_iload_n hx hb (dq tk_Math_max_I 3 rfl) rfl (lv_at hl 0 rfl) ?_
    refine lv_goto (tgt := 10) hx hb (dq tk_Math_max_I 4 rfl) (by decide) ?_
    cases hf
    exact x_iret hc hw hr (dq tk_Math_max_I 6 rfl)
theorem c_Math_max_I {N : Nat}  {x0 : Int32} {x1 : Int32} {rv : Int32} {σ : St} (hf : fMath_max_I N x0 x1 σ = some rv) : Ct l Z y_Math_max_I prog_20_method_65_code 2 (some .int) (rmo (0)) [.int x0, .int x1] τ (some (.int rv)) True τ := by
  refine x_metF (by decide +kernel) (Nat.le_of_ble_eq_true rfl) (fun p e s m args below meth c ls hc hr hw hl => ?_)
  exact w_Math_max_I hc hr RO.self hw hl hf
theorem K_Math_max_I {idx : Nat} {N : Nat}  {x0 : Int32} {x1 : Int32} {rv : Int32} {σ : St} (hc : Cxz p s m meth c args cc own nL Z) (hw : Wd Z τ s H locs) (hl : Cond.methodLink own idx y_Math_max_I ∈ TB) (hf : fMath_max_I N x0 x1 σ = some rv) (hR : RO R ((0) + 1)) (hcs : cells ≤ R.cells ∧ slots ≤ R.slots) (hls : ls.size = nL) (hst : (rest.map fun v => v.category).sum ≤ 8) (hdg : decode cc pc = .ok (.invokestatic idx, 3)) (kk : ∀ (H1 : Heap) (locs1 : List Loc), Wd Z τ s H1 locs1 → True → W p l e R s m args below meth c H1 locs1 cells slots Q (F0 m (pc + 3) ls (.int rv :: rest))) : W p l e R s m args below meth c H locs cells slots Q (F0 m pc ls (.int x1 :: .int x0 :: rest)) :=
  x_is hc hw (c_Math_max_I hf) ys_Math_max_I hl (RO.call hR (by decide)) hcs rfl hls hst hdg rfl kk
set_option maxRecDepth 10000 in
theorem w_Books_addRow_94 {N : Nat} (hc : Cxz p s m meth c args prog_3_method_2_code "LabourExchange$Books" 7 Z) (hr : meth.sig.returnType = none) (hR : RO R 1) {σ' : St} : ∀ {σ : St} {H : Heap} {locs : List Loc} {ls : Array Slot}, Wd Z (cmb σ μ) s H locs → lv_has ls 7 [(0, .ref (Z.1 + 15))] → fBooks_addRow_94 N σ = some σ' → W p l e R s m args below meth c H locs 0 0 (MQ below (Qr Z none True (cmb σ' μ)) args s 0 0 (fun q => Z.1 ≤ q)) (F0 m 94 ls []) := by
  have hx := hc.hx
  have hb := hc.hb
  intro σ H locs ls hw hl hf
  unfold fBooks_addRow_94 at hf
  refine lv_aload_n hx hb (dq tk_Books_addRow 52 rfl) rfl (lv_at hl 0 rfl) ?_
  refine lv_dup hx hb (dq tk_Books_addRow 53 rfl) rfl ?_
  refine G_Books_rowCount hc hw wd_166 (dq tk_Books_addRow 54 rfl) ?_
  refine lv_iconst (v := 1) hx hb (dq tk_Books_addRow 55 rfl) (by decide) ?_
  refine lv_iadd hx hb (dq tk_Books_addRow 56 rfl) ?_
  obtain ⟨σ1, hσ1, hf⟩ := nm_some hf
  refine P_Books_rowCount hc hw wd_166 hσ1 (dq tk_Books_addRow 57 rfl) (fun H locs hw => ?_)
  cases hf
  exact x_vret hc hw hr (dq tk_Books_addRow 58 rfl)
set_option maxRecDepth 10000 in
theorem w_Books_addRow_44 {N : Nat} (hc : Cxz p s m meth c args prog_3_method_2_code "LabourExchange$Books" 7 Z) (hr : meth.sig.returnType = none) (hR : RO R 1) {σ' : St} (n : Nat) : ∀ {x3 : Int32} {x6 : Int32} {σ : St} {H : Heap} {locs : List Loc} {ls : Array Slot}, Wd Z (cmb σ μ) s H locs → lv_has ls 7 [(0, .ref (Z.1 + 15)), (3, .int x3), (5, .ref (Z.1 + 2)), (6, .int x6)] → fBooks_addRow_44 N n x3 x6 σ = some σ' → W p l e R s m args below meth c H locs 0 0 (MQ below (Qr Z none True (cmb σ' μ)) args s 0 0 (fun q => Z.1 ≤ q)) (F0 m 44 ls []) := by
  have hx := hc.hx
  have hb := hc.hb
  induction n with
  | zero =>
    intro x3 x6 σ H locs ls hw hl hf
    have hf : none = some _ := hf
    cases hf
  | succ n ih =>
    intro x3 x6 σ H locs ls hw hl hf
    unfold fBooks_addRow_44 at hf
    refine lv_iload hx hb (dq tk_Books_addRow 26 rfl) (lv_at hl 3 rfl) ?_
    refine lv_iload_n hx hb (dq tk_Books_addRow 27 rfl) rfl (lv_at hl 1 rfl) ?_
    refine lv_icmp_ge (tgt := 94) hx hb (dq tk_Books_addRow 28 rfl) (by decide) (fun c1 => ?_) (fun c1 => ?_)
    · replace hf := if_t hf c1
      exact w_Books_addRow_94 hc hr hR hw (lv_sub hl [0] rfl) hf
    · replace hf := if_f hf c1
      refine lv_iload hx hb (dq tk_Books_addRow 29 rfl) (lv_at hl 3 rfl) ?_
      refine lv_aload hx hb (dq tk_Books_addRow 30 rfl) (lv_at hl 2 rfl) ?_
      refine LN_Reader_tape hc hw (dq tk_Books_addRow 31 rfl) ?_
      refine lv_icmp_ge (tgt := 94) hx hb (dq tk_Books_addRow 32 rfl) (by decide) (fun c2 => ?_) (fun c2 => ?_)
      · replace hf := if_t hf c2
        exact w_Books_addRow_94 hc hr hR hw (lv_sub hl [0] rfl) hf
      · replace hf := if_f hf c2
        refine lv_aload_n hx hb (dq tk_Books_addRow 33 rfl) rfl (lv_at hl 0 rfl) ?_
        refine G_Books_rows hc hw wd_161 (dq tk_Books_addRow 34 rfl) ?_
        refine lv_aload_n hx hb (dq tk_Books_addRow 35 rfl) rfl (lv_at hl 0 rfl) ?_
        refine G_Books_rowCount hc hw wd_166 (dq tk_Books_addRow 36 rfl) ?_
        refine lv_bipush (v := 52) hx hb (dq tk_Books_addRow 37 rfl) (by decide) ?_
        refine lv_imul hx hb (dq tk_Books_addRow 38 rfl) ?_
        refine lv_iload hx hb (dq tk_Books_addRow 39 rfl) (lv_at hl 3 rfl) ?_
        refine lv_iadd hx hb (dq tk_Books_addRow 40 rfl) ?_
        refine lv_iconst (v := 0) hx hb (dq tk_Books_addRow 41 rfl) (by decide) ?_
        refine lv_bipush (v := 6) hx hb (dq tk_Books_addRow 42 rfl) (by decide) ?_
        refine lv_aload hx hb (dq tk_Books_addRow 43 rfl) (lv_at hl 2 rfl) ?_
        refine lv_iload hx hb (dq tk_Books_addRow 44 rfl) (lv_at hl 3 rfl) ?_
        obtain ⟨c3, hf⟩ := chk_some hf
        refine AL_Reader_tape hc hw c3 (dq tk_Books_addRow 45 rfl) ?_
        obtain ⟨r1, h46, hf⟩ := bn1_someZ hf
        refine K_Math_min_I hc hw wd_1101 h46 (hR.mono (by decide)) ⟨Nat.zero_le _, Nat.zero_le _⟩ hl.1 (Nat.le_of_ble_eq_true rfl) (dq tk_Books_addRow 46 rfl) (fun H locs hw _ => ?_)
        obtain ⟨r2, h47, hf⟩ := bn1_someZ hf
        refine K_Math_max_I hc hw wd_1102 h47 (hR.mono (by decide)) ⟨Nat.zero_le _, Nat.zero_le _⟩ hl.1 (Nat.le_of_ble_eq_true rfl) (dq tk_Books_addRow 47 rfl) (fun H locs hw _ => ?_)
        refine lv_i2b hx hb (dq tk_Books_addRow 48 rfl) rfl ?_
        obtain ⟨c4, hf⟩ := chk_some hf
        obtain ⟨σ3, hσ3, hf⟩ := nm_some hf
        refine AS_Books_rows hc hw c4 hσ3 (dq tk_Books_addRow 49 rfl) (fun H locs hw => ?_)
        refine lv_iinc (v := (x6 + 1)) (lv' := [(6, .int (x6 + 1)), (0, .ref (Z.1 + 15)), (3, .int x3), (5, .ref (Z.1 + 2))]) hx hb (dq tk_Books_addRow 50 rfl) hl (k := 3) rfl rfl (by decide) rfl (fun ls hl => ?_)
        refine lv_goto (tgt := 44) hx hb (dq tk_Books_addRow 51 rfl) (by decide) ?_
        exact ih hw (lv_sub hl [1, 2, 3, 0] rfl) hf
set_option maxRecDepth 10000 in
theorem w_Books_addRow {N : Nat} (hc : Cxz p s m meth c args prog_3_method_2_code "LabourExchange$Books" 7 Z) (hr : meth.sig.returnType = none) (hR : RO R 1) {σ' : St} : ∀ {x1 : Int32} {x2 : Int32} {x3 : Int32} {x4 : Int32} {σ : St} {H : Heap} {locs : List Loc} {ls : Array Slot}, Wd Z (cmb σ μ) s H locs → lv_has ls 7 [(0, .ref (Z.1 + 15)), (1, .int x1), (2, .int x2), (3, .int x3), (4, .int x4), (5, .ref (Z.1 + 2))] → fBooks_addRow N x1 x2 x3 x4 σ = some σ' → W p l e R s m args below meth c H locs 0 0 (MQ below (Qr Z none True (cmb σ' μ)) args s 0 0 (fun q => Z.1 ≤ q)) (F0 m 0 ls []) := by
  have hx := hc.hx
  have hb := hc.hb
  intro x1 x2 x3 x4 σ H locs ls hw hl hf
  unfold fBooks_addRow at hf
  refine lv_aload_n hx hb (dq tk_Books_addRow 0 rfl) rfl (lv_at hl 0 rfl) ?_
  refine G_Books_rowPerson hc hw wd_162 (dq tk_Books_addRow 1 rfl) ?_
  refine lv_aload_n hx hb (dq tk_Books_addRow 2 rfl) rfl (lv_at hl 0 rfl) ?_
  refine G_Books_rowCount hc hw wd_166 (dq tk_Books_addRow 3 rfl) ?_
  refine lv_iload_n hx hb (dq tk_Books_addRow 4 rfl) rfl (lv_at hl 1 rfl) ?_
  obtain ⟨c1, hf⟩ := chk_some hf
  obtain ⟨σ1, hσ1, hf⟩ := nm_some hf
  refine AS_Books_rowPerson hc hw c1 hσ1 (dq tk_Books_addRow 5 rfl) (fun H locs hw => ?_)
  refine lv_aload_n hx hb (dq tk_Books_addRow 6 rfl) rfl (lv_at hl 0 rfl) ?_
  refine G_Books_rowYear hc hw wd_163 (dq tk_Books_addRow 7 rfl) ?_
  refine lv_aload_n hx hb (dq tk_Books_addRow 8 rfl) rfl (lv_at hl 0 rfl) ?_
  refine G_Books_rowCount hc hw wd_166 (dq tk_Books_addRow 9 rfl) ?_
  refine lv_iload_n hx hb (dq tk_Books_addRow 10 rfl) rfl (lv_at hl 2 rfl) ?_
  obtain ⟨c2, hf⟩ := chk_some hf
  obtain ⟨σ2, hσ2, hf⟩ := nm_some hf
  refine AS_Books_rowYear hc hw c2 hσ2 (dq tk_Books_addRow 11 rfl) (fun H locs hw => ?_)
  refine lv_aload_n hx hb (dq tk_Books_addRow 12 rfl) rfl (lv_at hl 0 rfl) ?_
  refine G_Books_rowLength hc hw wd_164 (dq tk_Books_addRow 13 rfl) ?_
  refine lv_aload_n hx hb (dq tk_Books_addRow 14 rfl) rfl (lv_at hl 0 rfl) ?_
  refine G_Books_rowCount hc hw wd_166 (dq tk_Books_addRow 15 rfl) ?_
  refine lv_iload_n hx hb (dq tk_Books_addRow 16 rfl) rfl (lv_at hl 3 rfl) ?_
  obtain ⟨c3, hf⟩ := chk_some hf
  obtain ⟨σ3, hσ3, hf⟩ := nm_some hf
  refine AS_Books_rowLength hc hw c3 hσ3 (dq tk_Books_addRow 17 rfl) (fun H locs hw => ?_)
  refine lv_aload_n hx hb (dq tk_Books_addRow 18 rfl) rfl (lv_at hl 0 rfl) ?_
  refine G_Books_rowTold hc hw wd_165 (dq tk_Books_addRow 19 rfl) ?_
  refine lv_aload_n hx hb (dq tk_Books_addRow 20 rfl) rfl (lv_at hl 0 rfl) ?_
  refine G_Books_rowCount hc hw wd_166 (dq tk_Books_addRow 21 rfl) ?_
  refine lv_iload hx hb (dq tk_Books_addRow 22 rfl) (lv_at hl 4 rfl) ?_
  obtain ⟨c4, hf⟩ := chk_some hf
  obtain ⟨σ4, hσ4, hf⟩ := nm_some hf
  refine AS_Books_rowTold hc hw c4 hσ4 (dq tk_Books_addRow 23 rfl) (fun H locs hw => ?_)
  refine lv_iconst (v := 0) hx hb (dq tk_Books_addRow 24 rfl) (by decide) ?_
  refine lv_istore (lv' := [(6, .int 0), (0, .ref (Z.1 + 15)), (1, .int x1), (2, .int x2), (3, .int x3), (4, .int x4), (5, .ref (Z.1 + 2))]) hx hb (dq tk_Books_addRow 25 rfl) hl (by decide) rfl (fun ls hl => ?_)
  exact w_Books_addRow_44 hc hr hR N hw (lv_sub hl [1, 4, 6, 0] rfl) hf
theorem c_Books_addRow {N : Nat}  {x1 : Int32} {x2 : Int32} {x3 : Int32} {x4 : Int32} {σ' : St} {σ : St} (hf : fBooks_addRow N x1 x2 x3 x4 σ = some σ') : Ct l Z y_Books_addRow prog_3_method_2_code 7 none (rmo (1)) [.ref (Z.1 + 15), .int x1, .int x2, .int x3, .int x4, .ref (Z.1 + 2)] (cmb σ μ) none True (cmb σ' μ) := by
  refine x_met (by decide) (Nat.le_of_ble_eq_true rfl) (fun p e s m args below meth c ls hc hr hw hl => ?_)
  exact w_Books_addRow hc hr RO.self hw hl hf
theorem K_Books_addRow {idx : Nat} {N : Nat}  {x1 : Int32} {x2 : Int32} {x3 : Int32} {x4 : Int32} {σ' : St} {σ : St} (hc : Cxz p s m meth c args cc own nL Z) (hw : Wd Z (cmb σ μ) s H locs) (hl : Cond.methodLink own idx y_Books_addRow ∈ TB) (hf : fBooks_addRow N x1 x2 x3 x4 σ = some σ') (hR : RO R ((1) + 1)) (hcs : cells ≤ R.cells ∧ slots ≤ R.slots) (hls : ls.size = nL) (hst : (rest.map fun v => v.category).sum ≤ 8) (hdg : decode cc pc = .ok (.invokevirtual idx, 3)) (kk : ∀ (H1 : Heap) (locs1 : List Loc), Wd Z (cmb σ' μ) s H1 locs1 → True → W p l e R s m args below meth c H1 locs1 cells slots Q (F0 m (pc + 3) ls rest)) : W p l e R s m args below meth c H locs cells slots Q (F0 m pc ls (.ref (Z.1 + 2) :: .int x4 :: .int x3 :: .int x2 :: .int x1 :: .ref (Z.1 + 15) :: rest)) :=
  x_iv hc hw (c_Books_addRow hf) yv_Books_addRow (Nat.le_of_ble_eq_true rfl) rfl rfl hl (RO.call hR (by decide)) hcs rfl hls hst hdg rfl kk
set_option maxRecDepth 10000 in
theorem w_Land_noteChange {N : Nat} (hc : Cxz p s m meth c args prog_6_method_4_code "LabourExchange$Land" 2 Z) (hr : meth.sig.returnType = none) (hR : RO R 0) {σ' : St} : ∀ {x1 : Int32} {σ : St} {H : Heap} {locs : List Loc} {ls : Array Slot}, Wd Z (cmb σ μ) s H locs → lv_has ls 2 [(0, .ref (Z.1 + 3)), (1, .int x1)] → fLand_noteChange N x1 σ = some σ' → W p l e R s m args below meth c H locs 0 0 (MQ below (Qr Z none True (cmb σ' μ)) args s 0 0 (fun q => Z.1 ≤ q)) (F0 m 0 ls []) := by
  have hx := hc.hx
  have hb := hc.hb
  intro x1 σ H locs ls hw hl hf
  unfold fLand_noteChange at hf
  refine lv_aload_n hx hb (dq tk_Land_noteChange 0 rfl) rfl (lv_at hl 0 rfl) ?_
  refine G_Land_changes hc hw wd_105 (dq tk_Land_noteChange 1 rfl) ?_
  refine lv_iload_n hx hb (dq tk_Land_noteChange 2 rfl) rfl (lv_at hl 1 rfl) ?_
  refine lv_dup2_11 hx hb (dq tk_Land_noteChange 3 rfl) rfl rfl ?_
  obtain ⟨c1, hf⟩ := chk_some hf
  refine AL_Land_changes hc hw c1 (dq tk_Land_noteChange 4 rfl) ?_
  refine lv_iconst (v := 1) hx hb (dq tk_Land_noteChange 5 rfl) (by decide) ?_
  refine lv_iadd hx hb (dq tk_Land_noteChange 6 rfl) ?_
  obtain ⟨σ1, hσ1, hf⟩ := nm_some hf
  refine AS_Land_changes hc hw c1 hσ1 (dq tk_Land_noteChange 7 rfl) (fun H locs hw => ?_)
  cases hf
  exact x_vret hc hw hr (dq tk_Land_noteChange 8 rfl)
theorem c_Land_noteChange {N : Nat}  {x1 : Int32} {σ' : St} {σ : St} (hf : fLand_noteChange N x1 σ = some σ') : Ct l Z y_Land_noteChange prog_6_method_4_code 2 none (rmo (0)) [.ref (Z.1 + 3), .int x1] (cmb σ μ) none True (cmb σ' μ) := by
  refine x_met (by decide) (Nat.le_of_ble_eq_true rfl) (fun p e s m args below meth c ls hc hr hw hl => ?_)
  exact w_Land_noteChange hc hr RO.self hw hl hf
theorem K_Land_noteChange {idx : Nat} {N : Nat}  {x1 : Int32} {σ' : St} {σ : St} (hc : Cxz p s m meth c args cc own nL Z) (hw : Wd Z (cmb σ μ) s H locs) (hl : Cond.methodLink own idx y_Land_noteChange ∈ TB) (hf : fLand_noteChange N x1 σ = some σ') (hR : RO R ((0) + 1)) (hcs : cells ≤ R.cells ∧ slots ≤ R.slots) (hls : ls.size = nL) (hst : (rest.map fun v => v.category).sum ≤ 8) (hdg : decode cc pc = .ok (.invokevirtual idx, 3)) (kk : ∀ (H1 : Heap) (locs1 : List Loc), Wd Z (cmb σ' μ) s H1 locs1 → True → W p l e R s m args below meth c H1 locs1 cells slots Q (F0 m (pc + 3) ls rest)) : W p l e R s m args below meth c H locs cells slots Q (F0 m pc ls (.int x1 :: .ref (Z.1 + 3) :: rest)) :=
  x_iv hc hw (c_Land_noteChange hf) yv_Land_noteChange (Nat.le_of_ble_eq_true rfl) rfl rfl hl (RO.call hR (by decide)) hcs rfl hls hst hdg rfl kk
set_option maxRecDepth 10000 in
theorem w_Books_addReturn {N : Nat} (hc : Cxz p s m meth c args prog_3_method_3_code "LabourExchange$Books" 5 Z) (hr : meth.sig.returnType = none) (hR : RO R 0) {σ' : St} : ∀ {x1 : Int32} {x2 : Int32} {x3 : Int32} {x4 : Int32} {σ : St} {H : Heap} {locs : List Loc} {ls : Array Slot}, Wd Z (cmb σ μ) s H locs → lv_has ls 5 [(0, .ref (Z.1 + 15)), (1, .int x1), (2, .int x2), (3, .int x3), (4, .int x4)] → fBooks_addReturn N x1 x2 x3 x4 σ = some σ' → W p l e R s m args below meth c H locs 0 0 (MQ below (Qr Z none True (cmb σ' μ)) args s 0 0 (fun q => Z.1 ≤ q)) (F0 m 0 ls []) := by
  have hx := hc.hx
  have hb := hc.hb
  intro x1 x2 x3 x4 σ H locs ls hw hl hf
  unfold fBooks_addReturn at hf
  refine lv_aload_n hx hb (dq tk_Books_addReturn 0 rfl) rfl (lv_at hl 0 rfl) ?_
  refine G_Books_returnPerson hc hw wd_168 (dq tk_Books_addReturn 1 rfl) ?_
  refine lv_aload_n hx hb (dq tk_Books_addReturn 2 rfl) rfl (lv_at hl 0 rfl) ?_
  refine G_Books_returnCount hc hw wd_172 (dq tk_Books_addReturn 3 rfl) ?_
  refine lv_iload_n hx hb (dq tk_Books_addReturn 4 rfl) rfl (lv_at hl 1 rfl) ?_
  obtain ⟨c1, hf⟩ := chk_some hf
  obtain ⟨σ1, hσ1, hf⟩ := nm_some hf
  refine AS_Books_returnPerson hc hw c1 hσ1 (dq tk_Books_addReturn 5 rfl) (fun H locs hw => ?_)
  refine lv_aload_n hx hb (dq tk_Books_addReturn 6 rfl) rfl (lv_at hl 0 rfl) ?_
  refine G_Books_returnWeek hc hw wd_169 (dq tk_Books_addReturn 7 rfl) ?_
  refine lv_aload_n hx hb (dq tk_Books_addReturn 8 rfl) rfl (lv_at hl 0 rfl) ?_
  refine G_Books_returnCount hc hw wd_172 (dq tk_Books_addReturn 9 rfl) ?_
  refine lv_iload_n hx hb (dq tk_Books_addReturn 10 rfl) rfl (lv_at hl 2 rfl) ?_
  obtain ⟨c2, hf⟩ := chk_some hf
  obtain ⟨σ2, hσ2, hf⟩ := nm_some hf
  refine AS_Books_returnWeek hc hw c2 hσ2 (dq tk_Books_addReturn 11 rfl) (fun H locs hw => ?_)
  refine lv_aload_n hx hb (dq tk_Books_addReturn 12 rfl) rfl (lv_at hl 0 rfl) ?_
  refine G_Books_returnDays hc hw wd_170 (dq tk_Books_addReturn 13 rfl) ?_
  refine lv_aload_n hx hb (dq tk_Books_addReturn 14 rfl) rfl (lv_at hl 0 rfl) ?_
  refine G_Books_returnCount hc hw wd_172 (dq tk_Books_addReturn 15 rfl) ?_
  refine lv_iload_n hx hb (dq tk_Books_addReturn 16 rfl) rfl (lv_at hl 3 rfl) ?_
  obtain ⟨c3, hf⟩ := chk_some hf
  obtain ⟨σ3, hσ3, hf⟩ := nm_some hf
  refine AS_Books_returnDays hc hw c3 hσ3 (dq tk_Books_addReturn 17 rfl) (fun H locs hw => ?_)
  refine lv_aload_n hx hb (dq tk_Books_addReturn 18 rfl) rfl (lv_at hl 0 rfl) ?_
  refine G_Books_returnTold hc hw wd_171 (dq tk_Books_addReturn 19 rfl) ?_
  refine lv_aload_n hx hb (dq tk_Books_addReturn 20 rfl) rfl (lv_at hl 0 rfl) ?_
  refine G_Books_returnCount hc hw wd_172 (dq tk_Books_addReturn 21 rfl) ?_
  refine lv_iload hx hb (dq tk_Books_addReturn 22 rfl) (lv_at hl 4 rfl) ?_
  obtain ⟨c4, hf⟩ := chk_some hf
  obtain ⟨σ4, hσ4, hf⟩ := nm_some hf
  refine AS_Books_returnTold hc hw c4 hσ4 (dq tk_Books_addReturn 23 rfl) (fun H locs hw => ?_)
  refine lv_aload_n hx hb (dq tk_Books_addReturn 24 rfl) rfl (lv_at hl 0 rfl) ?_
  refine lv_dup hx hb (dq tk_Books_addReturn 25 rfl) rfl ?_
  refine G_Books_returnCount hc hw wd_172 (dq tk_Books_addReturn 26 rfl) ?_
  refine lv_iconst (v := 1) hx hb (dq tk_Books_addReturn 27 rfl) (by decide) ?_
  refine lv_iadd hx hb (dq tk_Books_addReturn 28 rfl) ?_
  obtain ⟨σ5, hσ5, hf⟩ := nm_some hf
  refine P_Books_returnCount hc hw wd_172 hσ5 (dq tk_Books_addReturn 29 rfl) (fun H locs hw => ?_)
  cases hf
  exact x_vret hc hw hr (dq tk_Books_addReturn 30 rfl)
theorem c_Books_addReturn {N : Nat}  {x1 : Int32} {x2 : Int32} {x3 : Int32} {x4 : Int32} {σ' : St} {σ : St} (hf : fBooks_addReturn N x1 x2 x3 x4 σ = some σ') : Ct l Z y_Books_addReturn prog_3_method_3_code 5 none (rmo (0)) [.ref (Z.1 + 15), .int x1, .int x2, .int x3, .int x4] (cmb σ μ) none True (cmb σ' μ) := by
  refine x_met (by decide) (Nat.le_of_ble_eq_true rfl) (fun p e s m args below meth c ls hc hr hw hl => ?_)
  exact w_Books_addReturn hc hr RO.self hw hl hf
theorem K_Books_addReturn {idx : Nat} {N : Nat}  {x1 : Int32} {x2 : Int32} {x3 : Int32} {x4 : Int32} {σ' : St} {σ : St} (hc : Cxz p s m meth c args cc own nL Z) (hw : Wd Z (cmb σ μ) s H locs) (hl : Cond.methodLink own idx y_Books_addReturn ∈ TB) (hf : fBooks_addReturn N x1 x2 x3 x4 σ = some σ') (hR : RO R ((0) + 1)) (hcs : cells ≤ R.cells ∧ slots ≤ R.slots) (hls : ls.size = nL) (hst : (rest.map fun v => v.category).sum ≤ 8) (hdg : decode cc pc = .ok (.invokevirtual idx, 3)) (kk : ∀ (H1 : Heap) (locs1 : List Loc), Wd Z (cmb σ' μ) s H1 locs1 → True → W p l e R s m args below meth c H1 locs1 cells slots Q (F0 m (pc + 3) ls rest)) : W p l e R s m args below meth c H locs cells slots Q (F0 m pc ls (.int x4 :: .int x3 :: .int x2 :: .int x1 :: .ref (Z.1 + 15) :: rest)) :=
  x_iv hc hw (c_Books_addReturn hf) yv_Books_addReturn (Nat.le_of_ble_eq_true rfl) rfl rfl hl (RO.call hR (by decide)) hcs rfl hls hst hdg rfl kk
set_option maxRecDepth 10000 in
theorem w_Books_latestRow_8 {N : Nat} (hc : Cxz p s m meth c args prog_3_method_7_code "LabourExchange$Books" 5 Z) (hr : meth.sig.returnType = (some .int)) (hR : RO R 0) {rv : Int32} {σ : St} (n : Nat) : ∀ {x1 : Int32} {x2 : Int32} {x3 : Int32} {x4 : Int32} {H : Heap} {locs : List Loc} {ls : Array Slot}, Wd Z (cmb σ μ) s H locs → lv_has ls 5 [(0, .ref (Z.1 + 15)), (1, .int x1), (2, .int x2), (3, .int x3), (4, .int x4)] → fBooks_latestRow_8 N n x1 x2 x3 x4 σ = some rv → W p l e R s m args below meth c H locs 0 0 (MQ below (Qr Z (some (.int rv)) True (cmb σ μ)) args s 0 0 (fun q => Z.1 ≤ q)) (F0 m 8 ls []) := by
  have hx := hc.hx
  have hb := hc.hb
  induction n with
  | zero =>
    intro x1 x2 x3 x4 H locs ls hw hl hf
    have hf : none = some _ := hf
    cases hf
  | succ n ih =>
    intro x1 x2 x3 x4 H locs ls hw hl hf
    unfold fBooks_latestRow_8 at hf
    refine lv_iload hx hb (dq tk_Books_latestRow 5 rfl) (lv_at hl 4 rfl) ?_
    refine lv_if_lt (tgt := 55) hx hb (dq tk_Books_latestRow 6 rfl) (by decide) (fun c1 => ?_) (fun c1 => ?_)
    · replace hf := if_t hf c1
      refine lv_iconst (v := (-1)) hx hb (dq tk_Books_latestRow 29 rfl) (by decide) ?_
      cases hf
      exact x_iret hc hw hr (dq tk_Books_latestRow 30 rfl)
    · replace hf := if_f hf c1
      refine lv_aload_n hx hb (dq tk_Books_latestRow 7 rfl) rfl (lv_at hl 0 rfl) ?_
      refine G_Books_rowPerson hc hw wd_162 (dq tk_Books_latestRow 8 rfl) ?_
      refine lv_iload hx hb (dq tk_Books_latestRow 9 rfl) (lv_at hl 4 rfl) ?_
      obtain ⟨c2, hf⟩ := chk_some hf
      refine AL_Books_rowPerson hc hw c2 (dq tk_Books_latestRow 10 rfl) ?_
      refine lv_iload_n hx hb (dq tk_Books_latestRow 11 rfl) rfl (lv_at hl 1 rfl) ?_
      refine lv_icmp_ne (tgt := 49) hx hb (dq tk_Books_latestRow 12 rfl) (by decide) (fun c3 => ?_) (fun c3 => ?_)
      · replace hf := if_f hf c3
        refine lv_iinc (v := (x4 + (-1))) (lv' := [(4, .int (x4 + (-1))), (0, .ref (Z.1 + 15)), (1, .int x1), (2, .int x2), (3, .int x3)]) hx hb (dq tk_Books_latestRow 27 rfl) hl (k := 4) rfl rfl (by decide) rfl (fun ls hl => ?_)
        refine lv_goto (tgt := 8) hx hb (dq tk_Books_latestRow 28 rfl) (by decide) ?_
        exact ih hw (lv_sub hl [1, 2, 3, 4, 0] rfl) hf
      · replace hf := if_t hf c3
        refine lv_aload_n hx hb (dq tk_Books_latestRow 13 rfl) rfl (lv_at hl 0 rfl) ?_
        refine G_Books_rowYear hc hw wd_163 (dq tk_Books_latestRow 14 rfl) ?_
        refine lv_iload hx hb (dq tk_Books_latestRow 15 rfl) (lv_at hl 4 rfl) ?_
        refine AL_Books_rowYear hc hw c2 (dq tk_Books_latestRow 16 rfl) ?_
        refine lv_iload_n hx hb (dq tk_Books_latestRow 17 rfl) rfl (lv_at hl 2 rfl) ?_
        refine lv_icmp_ne (tgt := 49) hx hb (dq tk_Books_latestRow 18 rfl) (by decide) (fun c4 => ?_) (fun c4 => ?_)
        · replace hf := if_f hf c4
          refine lv_iinc (v := (x4 + (-1))) (lv' := [(4, .int (x4 + (-1))), (0, .ref (Z.1 + 15)), (1, .int x1), (2, .int x2), (3, .int x3)]) hx hb (dq tk_Books_latestRow 27 rfl) hl (k := 4) rfl rfl (by decide) rfl (fun ls hl => ?_)
          refine lv_goto (tgt := 8) hx hb (dq tk_Books_latestRow 28 rfl) (by decide) ?_
          exact ih hw (lv_sub hl [1, 2, 3, 4, 0] rfl) hf
        · replace hf := if_t hf c4
          refine lv_aload_n hx hb (dq tk_Books_latestRow 19 rfl) rfl (lv_at hl 0 rfl) ?_
          refine G_Books_rowTold hc hw wd_165 (dq tk_Books_latestRow 20 rfl) ?_
          refine lv_iload hx hb (dq tk_Books_latestRow 21 rfl) (lv_at hl 4 rfl) ?_
          refine AL_Books_rowTold hc hw c2 (dq tk_Books_latestRow 22 rfl) ?_
          refine lv_iload_n hx hb (dq tk_Books_latestRow 23 rfl) rfl (lv_at hl 3 rfl) ?_
          refine lv_icmp_gt (tgt := 49) hx hb (dq tk_Books_latestRow 24 rfl) (by decide) (fun c5 => ?_) (fun c5 => ?_)
          · replace hf := if_t hf c5
            refine lv_iinc (v := (x4 + (-1))) (lv' := [(4, .int (x4 + (-1))), (0, .ref (Z.1 + 15)), (1, .int x1), (2, .int x2), (3, .int x3)]) hx hb (dq tk_Books_latestRow 27 rfl) hl (k := 4) rfl rfl (by decide) rfl (fun ls hl => ?_)
            refine lv_goto (tgt := 8) hx hb (dq tk_Books_latestRow 28 rfl) (by decide) ?_
            exact ih hw (lv_sub hl [1, 2, 3, 4, 0] rfl) hf
          · replace hf := if_f hf c5
            refine lv_iload hx hb (dq tk_Books_latestRow 25 rfl) (lv_at hl 4 rfl) ?_
            cases hf
            exact x_iret hc hw hr (dq tk_Books_latestRow 26 rfl)
set_option maxRecDepth 10000 in
theorem w_Books_latestRow {N : Nat} (hc : Cxz p s m meth c args prog_3_method_7_code "LabourExchange$Books" 5 Z) (hr : meth.sig.returnType = (some .int)) (hR : RO R 0) {rv : Int32} {σ : St} : ∀ {x1 : Int32} {x2 : Int32} {x3 : Int32} {H : Heap} {locs : List Loc} {ls : Array Slot}, Wd Z (cmb σ μ) s H locs → lv_has ls 5 [(0, .ref (Z.1 + 15)), (1, .int x1), (2, .int x2), (3, .int x3)] → fBooks_latestRow N x1 x2 x3 σ = some rv → W p l e R s m args below meth c H locs 0 0 (MQ below (Qr Z (some (.int rv)) True (cmb σ μ)) args s 0 0 (fun q => Z.1 ≤ q)) (F0 m 0 ls []) := by
  have hx := hc.hx
  have hb := hc.hb
  intro x1 x2 x3 H locs ls hw hl hf
  unfold fBooks_latestRow at hf
  refine lv_aload_n hx hb (dq tk_Books_latestRow 0 rfl) rfl (lv_at hl 0 rfl) ?_
  refine G_Books_rowCount hc hw wd_166 (dq tk_Books_latestRow 1 rfl) ?_
  refine lv_iconst (v := 1) hx hb (dq tk_Books_latestRow 2 rfl) (by decide) ?_
  refine lv_isub hx hb (dq tk_Books_latestRow 3 rfl) ?_
  obtain ⟨y1, hy1, hf⟩ := nm_some hf
  refine tst (congrArg Value.int hy1) ?_
  refine lv_istore (lv' := [(4, .int y1), (0, .ref (Z.1 + 15)), (1, .int x1), (2, .int x2), (3, .int x3)]) hx hb (dq tk_Books_latestRow 4 rfl) hl (by decide) rfl (fun ls hl => ?_)
  exact w_Books_latestRow_8 hc hr hR N hw (lv_sub hl [1, 2, 3, 4, 0] rfl) hf
theorem c_Books_latestRow {N : Nat}  {x1 : Int32} {x2 : Int32} {x3 : Int32} {rv : Int32} {σ : St} (hf : fBooks_latestRow N x1 x2 x3 σ = some rv) : Ct l Z y_Books_latestRow prog_3_method_7_code 5 (some .int) (rmo (0)) [.ref (Z.1 + 15), .int x1, .int x2, .int x3] (cmb σ μ) (some (.int rv)) True (cmb σ μ) := by
  refine x_met (by decide) (Nat.le_of_ble_eq_true rfl) (fun p e s m args below meth c ls hc hr hw hl => ?_)
  exact w_Books_latestRow hc hr RO.self hw hl hf
theorem K_Books_latestRow {idx : Nat} {N : Nat}  {x1 : Int32} {x2 : Int32} {x3 : Int32} {rv : Int32} {σ : St} (hc : Cxz p s m meth c args cc own nL Z) (hw : Wd Z (cmb σ μ) s H locs) (hl : Cond.methodLink own idx y_Books_latestRow ∈ TB) (hf : fBooks_latestRow N x1 x2 x3 σ = some rv) (hR : RO R ((0) + 1)) (hcs : cells ≤ R.cells ∧ slots ≤ R.slots) (hls : ls.size = nL) (hst : (rest.map fun v => v.category).sum ≤ 8) (hdg : decode cc pc = .ok (.invokevirtual idx, 3)) (kk : ∀ (H1 : Heap) (locs1 : List Loc), Wd Z (cmb σ μ) s H1 locs1 → True → W p l e R s m args below meth c H1 locs1 cells slots Q (F0 m (pc + 3) ls (.int rv :: rest))) : W p l e R s m args below meth c H locs cells slots Q (F0 m pc ls (.int x3 :: .int x2 :: .int x1 :: .ref (Z.1 + 15) :: rest)) :=
  x_iv hc hw (c_Books_latestRow hf) yv_Books_latestRow (Nat.le_of_ble_eq_true rfl) rfl rfl hl (RO.call hR (by decide)) hcs rfl hls hst hdg rfl kk
set_option maxRecDepth 10000 in
theorem w_Books_stampsInRow_36 {N : Nat} (hc : Cxz p s m meth c args prog_3_method_4_code "LabourExchange$Books" 6 Z) (hr : meth.sig.returnType = (some .int)) (hR : RO R 1) {rv : Int32} {σ : St} : ∀ {H : Heap} {locs : List Loc} {ls : Array Slot}, Wd Z (cmb σ μ) s H locs → lv_has ls 6 [] → fBooks_stampsInRow_36 N σ = some rv → W p l e R s m args below meth c H locs 0 0 (MQ below (Qr Z (some (.int rv)) True (cmb σ μ)) args s 0 0 (fun q => Z.1 ≤ q)) (F0 m 36 ls []) := by
  have hx := hc.hx
  have hb := hc.hb
  intro H locs ls hw hl hf
  unfold fBooks_stampsInRow_36 at hf
  refine lv_iconst (v := (-1)) hx hb (dq tk_Books_stampsInRow 21 rfl) (by decide) ?_
  refine lv_goto (tgt := 53) hx hb (dq tk_Books_stampsInRow 22 rfl) (by decide) ?_
  cases hf
  exact x_iret hc hw hr (dq tk_Books_stampsInRow 31 rfl)
set_option maxRecDepth 10000 in
theorem w_Books_stampsInRow {N : Nat} (hc : Cxz p s m meth c args prog_3_method_4_code "LabourExchange$Books" 6 Z) (hr : meth.sig.returnType = (some .int)) (hR : RO R 1) {rv : Int32} {σ : St} : ∀ {x1 : Int32} {x2 : Int32} {x3 : Int32} {H : Heap} {locs : List Loc} {ls : Array Slot}, Wd Z (cmb σ μ) s H locs → lv_has ls 6 [(0, .ref (Z.1 + 15)), (1, .int x1), (2, .int x2), (3, .int x3)] → fBooks_stampsInRow N x1 x2 x3 σ = some rv → W p l e R s m args below meth c H locs 0 0 (MQ below (Qr Z (some (.int rv)) True (cmb σ μ)) args s 0 0 (fun q => Z.1 ≤ q)) (F0 m 0 ls []) := by
  have hx := hc.hx
  have hb := hc.hb
  intro x1 x2 x3 H locs ls hw hl hf
  unfold fBooks_stampsInRow at hf
  refine lv_aload_n hx hb (dq tk_Books_stampsInRow 0 rfl) rfl (lv_at hl 0 rfl) ?_
  refine lv_iload_n hx hb (dq tk_Books_stampsInRow 1 rfl) rfl (lv_at hl 1 rfl) ?_
  refine lv_iload_n hx hb (dq tk_Books_stampsInRow 2 rfl) rfl (lv_at hl 2 rfl) ?_
  refine lv_bipush (v := 52) hx hb (dq tk_Books_stampsInRow 3 rfl) (by decide) ?_
  refine lv_idiv hx hb (dq tk_Books_stampsInRow 4 rfl) (by decide) ?_
  refine lv_iload_n hx hb (dq tk_Books_stampsInRow 5 rfl) rfl (lv_at hl 3 rfl) ?_
  obtain ⟨r1, h6, hf⟩ := bn1_someZ hf
  refine K_Books_latestRow hc hw wd_793 h6 (hR.mono (by decide)) ⟨Nat.zero_le _, Nat.zero_le _⟩ hl.1 (Nat.le_of_ble_eq_true rfl) (dq tk_Books_stampsInRow 6 rfl) (fun H locs hw _ => ?_)
  refine lv_istore (lv' := [(4, .int r1), (0, .ref (Z.1 + 15)), (1, .int x1), (2, .int x2), (3, .int x3)]) hx hb (dq tk_Books_stampsInRow 7 rfl) hl (by decide) rfl (fun ls hl => ?_)
  refine lv_iload_n hx hb (dq tk_Books_stampsInRow 8 rfl) rfl (lv_at hl 3 rfl) ?_
  refine lv_bipush (v := 52) hx hb (dq tk_Books_stampsInRow 9 rfl) (by decide) ?_
  refine lv_irem hx hb (dq tk_Books_stampsInRow 10 rfl) (by decide) ?_
  obtain ⟨y2, hy2, hf⟩ := nm_some hf
  refine tst (congrArg Value.int hy2) ?_
  refine lv_istore (lv' := [(5, .int y2), (4, .int r1), (0, .ref (Z.1 + 15)), (1, .int x1), (2, .int x2), (3, .int x3)]) hx hb (dq tk_Books_stampsInRow 11 rfl) hl (by decide) rfl (fun ls hl => ?_)
  refine lv_iload hx hb (dq tk_Books_stampsInRow 12 rfl) (lv_at hl 1 rfl) ?_
  refine lv_iconst (v := (-1)) hx hb (dq tk_Books_stampsInRow 13 rfl) (by decide) ?_
  refine lv_icmp_eq (tgt := 36) hx hb (dq tk_Books_stampsInRow 14 rfl) (by decide) (fun c1 => ?_) (fun c1 => ?_)
  · replace hf := if_t hf c1
    exact w_Books_stampsInRow_36 hc hr hR hw (lv_sub hl [] rfl) hf
  · replace hf := if_f hf c1
    refine lv_iload hx hb (dq tk_Books_stampsInRow 15 rfl) (lv_at hl 0 rfl) ?_
    refine lv_aload_n hx hb (dq tk_Books_stampsInRow 16 rfl) rfl (lv_at hl 2 rfl) ?_
    refine G_Books_rowLength hc hw wd_164 (dq tk_Books_stampsInRow 17 rfl) ?_
    refine lv_iload hx hb (dq tk_Books_stampsInRow 18 rfl) (lv_at hl 1 rfl) ?_
    obtain ⟨c2, hf⟩ := chk_some hf
    refine AL_Books_rowLength hc hw c2 (dq tk_Books_stampsInRow 19 rfl) ?_
    refine lv_icmp_lt (tgt := 40) hx hb (dq tk_Books_stampsInRow 20 rfl) (by decide) (fun c3 => ?_) (fun c3 => ?_)
    · replace hf := if_t hf c3
      refine lv_aload_n hx hb (dq tk_Books_stampsInRow 23 rfl) rfl (lv_at hl 2 rfl) ?_
      refine G_Books_rows hc hw wd_161 (dq tk_Books_stampsInRow 24 rfl) ?_
      refine lv_iload hx hb (dq tk_Books_stampsInRow 25 rfl) (lv_at hl 1 rfl) ?_
      refine lv_bipush (v := 52) hx hb (dq tk_Books_stampsInRow 26 rfl) (by decide) ?_
      refine lv_imul hx hb (dq tk_Books_stampsInRow 27 rfl) ?_
      refine lv_iload hx hb (dq tk_Books_stampsInRow 28 rfl) (lv_at hl 0 rfl) ?_
      refine lv_iadd hx hb (dq tk_Books_stampsInRow 29 rfl) ?_
      obtain ⟨c4, hf⟩ := chk_some hf
      refine AL_Books_rows hc hw c4 (dq tk_Books_stampsInRow 30 rfl) ?_
      cases hf
      exact x_iret hc hw hr (dq tk_Books_stampsInRow 31 rfl)
    · replace hf := if_f hf c3
      exact w_Books_stampsInRow_36 hc hr hR hw (lv_sub hl [] rfl) hf
theorem c_Books_stampsInRow {N : Nat}  {x1 : Int32} {x2 : Int32} {x3 : Int32} {rv : Int32} {σ : St} (hf : fBooks_stampsInRow N x1 x2 x3 σ = some rv) : Ct l Z y_Books_stampsInRow prog_3_method_4_code 6 (some .int) (rmo (1)) [.ref (Z.1 + 15), .int x1, .int x2, .int x3] (cmb σ μ) (some (.int rv)) True (cmb σ μ) := by
  refine x_met (by decide) (Nat.le_of_ble_eq_true rfl) (fun p e s m args below meth c ls hc hr hw hl => ?_)
  exact w_Books_stampsInRow hc hr RO.self hw hl hf
theorem K_Books_stampsInRow {idx : Nat} {N : Nat}  {x1 : Int32} {x2 : Int32} {x3 : Int32} {rv : Int32} {σ : St} (hc : Cxz p s m meth c args cc own nL Z) (hw : Wd Z (cmb σ μ) s H locs) (hl : Cond.methodLink own idx y_Books_stampsInRow ∈ TB) (hf : fBooks_stampsInRow N x1 x2 x3 σ = some rv) (hR : RO R ((1) + 1)) (hcs : cells ≤ R.cells ∧ slots ≤ R.slots) (hls : ls.size = nL) (hst : (rest.map fun v => v.category).sum ≤ 8) (hdg : decode cc pc = .ok (.invokevirtual idx, 3)) (kk : ∀ (H1 : Heap) (locs1 : List Loc), Wd Z (cmb σ μ) s H1 locs1 → True → W p l e R s m args below meth c H1 locs1 cells slots Q (F0 m (pc + 3) ls (.int rv :: rest))) : W p l e R s m args below meth c H locs cells slots Q (F0 m pc ls (.int x3 :: .int x2 :: .int x1 :: .ref (Z.1 + 15) :: rest)) :=
  x_iv hc hw (c_Books_stampsInRow hf) yv_Books_stampsInRow (Nat.le_of_ble_eq_true rfl) rfl rfl hl (RO.call hR (by decide)) hcs rfl hls hst hdg rfl kk
set_option maxRecDepth 10000 in
theorem w_Books_daysReturned_8 {N : Nat} (hc : Cxz p s m meth c args prog_3_method_5_code "LabourExchange$Books" 5 Z) (hr : meth.sig.returnType = (some .int)) (hR : RO R 0) {rv : Int32} {σ : St} (n : Nat) : ∀ {x1 : Int32} {x2 : Int32} {x3 : Int32} {x4 : Int32} {H : Heap} {locs : List Loc} {ls : Array Slot}, Wd Z (cmb σ μ) s H locs → lv_has ls 5 [(0, .ref (Z.1 + 15)), (1, .int x1), (2, .int x2), (3, .int x3), (4, .int x4)] → fBooks_daysReturned_8 N n x1 x2 x3 x4 σ = some rv → W p l e R s m args below meth c H locs 0 0 (MQ below (Qr Z (some (.int rv)) True (cmb σ μ)) args s 0 0 (fun q => Z.1 ≤ q)) (F0 m 8 ls []) := by
  have hx := hc.hx
  have hb := hc.hb
  induction n with
  | zero =>
    intro x1 x2 x3 x4 H locs ls hw hl hf
    have hf : none = some _ := hf
    cases hf
  | succ n ih =>
    intro x1 x2 x3 x4 H locs ls hw hl hf
    unfold fBooks_daysReturned_8 at hf
    refine lv_iload hx hb (dq tk_Books_daysReturned 5 rfl) (lv_at hl 4 rfl) ?_
    refine lv_if_lt (tgt := 60) hx hb (dq tk_Books_daysReturned 6 rfl) (by decide) (fun c1 => ?_) (fun c1 => ?_)
    · replace hf := if_t hf c1
      refine lv_iconst (v := (-1)) hx hb (dq tk_Books_daysReturned 32 rfl) (by decide) ?_
      cases hf
      exact x_iret hc hw hr (dq tk_Books_daysReturned 33 rfl)
    · replace hf := if_f hf c1
      refine lv_aload_n hx hb (dq tk_Books_daysReturned 7 rfl) rfl (lv_at hl 0 rfl) ?_
      refine G_Books_returnPerson hc hw wd_168 (dq tk_Books_daysReturned 8 rfl) ?_
      refine lv_iload hx hb (dq tk_Books_daysReturned 9 rfl) (lv_at hl 4 rfl) ?_
      obtain ⟨c2, hf⟩ := chk_some hf
      refine AL_Books_returnPerson hc hw c2 (dq tk_Books_daysReturned 10 rfl) ?_
      refine lv_iload_n hx hb (dq tk_Books_daysReturned 11 rfl) rfl (lv_at hl 1 rfl) ?_
      refine lv_icmp_ne (tgt := 54) hx hb (dq tk_Books_daysReturned 12 rfl) (by decide) (fun c3 => ?_) (fun c3 => ?_)
      · replace hf := if_f hf c3
        refine lv_iinc (v := (x4 + (-1))) (lv' := [(4, .int (x4 + (-1))), (0, .ref (Z.1 + 15)), (1, .int x1), (2, .int x2), (3, .int x3)]) hx hb (dq tk_Books_daysReturned 30 rfl) hl (k := 4) rfl rfl (by decide) rfl (fun ls hl => ?_)
        refine lv_goto (tgt := 8) hx hb (dq tk_Books_daysReturned 31 rfl) (by decide) ?_
        exact ih hw (lv_sub hl [1, 2, 3, 4, 0] rfl) hf
      · replace hf := if_t hf c3
        refine lv_aload_n hx hb (dq tk_Books_daysReturned 13 rfl) rfl (lv_at hl 0 rfl) ?_
        refine G_Books_returnWeek hc hw wd_169 (dq tk_Books_daysReturned 14 rfl) ?_
        refine lv_iload hx hb (dq tk_Books_daysReturned 15 rfl) (lv_at hl 4 rfl) ?_
        refine AL_Books_returnWeek hc hw c2 (dq tk_Books_daysReturned 16 rfl) ?_
        refine lv_iload_n hx hb (dq tk_Books_daysReturned 17 rfl) rfl (lv_at hl 2 rfl) ?_
        refine lv_icmp_ne (tgt := 54) hx hb (dq tk_Books_daysReturned 18 rfl) (by decide) (fun c4 => ?_) (fun c4 => ?_)
        · replace hf := if_f hf c4
          refine lv_iinc (v := (x4 + (-1))) (lv' := [(4, .int (x4 + (-1))), (0, .ref (Z.1 + 15)), (1, .int x1), (2, .int x2), (3, .int x3)]) hx hb (dq tk_Books_daysReturned 30 rfl) hl (k := 4) rfl rfl (by decide) rfl (fun ls hl => ?_)
          refine lv_goto (tgt := 8) hx hb (dq tk_Books_daysReturned 31 rfl) (by decide) ?_
          exact ih hw (lv_sub hl [1, 2, 3, 4, 0] rfl) hf
        · replace hf := if_t hf c4
          refine lv_aload_n hx hb (dq tk_Books_daysReturned 19 rfl) rfl (lv_at hl 0 rfl) ?_
          refine G_Books_returnTold hc hw wd_171 (dq tk_Books_daysReturned 20 rfl) ?_
          refine lv_iload hx hb (dq tk_Books_daysReturned 21 rfl) (lv_at hl 4 rfl) ?_
          refine AL_Books_returnTold hc hw c2 (dq tk_Books_daysReturned 22 rfl) ?_
          refine lv_iload_n hx hb (dq tk_Books_daysReturned 23 rfl) rfl (lv_at hl 3 rfl) ?_
          refine lv_icmp_gt (tgt := 54) hx hb (dq tk_Books_daysReturned 24 rfl) (by decide) (fun c5 => ?_) (fun c5 => ?_)
          · replace hf := if_t hf c5
            refine lv_iinc (v := (x4 + (-1))) (lv' := [(4, .int (x4 + (-1))), (0, .ref (Z.1 + 15)), (1, .int x1), (2, .int x2), (3, .int x3)]) hx hb (dq tk_Books_daysReturned 30 rfl) hl (k := 4) rfl rfl (by decide) rfl (fun ls hl => ?_)
            refine lv_goto (tgt := 8) hx hb (dq tk_Books_daysReturned 31 rfl) (by decide) ?_
            exact ih hw (lv_sub hl [1, 2, 3, 4, 0] rfl) hf
          · replace hf := if_f hf c5
            refine lv_aload_n hx hb (dq tk_Books_daysReturned 25 rfl) rfl (lv_at hl 0 rfl) ?_
            refine G_Books_returnDays hc hw wd_170 (dq tk_Books_daysReturned 26 rfl) ?_
            refine lv_iload hx hb (dq tk_Books_daysReturned 27 rfl) (lv_at hl 4 rfl) ?_
            refine AL_Books_returnDays hc hw c2 (dq tk_Books_daysReturned 28 rfl) ?_
            cases hf
            exact x_iret hc hw hr (dq tk_Books_daysReturned 29 rfl)
set_option maxRecDepth 10000 in
theorem w_Books_daysReturned {N : Nat} (hc : Cxz p s m meth c args prog_3_method_5_code "LabourExchange$Books" 5 Z) (hr : meth.sig.returnType = (some .int)) (hR : RO R 0) {rv : Int32} {σ : St} : ∀ {x1 : Int32} {x2 : Int32} {x3 : Int32} {H : Heap} {locs : List Loc} {ls : Array Slot}, Wd Z (cmb σ μ) s H locs → lv_has ls 5 [(0, .ref (Z.1 + 15)), (1, .int x1), (2, .int x2), (3, .int x3)] → fBooks_daysReturned N x1 x2 x3 σ = some rv → W p l e R s m args below meth c H locs 0 0 (MQ below (Qr Z (some (.int rv)) True (cmb σ μ)) args s 0 0 (fun q => Z.1 ≤ q)) (F0 m 0 ls []) := by
  have hx := hc.hx
  have hb := hc.hb
  intro x1 x2 x3 H locs ls hw hl hf
  unfold fBooks_daysReturned at hf
  refine lv_aload_n hx hb (dq tk_Books_daysReturned 0 rfl) rfl (lv_at hl 0 rfl) ?_
  refine G_Books_returnCount hc hw wd_172 (dq tk_Books_daysReturned 1 rfl) ?_
  refine lv_iconst (v := 1) hx hb (dq tk_Books_daysReturned 2 rfl) (by decide) ?_
  refine lv_isub hx hb (dq tk_Books_daysReturned 3 rfl) ?_
  obtain ⟨y1, hy1, hf⟩ := nm_some hf
  refine tst (congrArg Value.int hy1) ?_
  refine lv_istore (lv' := [(4, .int y1), (0, .ref (Z.1 + 15)), (1, .int x1), (2, .int x2), (3, .int x3)]) hx hb (dq tk_Books_daysReturned 4 rfl) hl (by decide) rfl (fun ls hl => ?_)
  exact w_Books_daysReturned_8 hc hr hR N hw (lv_sub hl [1, 2, 3, 4, 0] rfl) hf
theorem c_Books_daysReturned {N : Nat}  {x1 : Int32} {x2 : Int32} {x3 : Int32} {rv : Int32} {σ : St} (hf : fBooks_daysReturned N x1 x2 x3 σ = some rv) : Ct l Z y_Books_daysReturned prog_3_method_5_code 5 (some .int) (rmo (0)) [.ref (Z.1 + 15), .int x1, .int x2, .int x3] (cmb σ μ) (some (.int rv)) True (cmb σ μ) := by
  refine x_met (by decide) (Nat.le_of_ble_eq_true rfl) (fun p e s m args below meth c ls hc hr hw hl => ?_)
  exact w_Books_daysReturned hc hr RO.self hw hl hf
theorem K_Books_daysReturned {idx : Nat} {N : Nat}  {x1 : Int32} {x2 : Int32} {x3 : Int32} {rv : Int32} {σ : St} (hc : Cxz p s m meth c args cc own nL Z) (hw : Wd Z (cmb σ μ) s H locs) (hl : Cond.methodLink own idx y_Books_daysReturned ∈ TB) (hf : fBooks_daysReturned N x1 x2 x3 σ = some rv) (hR : RO R ((0) + 1)) (hcs : cells ≤ R.cells ∧ slots ≤ R.slots) (hls : ls.size = nL) (hst : (rest.map fun v => v.category).sum ≤ 8) (hdg : decode cc pc = .ok (.invokevirtual idx, 3)) (kk : ∀ (H1 : Heap) (locs1 : List Loc), Wd Z (cmb σ μ) s H1 locs1 → True → W p l e R s m args below meth c H1 locs1 cells slots Q (F0 m (pc + 3) ls (.int rv :: rest))) : W p l e R s m args below meth c H locs cells slots Q (F0 m pc ls (.int x3 :: .int x2 :: .int x1 :: .ref (Z.1 + 15) :: rest)) :=
  x_iv hc hw (c_Books_daysReturned hf) yv_Books_daysReturned (Nat.le_of_ble_eq_true rfl) rfl rfl hl (RO.call hR (by decide)) hcs rfl hls hst hdg rfl kk
set_option maxRecDepth 10000 in
theorem w_Arrays_fill_Act_params_5 {N : Nat} {k0_0 : Nat} (hc : Cxz p s m meth c args prog_29_method_103_code "java/util/Arrays" 4 Z) (hr : meth.sig.returnType = none) (hR : RO R 0) (hk0_0 : k0_0 < 17) {σ' : St} (n : Nat) : ∀ {x1 : Int32} {x2 : Int32} {x3 : Int32} {σ : St} {H : Heap} {locs : List Loc} {ls : Array Slot}, Wd Z (cmb σ μ) s H locs → lv_has ls 4 [(0, .ref (Z.1 + (92 + 6 * k0_0))), (1, .int x1), (2, .int x2), (3, .int x3)] → fArrays_fill_Act_params_5 N k0_0 n x1 x2 x3 σ = some σ' → W p l e R s m args below meth c H locs 0 0 (MQ below (Qr Z none True (cmb σ' μ)) args s 0 0 (fun q => Z.1 ≤ q)) (F0 m 5 ls []) := by
  have hx := hc.hx
  have hb := hc.hb
  induction n with
  | zero =>
    intro x1 x2 x3 σ H locs ls hw hl hf
    have hf : none = some _ := hf
    cases hf
  | succ n ih =>
    intro x1 x2 x3 σ H locs ls hw hl hf
    unfold fArrays_fill_Act_params_5 at hf
    refine lv_iload_n hx hb (dq tk_Arrays_fill_I 5 rfl) rfl (lv_at hl 2 rfl) ?_
    refine lv_iload_n hx hb (dq tk_Arrays_fill_I 6 rfl) rfl (lv_at hl 3 rfl) ?_
    refine lv_icmp_ge (tgt := 20) hx hb (dq tk_Arrays_fill_I 7 rfl) (by decide) (fun c1 => ?_) (fun c1 => ?_)
    · replace hf := if_t hf c1
      cases hf
      exact x_vret hc hw hr (dq tk_Arrays_fill_I 14 rfl)
    · replace hf := if_f hf c1
      refine lv_aload_n hx hb (dq tk_Arrays_fill_I 8 rfl) rfl (lv_at hl 0 rfl) ?_
      refine lv_iload_n hx hb (dq tk_Arrays_fill_I 9 rfl) rfl (lv_at hl 2 rfl) ?_
      refine lv_iload_n hx hb (dq tk_Arrays_fill_I 10 rfl) rfl (lv_at hl 1 rfl) ?_
      obtain ⟨c2, hf⟩ := chk_some hf
      obtain ⟨σ1, hσ1, hf⟩ := nm_some hf
      refine AS_Act_params hk0_0 hc hw c2 hσ1 (dq tk_Arrays_fill_I 11 rfl) (fun H locs hw => ?_)
      refine lv_iinc (v := (x2 + 1)) (lv' := [(2, .int (x2 + 1)), (0, .ref (Z.1 + (92 + 6 * k0_0))), (1, .int x1), (3, .int x3)]) hx hb (dq tk_Arrays_fill_I 12 rfl) hl (k := 2) rfl rfl (by decide) rfl (fun ls hl => ?_)
      refine lv_goto (tgt := 5) hx hb (dq tk_Arrays_fill_I 13 rfl) (by decide) ?_
      exact ih hw (lv_sub hl [1, 2, 0, 3] rfl) hf
set_option maxRecDepth 10000 in
theorem w_Arrays_fill_Act_params {N : Nat} {k0_0 : Nat} (hc : Cxz p s m meth c args prog_29_method_103_code "java/util/Arrays" 4 Z) (hr : meth.sig.returnType = none) (hR : RO R 0) (hk0_0 : k0_0 < 17) {σ' : St} : ∀ {x1 : Int32} {σ : St} {H : Heap} {locs : List Loc} {ls : Array Slot}, Wd Z (cmb σ μ) s H locs → lv_has ls 4 [(0, .ref (Z.1 + (92 + 6 * k0_0))), (1, .int x1)] → fArrays_fill_Act_params N k0_0 x1 σ = some σ' → W p l e R s m args below meth c H locs 0 0 (MQ below (Qr Z none True (cmb σ' μ)) args s 0 0 (fun q => Z.1 ≤ q)) (F0 m 0 ls []) := by
  have hx := hc.hx
  have hb := hc.hb
  intro x1 σ H locs ls hw hl hf
  unfold fArrays_fill_Act_params at hf
  refine lv_iconst (v := 0) hx hb (dq tk_Arrays_fill_I 0 rfl) (by decide) ?_
  refine lv_istore_n (lv' := [(2, .int 0), (0, .ref (Z.1 + (92 + 6 * k0_0))), (1, .int x1)]) hx hb (dq tk_Arrays_fill_I 1 rfl) rfl hl (by decide) rfl (fun ls hl => ?_)
  refine lv_aload_n hx hb (dq tk_Arrays_fill_I 2 rfl) rfl (lv_at hl 1 rfl) ?_
  refine LN_Act_params hk0_0 hc hw (dq tk_Arrays_fill_I 3 rfl) ?_
  refine lv_istore_n (lv' := [(3, .int 8), (2, .int 0), (0, .ref (Z.1 + (92 + 6 * k0_0))), (1, .int x1)]) hx hb (dq tk_Arrays_fill_I 4 rfl) rfl hl (by decide) rfl (fun ls hl => ?_)
  exact w_Arrays_fill_Act_params_5 hc hr hR hk0_0 N hw (lv_sub hl [2, 3, 1, 0] rfl) hf
theorem c_Arrays_fill_Act_params {N : Nat} {k0_0 : Nat}  {x1 : Int32} {σ' : St} {σ : St} (hk0_0 : k0_0 < 17) (hf : fArrays_fill_Act_params N k0_0 x1 σ = some σ') : Ct l Z y_Arrays_fill_I prog_29_method_103_code 4 none (rmo (0)) [.ref (Z.1 + (92 + 6 * k0_0)), .int x1] (cmb σ μ) none True (cmb σ' μ) := by
  refine x_met (by decide) (Nat.le_of_ble_eq_true rfl) (fun p e s m args below meth c ls hc hr hw hl => ?_)
  exact w_Arrays_fill_Act_params hc hr RO.self hk0_0 hw hl hf
theorem K_Arrays_fill_Act_params {idx : Nat} {N : Nat} {k0_0 : Nat}  {x1 : Int32} {σ' : St} {σ : St} (hc : Cxz p s m meth c args cc own nL Z) (hw : Wd Z (cmb σ μ) s H locs) (hk0_0 : k0_0 < 17) (hl : Cond.methodLink own idx y_Arrays_fill_I ∈ TB) (hf : fArrays_fill_Act_params N k0_0 x1 σ = some σ') (hR : RO R ((0) + 1)) (hcs : cells ≤ R.cells ∧ slots ≤ R.slots) (hls : ls.size = nL) (hst : (rest.map fun v => v.category).sum ≤ 8) (hdg : decode cc pc = .ok (.invokestatic idx, 3)) (kk : ∀ (H1 : Heap) (locs1 : List Loc), Wd Z (cmb σ' μ) s H1 locs1 → True → W p l e R s m args below meth c H1 locs1 cells slots Q (F0 m (pc + 3) ls rest)) : W p l e R s m args below meth c H locs cells slots Q (F0 m pc ls (.int x1 :: .ref (Z.1 + (92 + 6 * k0_0)) :: rest)) :=
  x_is hc hw (c_Arrays_fill_Act_params hk0_0 hf) ys_Arrays_fill_I hl (RO.call hR (by decide)) hcs rfl hls hst hdg rfl kk
set_option maxRecDepth 10000 in
theorem w_Events_leastNumber_11 {N : Nat} (hc : Cxz p s m meth c args prog_5_method_2_code "LabourExchange$Events" 1 Z) (hr : meth.sig.returnType = (some .int)) (hR : RO R 0) {rv : Int32} {σ : St} : ∀ {H : Heap} {locs : List Loc} {ls : Array Slot}, Wd Z (cmb σ μ) s H locs → lv_has ls 1 [] → fEvents_leastNumber_11 N σ = some rv → W p l e R s m args below meth c H locs 0 0 (MQ below (Qr Z (some (.int rv)) True (cmb σ μ)) args s 0 0 (fun q => Z.1 ≤ q)) (F0 m 11 ls []) := by
  have hx := hc.hx
  have hb := hc.hb
  intro H locs ls hw hl hf
  unfold fEvents_leastNumber_11 at hf
  refine lv_iconst (v := 1) hx hb (dq tk_Events_leastNumber 6 rfl) (by decide) ?_
  refine lv_goto (tgt := 16) hx hb (dq tk_Events_leastNumber 7 rfl) (by decide) ?_
  cases hf
  exact x_iret hc hw hr (dq tk_Events_leastNumber 9 rfl)
set_option maxRecDepth 10000 in
theorem w_Events_leastNumber {N : Nat} (hc : Cxz p s m meth c args prog_5_method_2_code "LabourExchange$Events" 1 Z) (hr : meth.sig.returnType = (some .int)) (hR : RO R 0) {rv : Int32} {σ : St} : ∀ {x0 : Int32} {H : Heap} {locs : List Loc} {ls : Array Slot}, Wd Z (cmb σ μ) s H locs → lv_has ls 1 [(0, .int x0)] → fEvents_leastNumber N x0 σ = some rv → W p l e R s m args below meth c H locs 0 0 (MQ below (Qr Z (some (.int rv)) True (cmb σ μ)) args s 0 0 (fun q => Z.1 ≤ q)) (F0 m 0 ls []) := by
  have hx := hc.hx
  have hb := hc.hb
  intro x0 H locs ls hw hl hf
  unfold fEvents_leastNumber at hf
  refine lv_iload_n hx hb (dq tk_Events_leastNumber 0 rfl) rfl (lv_at hl 0 rfl) ?_
  refine lv_iconst (v := 1) hx hb (dq tk_Events_leastNumber 1 rfl) (by decide) ?_
  refine lv_icmp_eq (tgt := 11) hx hb (dq tk_Events_leastNumber 2 rfl) (by decide) (fun c1 => ?_) (fun c1 => ?_)
  · replace hf := if_t hf c1
    exact w_Events_leastNumber_11 hc hr hR hw (lv_sub hl [] rfl) hf
  · replace hf := if_f hf c1
    refine lv_iload_n hx hb (dq tk_Events_leastNumber 3 rfl) rfl (lv_at hl 0 rfl) ?_
    refine lv_bipush (v := 6) hx hb (dq tk_Events_leastNumber 4 rfl) (by decide) ?_
    refine lv_icmp_ne (tgt := 15) hx hb (dq tk_Events_leastNumber 5 rfl) (by decide) (fun c2 => ?_) (fun c2 => ?_)
    · replace hf := if_f hf c2
      refine lv_iconst (v := 0) hx hb (dq tk_Events_leastNumber 8 rfl) (by decide) ?_
      cases hf
      exact x_iret hc hw hr (dq tk_Events_leastNumber 9 rfl)
    · replace hf := if_t hf c2
      exact w_Events_leastNumber_11 hc hr hR hw (lv_sub hl [] rfl) hf
theorem c_Events_leastNumber {N : Nat}  {x0 : Int32} {rv : Int32} {σ : St} (hf : fEvents_leastNumber N x0 σ = some rv) : Ct l Z y_Events_leastNumber prog_5_method_2_code 1 (some .int) (rmo (0)) [.int x0] (cmb σ μ) (some (.int rv)) True (cmb σ μ) := by
  refine x_met (by decide) (Nat.le_of_ble_eq_true rfl) (fun p e s m args below meth c ls hc hr hw hl => ?_)
  exact w_Events_leastNumber hc hr RO.self hw hl hf
theorem K_Events_leastNumber {idx : Nat} {N : Nat}  {x0 : Int32} {rv : Int32} {σ : St} (hc : Cxz p s m meth c args cc own nL Z) (hw : Wd Z (cmb σ μ) s H locs) (hl : Cond.methodLink own idx y_Events_leastNumber ∈ TB) (hf : fEvents_leastNumber N x0 σ = some rv) (hR : RO R ((0) + 1)) (hcs : cells ≤ R.cells ∧ slots ≤ R.slots) (hls : ls.size = nL) (hst : (rest.map fun v => v.category).sum ≤ 8) (hdg : decode cc pc = .ok (.invokestatic idx, 3)) (kk : ∀ (H1 : Heap) (locs1 : List Loc), Wd Z (cmb σ μ) s H1 locs1 → True → W p l e R s m args below meth c H1 locs1 cells slots Q (F0 m (pc + 3) ls (.int rv :: rest))) : W p l e R s m args below meth c H locs cells slots Q (F0 m pc ls (.int x0 :: rest)) :=
  x_is hc hw (c_Events_leastNumber hf) ys_Events_leastNumber hl (RO.call hR (by decide)) hcs rfl hls hst hdg rfl kk
set_option maxRecDepth 10000 in
theorem w_Events_mostNumber {N : Nat} (hc : Cxz p s m meth c args prog_5_method_3_code "LabourExchange$Events" 1 Z) (hr : meth.sig.returnType = (some .int)) (hR : RO R 0) {rv : Int32} {σ : St} : ∀ {x0 : Int32} {H : Heap} {locs : List Loc} {ls : Array Slot}, Wd Z (cmb σ μ) s H locs → lv_has ls 1 [(0, .int x0)] → fEvents_mostNumber N x0 σ = some rv → W p l e R s m args below meth c H locs 0 0 (MQ below (Qr Z (some (.int rv)) True (cmb σ μ)) args s 0 0 (fun q => Z.1 ≤ q)) (F0 m 0 ls []) := by
  have hx := hc.hx
  have hb := hc.hb
  intro x0 H locs ls hw hl hf
  unfold fEvents_mostNumber at hf
  refine lv_iload_n hx hb (dq tk_Events_mostNumber 0 rfl) rfl (lv_at hl 0 rfl) ?_
  by_cases c1_0 : x0 = 0
  · replace hf := if_t hf c1_0
    refine lv_tableIn (tgt := 44) hx hb (dq tk_Events_mostNumber 1 rfl) (by rw [c1_0]; decide) (by rw [c1_0]; decide) (by rw [c1_0]; first | done | rfl) (by decide) ?_
    refine lv_iconst (v := 3) hx hb (dq tk_Events_mostNumber 2 rfl) (by decide) ?_
    cases hf
    exact x_iret hc hw hr (dq tk_Events_mostNumber 3 rfl)
  replace hf := if_f hf c1_0
  by_cases c1_1 : x0 = 1
  · replace hf := if_t hf c1_1
    refine lv_tableIn (tgt := 46) hx hb (dq tk_Events_mostNumber 1 rfl) (by rw [c1_1]; decide) (by rw [c1_1]; decide) (by rw [c1_1]; first | done | rfl) (by decide) ?_
    refine lv_sipush (v := 999) hx hb (dq tk_Events_mostNumber 4 rfl) (by decide) ?_
    cases hf
    exact x_iret hc hw hr (dq tk_Events_mostNumber 5 rfl)
  replace hf := if_f hf c1_1
  by_cases c1_2 : x0 = 2
  · replace hf := if_t hf c1_2
    refine lv_tableIn (tgt := 57) hx hb (dq tk_Events_mostNumber 1 rfl) (by rw [c1_2]; decide) (by rw [c1_2]; decide) (by rw [c1_2]; first | done | rfl) (by decide) ?_
    refine lv_iconst (v := 0) hx hb (dq tk_Events_mostNumber 10 rfl) (by decide) ?_
    cases hf
    exact x_iret hc hw hr (dq tk_Events_mostNumber 11 rfl)
  replace hf := if_f hf c1_2
  by_cases c1_3 : x0 = 3
  · replace hf := if_t hf c1_3
    refine lv_tableIn (tgt := 57) hx hb (dq tk_Events_mostNumber 1 rfl) (by rw [c1_3]; decide) (by rw [c1_3]; decide) (by rw [c1_3]; first | done | rfl) (by decide) ?_
    refine lv_iconst (v := 0) hx hb (dq tk_Events_mostNumber 10 rfl) (by decide) ?_
    cases hf
    exact x_iret hc hw hr (dq tk_Events_mostNumber 11 rfl)
  replace hf := if_f hf c1_3
  by_cases c1_4 : x0 = 4
  · replace hf := if_t hf c1_4
    refine lv_tableIn (tgt := 57) hx hb (dq tk_Events_mostNumber 1 rfl) (by rw [c1_4]; decide) (by rw [c1_4]; decide) (by rw [c1_4]; first | done | rfl) (by decide) ?_
    refine lv_iconst (v := 0) hx hb (dq tk_Events_mostNumber 10 rfl) (by decide) ?_
    cases hf
    exact x_iret hc hw hr (dq tk_Events_mostNumber 11 rfl)
  replace hf := if_f hf c1_4
  by_cases c1_5 : x0 = 5
  · replace hf := if_t hf c1_5
    refine lv_tableIn (tgt := 50) hx hb (dq tk_Events_mostNumber 1 rfl) (by rw [c1_5]; decide) (by rw [c1_5]; decide) (by rw [c1_5]; first | done | rfl) (by decide) ?_
    refine lv_sipush (v := 9999) hx hb (dq tk_Events_mostNumber 6 rfl) (by decide) ?_
    cases hf
    exact x_iret hc hw hr (dq tk_Events_mostNumber 7 rfl)
  replace hf := if_f hf c1_5
  by_cases c1_6 : x0 = 6
  · replace hf := if_t hf c1_6
    refine lv_tableIn (tgt := 54) hx hb (dq tk_Events_mostNumber 1 rfl) (by rw [c1_6]; decide) (by rw [c1_6]; decide) (by rw [c1_6]; first | done | rfl) (by decide) ?_
    refine lv_bipush (v := 6) hx hb (dq tk_Events_mostNumber 8 rfl) (by decide) ?_
    cases hf
    exact x_iret hc hw hr (dq tk_Events_mostNumber 9 rfl)
  replace hf := if_f hf c1_6
  refine lv_tableOut (tgt := 57) hx hb (dq tk_Events_mostNumber 1 rfl) (sw_out (fun k h1 h2 => by
    have h3 : k = 0 ∨ k = 1 ∨ k = 2 ∨ k = 3 ∨ k = 4 ∨ k = 5 ∨ k = 6 := by omega
    rcases h3 with rfl | rfl | rfl | rfl | rfl | rfl | rfl
    · exact c1_0
    · exact c1_1
    · exact c1_2
    · exact c1_3
    · exact c1_4
    · exact c1_5
    · exact c1_6
    )) (by decide) ?_
  refine lv_iconst (v := 0) hx hb (dq tk_Events_mostNumber 10 rfl) (by decide) ?_
  cases hf
  exact x_iret hc hw hr (dq tk_Events_mostNumber 11 rfl)
theorem c_Events_mostNumber {N : Nat}  {x0 : Int32} {rv : Int32} {σ : St} (hf : fEvents_mostNumber N x0 σ = some rv) : Ct l Z y_Events_mostNumber prog_5_method_3_code 1 (some .int) (rmo (0)) [.int x0] (cmb σ μ) (some (.int rv)) True (cmb σ μ) := by
  refine x_met (by decide) (Nat.le_of_ble_eq_true rfl) (fun p e s m args below meth c ls hc hr hw hl => ?_)
  exact w_Events_mostNumber hc hr RO.self hw hl hf
theorem K_Events_mostNumber {idx : Nat} {N : Nat}  {x0 : Int32} {rv : Int32} {σ : St} (hc : Cxz p s m meth c args cc own nL Z) (hw : Wd Z (cmb σ μ) s H locs) (hl : Cond.methodLink own idx y_Events_mostNumber ∈ TB) (hf : fEvents_mostNumber N x0 σ = some rv) (hR : RO R ((0) + 1)) (hcs : cells ≤ R.cells ∧ slots ≤ R.slots) (hls : ls.size = nL) (hst : (rest.map fun v => v.category).sum ≤ 8) (hdg : decode cc pc = .ok (.invokestatic idx, 3)) (kk : ∀ (H1 : Heap) (locs1 : List Loc), Wd Z (cmb σ μ) s H1 locs1 → True → W p l e R s m args below meth c H1 locs1 cells slots Q (F0 m (pc + 3) ls (.int rv :: rest))) : W p l e R s m args below meth c H locs cells slots Q (F0 m pc ls (.int x0 :: rest)) :=
  x_is hc hw (c_Events_mostNumber hf) ys_Events_mostNumber hl (RO.call hR (by decide)) hcs rfl hls hst hdg rfl kk
set_option maxRecDepth 10000 in
theorem w_Events_add {N : Nat} (hc : Cxz p s m meth c args prog_5_method_4_code "LabourExchange$Events" 6 Z) (hr : meth.sig.returnType = (some .int)) (hR : RO R 0) {rv : Int32} {σ' : St} : ∀ {x1 : Int32} {x2 : Int32} {x3 : Int32} {x4 : Int32} {x5 : Int32} {σ : St} {H : Heap} {locs : List Loc} {ls : Array Slot}, Wd Z (cmb σ μ) s H locs → lv_has ls 6 [(0, .ref (Z.1 + 25)), (1, .int x1), (2, .int x2), (3, .int x3), (4, .int x4), (5, .int x5)] → fEvents_add N x1 x2 x3 x4 x5 σ = some (rv, σ') → W p l e R s m args below meth c H locs 0 0 (MQ below (Qr Z (some (.int rv)) True (cmb σ' μ)) args s 0 0 (fun q => Z.1 ≤ q)) (F0 m 0 ls []) := by
  have hx := hc.hx
  have hb := hc.hb
  intro x1 x2 x3 x4 x5 σ H locs ls hw hl hf
  unfold fEvents_add at hf
  refine lv_aload_n hx hb (dq tk_Events_add 0 rfl) rfl (lv_at hl 0 rfl) ?_
  refine G_Events_kind hc hw wd_203 (dq tk_Events_add 1 rfl) ?_
  refine lv_aload_n hx hb (dq tk_Events_add 2 rfl) rfl (lv_at hl 0 rfl) ?_
  refine G_Events_count hc hw wd_219 (dq tk_Events_add 3 rfl) ?_
  refine lv_iload_n hx hb (dq tk_Events_add 4 rfl) rfl (lv_at hl 1 rfl) ?_
  obtain ⟨c1, hf⟩ := chk_some hf
  obtain ⟨σ1, hσ1, hf⟩ := nm_some hf
  refine AS_Events_kind hc hw c1 hσ1 (dq tk_Events_add 5 rfl) (fun H locs hw => ?_)
  refine lv_aload_n hx hb (dq tk_Events_add 6 rfl) rfl (lv_at hl 0 rfl) ?_
  refine G_Events_person hc hw wd_206 (dq tk_Events_add 7 rfl) ?_
  refine lv_aload_n hx hb (dq tk_Events_add 8 rfl) rfl (lv_at hl 0 rfl) ?_
  refine G_Events_count hc hw wd_219 (dq tk_Events_add 9 rfl) ?_
  refine lv_iload_n hx hb (dq tk_Events_add 10 rfl) rfl (lv_at hl 2 rfl) ?_
  obtain ⟨c2, hf⟩ := chk_some hf
  obtain ⟨σ2, hσ2, hf⟩ := nm_some hf
  refine AS_Events_person hc hw c2 hσ2 (dq tk_Events_add 11 rfl) (fun H locs hw => ?_)
  refine lv_aload_n hx hb (dq tk_Events_add 12 rfl) rfl (lv_at hl 0 rfl) ?_
  refine G_Events_number hc hw wd_209 (dq tk_Events_add 13 rfl) ?_
  refine lv_aload_n hx hb (dq tk_Events_add 14 rfl) rfl (lv_at hl 0 rfl) ?_
  refine G_Events_count hc hw wd_219 (dq tk_Events_add 15 rfl) ?_
  refine lv_iload_n hx hb (dq tk_Events_add 16 rfl) rfl (lv_at hl 3 rfl) ?_
  obtain ⟨c3, hf⟩ := chk_some hf
  obtain ⟨σ3, hσ3, hf⟩ := nm_some hf
  refine AS_Events_number hc hw c3 hσ3 (dq tk_Events_add 17 rfl) (fun H locs hw => ?_)
  refine lv_aload_n hx hb (dq tk_Events_add 18 rfl) rfl (lv_at hl 0 rfl) ?_
  refine G_Events_from hc hw wd_212 (dq tk_Events_add 19 rfl) ?_
  refine lv_aload_n hx hb (dq tk_Events_add 20 rfl) rfl (lv_at hl 0 rfl) ?_
  refine G_Events_count hc hw wd_219 (dq tk_Events_add 21 rfl) ?_
  refine lv_iload hx hb (dq tk_Events_add 22 rfl) (lv_at hl 4 rfl) ?_
  obtain ⟨c4, hf⟩ := chk_some hf
  obtain ⟨σ4, hσ4, hf⟩ := nm_some hf
  refine AS_Events_from hc hw c4 hσ4 (dq tk_Events_add 23 rfl) (fun H locs hw => ?_)
  refine lv_aload_n hx hb (dq tk_Events_add 24 rfl) rfl (lv_at hl 0 rfl) ?_
  refine G_Events_told hc hw wd_215 (dq tk_Events_add 25 rfl) ?_
  refine lv_aload_n hx hb (dq tk_Events_add 26 rfl) rfl (lv_at hl 0 rfl) ?_
  refine G_Events_count hc hw wd_219 (dq tk_Events_add 27 rfl) ?_
  refine lv_iload hx hb (dq tk_Events_add 28 rfl) (lv_at hl 5 rfl) ?_
  obtain ⟨c5, hf⟩ := chk_some hf
  obtain ⟨σ5, hσ5, hf⟩ := nm_some hf
  refine AS_Events_told hc hw c5 hσ5 (dq tk_Events_add 29 rfl) (fun H locs hw => ?_)
  refine lv_aload_n hx hb (dq tk_Events_add 30 rfl) rfl (lv_at hl 0 rfl) ?_
  refine G_Events_takenBack hc hw wd_217 (dq tk_Events_add 31 rfl) ?_
  refine lv_aload_n hx hb (dq tk_Events_add 32 rfl) rfl (lv_at hl 0 rfl) ?_
  refine G_Events_count hc hw wd_219 (dq tk_Events_add 33 rfl) ?_
  refine lv_iconst (v := (-1)) hx hb (dq tk_Events_add 34 rfl) (by decide) ?_
  obtain ⟨c6, hf⟩ := chk_some hf
  obtain ⟨σ6, hσ6, hf⟩ := nm_some hf
  refine AS_Events_takenBack hc hw c6 hσ6 (dq tk_Events_add 35 rfl) (fun H locs hw => ?_)
  refine lv_aload_n hx hb (dq tk_Events_add 36 rfl) rfl (lv_at hl 0 rfl) ?_
  refine lv_dup hx hb (dq tk_Events_add 37 rfl) rfl ?_
  refine G_Events_count hc hw wd_219 (dq tk_Events_add 38 rfl) ?_
  refine lv_iconst (v := 1) hx hb (dq tk_Events_add 39 rfl) (by decide) ?_
  refine lv_iadd hx hb (dq tk_Events_add 40 rfl) ?_
  obtain ⟨σ7, hσ7, hf⟩ := nm_some hf
  refine P_Events_count hc hw wd_219 hσ7 (dq tk_Events_add 41 rfl) (fun H locs hw => ?_)
  refine lv_aload_n hx hb (dq tk_Events_add 42 rfl) rfl (lv_at hl 0 rfl) ?_
  refine G_Events_count hc hw wd_219 (dq tk_Events_add 43 rfl) ?_
  refine lv_iconst (v := 1) hx hb (dq tk_Events_add 44 rfl) (by decide) ?_
  refine lv_isub hx hb (dq tk_Events_add 45 rfl) ?_
  cases hf
  exact x_iret hc hw hr (dq tk_Events_add 46 rfl)
theorem c_Events_add {N : Nat}  {x1 : Int32} {x2 : Int32} {x3 : Int32} {x4 : Int32} {x5 : Int32} {rv : Int32} {σ' : St} {σ : St} (hf : fEvents_add N x1 x2 x3 x4 x5 σ = some (rv, σ')) : Ct l Z y_Events_add prog_5_method_4_code 6 (some .int) (rmo (0)) [.ref (Z.1 + 25), .int x1, .int x2, .int x3, .int x4, .int x5] (cmb σ μ) (some (.int rv)) True (cmb σ' μ) := by
  refine x_met (by decide) (Nat.le_of_ble_eq_true rfl) (fun p e s m args below meth c ls hc hr hw hl => ?_)
  exact w_Events_add hc hr RO.self hw hl hf
theorem K_Events_add {idx : Nat} {N : Nat}  {x1 : Int32} {x2 : Int32} {x3 : Int32} {x4 : Int32} {x5 : Int32} {rv : Int32} {σ' : St} {σ : St} (hc : Cxz p s m meth c args cc own nL Z) (hw : Wd Z (cmb σ μ) s H locs) (hl : Cond.methodLink own idx y_Events_add ∈ TB) (hf : fEvents_add N x1 x2 x3 x4 x5 σ = some (rv, σ')) (hR : RO R ((0) + 1)) (hcs : cells ≤ R.cells ∧ slots ≤ R.slots) (hls : ls.size = nL) (hst : (rest.map fun v => v.category).sum ≤ 8) (hdg : decode cc pc = .ok (.invokevirtual idx, 3)) (kk : ∀ (H1 : Heap) (locs1 : List Loc), Wd Z (cmb σ' μ) s H1 locs1 → True → W p l e R s m args below meth c H1 locs1 cells slots Q (F0 m (pc + 3) ls (.int rv :: rest))) : W p l e R s m args below meth c H locs cells slots Q (F0 m pc ls (.int x5 :: .int x4 :: .int x3 :: .int x2 :: .int x1 :: .ref (Z.1 + 25) :: rest)) :=
  x_iv hc hw (c_Events_add hf) yv_Events_add (Nat.le_of_ble_eq_true rfl) rfl rfl hl (RO.call hR (by decide)) hcs rfl hls hst hdg rfl kk
set_option maxRecDepth 10000 in
theorem w_Events_isKnown_30 {N : Nat} (hc : Cxz p s m meth c args prog_5_method_5_code "LabourExchange$Events" 3 Z) (hr : meth.sig.returnType = (some .boolean)) (hR : RO R 0) {rv : Int32} {σ : St} : ∀ {H : Heap} {locs : List Loc} {ls : Array Slot}, Wd Z (cmb σ μ) s H locs → lv_has ls 3 [] → fEvents_isKnown_30 N σ = some rv → W p l e R s m args below meth c H locs 0 0 (MQ below (Qr Z (some (.int rv)) True (cmb σ μ)) args s 0 0 (fun q => Z.1 ≤ q)) (F0 m 30 ls []) := by
  have hx := hc.hx
  have hb := hc.hb
  intro H locs ls hw hl hf
  unfold fEvents_isKnown_30 at hf
  refine lv_iconst (v := 1) hx hb (dq tk_Events_isKnown 18 rfl) (by decide) ?_
  refine lv_goto (tgt := 35) hx hb (dq tk_Events_isKnown 19 rfl) (by decide) ?_
  cases hf
  exact x_zret hc hw hr (by decide) (dq tk_Events_isKnown 21 rfl)
set_option maxRecDepth 10000 in
theorem w_Events_isKnown {N : Nat} (hc : Cxz p s m meth c args prog_5_method_5_code "LabourExchange$Events" 3 Z) (hr : meth.sig.returnType = (some .boolean)) (hR : RO R 0) {rv : Int32} {σ : St} : ∀ {x1 : Int32} {x2 : Int32} {H : Heap} {locs : List Loc} {ls : Array Slot}, Wd Z (cmb σ μ) s H locs → lv_has ls 3 [(0, .ref (Z.1 + 25)), (1, .int x1), (2, .int x2)] → fEvents_isKnown N x1 x2 σ = some rv → W p l e R s m args below meth c H locs 0 0 (MQ below (Qr Z (some (.int rv)) True (cmb σ μ)) args s 0 0 (fun q => Z.1 ≤ q)) (F0 m 0 ls []) := by
  have hx := hc.hx
  have hb := hc.hb
  intro x1 x2 H locs ls hw hl hf
  unfold fEvents_isKnown at hf
  refine lv_aload_n hx hb (dq tk_Events_isKnown 0 rfl) rfl (lv_at hl 0 rfl) ?_
  refine G_Events_told hc hw wd_215 (dq tk_Events_isKnown 1 rfl) ?_
  refine lv_iload_n hx hb (dq tk_Events_isKnown 2 rfl) rfl (lv_at hl 1 rfl) ?_
  obtain ⟨c1, hf⟩ := chk_some hf
  refine AL_Events_told hc hw c1 (dq tk_Events_isKnown 3 rfl) ?_
  refine lv_iload_n hx hb (dq tk_Events_isKnown 4 rfl) rfl (lv_at hl 2 rfl) ?_
  refine lv_icmp_gt (tgt := 34) hx hb (dq tk_Events_isKnown 5 rfl) (by decide) (fun c2 => ?_) (fun c2 => ?_)
  · replace hf := if_t hf c2
    refine lv_iconst (v := 0) hx hb (dq tk_Events_isKnown 20 rfl) (by decide) ?_
    cases hf
    exact x_zret hc hw hr (by decide) (dq tk_Events_isKnown 21 rfl)
  · replace hf := if_f hf c2
    refine lv_aload_n hx hb (dq tk_Events_isKnown 6 rfl) rfl (lv_at hl 0 rfl) ?_
    refine G_Events_takenBack hc hw wd_217 (dq tk_Events_isKnown 7 rfl) ?_
    refine lv_iload_n hx hb (dq tk_Events_isKnown 8 rfl) rfl (lv_at hl 1 rfl) ?_
    refine AL_Events_takenBack hc hw c1 (dq tk_Events_isKnown 9 rfl) ?_
    refine lv_iconst (v := (-1)) hx hb (dq tk_Events_isKnown 10 rfl) (by decide) ?_
    refine lv_icmp_eq (tgt := 30) hx hb (dq tk_Events_isKnown 11 rfl) (by decide) (fun c3 => ?_) (fun c3 => ?_)
    · replace hf := if_t hf c3
      exact w_Events_isKnown_30 hc hr hR hw (lv_sub hl [] rfl) hf
    · replace hf := if_f hf c3
      refine lv_aload_n hx hb (dq tk_Events_isKnown 12 rfl) rfl (lv_at hl 0 rfl) ?_
      refine G_Events_takenBack hc hw wd_217 (dq tk_Events_isKnown 13 rfl) ?_
      refine lv_iload_n hx hb (dq tk_Events_isKnown 14 rfl) rfl (lv_at hl 1 rfl) ?_
      refine AL_Events_takenBack hc hw c1 (dq tk_Events_isKnown 15 rfl) ?_
      refine lv_iload_n hx hb (dq tk_Events_isKnown 16 rfl) rfl (lv_at hl 2 rfl) ?_
      refine lv_icmp_le (tgt := 34) hx hb (dq tk_Events_isKnown 17 rfl) (by decide) (fun c4 => ?_) (fun c4 => ?_)
      · replace hf := if_t hf c4
        refine lv_iconst (v := 0) hx hb (dq tk_Events_isKnown 20 rfl) (by decide) ?_
        cases hf
        exact x_zret hc hw hr (by decide) (dq tk_Events_isKnown 21 rfl)
      · replace hf := if_f hf c4
        exact w_Events_isKnown_30 hc hr hR hw (lv_sub hl [] rfl) hf
theorem c_Events_isKnown {N : Nat}  {x1 : Int32} {x2 : Int32} {rv : Int32} {σ : St} (hf : fEvents_isKnown N x1 x2 σ = some rv) : Ct l Z y_Events_isKnown prog_5_method_5_code 3 (some .boolean) (rmo (0)) [.ref (Z.1 + 25), .int x1, .int x2] (cmb σ μ) (some (.int rv)) True (cmb σ μ) := by
  refine x_met (by decide) (Nat.le_of_ble_eq_true rfl) (fun p e s m args below meth c ls hc hr hw hl => ?_)
  exact w_Events_isKnown hc hr RO.self hw hl hf
theorem K_Events_isKnown {idx : Nat} {N : Nat}  {x1 : Int32} {x2 : Int32} {rv : Int32} {σ : St} (hc : Cxz p s m meth c args cc own nL Z) (hw : Wd Z (cmb σ μ) s H locs) (hl : Cond.methodLink own idx y_Events_isKnown ∈ TB) (hf : fEvents_isKnown N x1 x2 σ = some rv) (hR : RO R ((0) + 1)) (hcs : cells ≤ R.cells ∧ slots ≤ R.slots) (hls : ls.size = nL) (hst : (rest.map fun v => v.category).sum ≤ 8) (hdg : decode cc pc = .ok (.invokevirtual idx, 3)) (kk : ∀ (H1 : Heap) (locs1 : List Loc), Wd Z (cmb σ μ) s H1 locs1 → True → W p l e R s m args below meth c H1 locs1 cells slots Q (F0 m (pc + 3) ls (.int rv :: rest))) : W p l e R s m args below meth c H locs cells slots Q (F0 m pc ls (.int x2 :: .int x1 :: .ref (Z.1 + 25) :: rest)) :=
  x_iv hc hw (c_Events_isKnown hf) yv_Events_isKnown (Nat.le_of_ble_eq_true rfl) rfl rfl hl (RO.call hR (by decide)) hcs rfl hls hst hdg rfl kk
set_option maxRecDepth 10000 in
theorem w_Arrays_fill_Law_spanOf_5 {N : Nat} {k0_0 : Nat} (hc : Cxz p s m meth c args prog_29_method_109_code "java/util/Arrays" 4 Z) (hr : meth.sig.returnType = none) (hR : RO R 0) (hk0_0 : k0_0 < 2) {σ' : St} (n : Nat) : ∀ {x1 : Int32} {x2 : Int32} {x3 : Int32} {σ : St} {H : Heap} {locs : List Loc} {ls : Array Slot}, Wd Z (cmb σ μ) s H locs → lv_has ls 4 [(0, .ref (Z.1 + (198 + 187 * k0_0))), (1, .int x1), (2, .int x2), (3, .int x3)] → fArrays_fill_Law_spanOf_5 N k0_0 n x1 x2 x3 σ = some σ' → W p l e R s m args below meth c H locs 0 0 (MQ below (Qr Z none True (cmb σ' μ)) args s 0 0 (fun q => Z.1 ≤ q)) (F0 m 5 ls []) := by
  have hx := hc.hx
  have hb := hc.hb
  induction n with
  | zero =>
    intro x1 x2 x3 σ H locs ls hw hl hf
    have hf : none = some _ := hf
    cases hf
  | succ n ih =>
    intro x1 x2 x3 σ H locs ls hw hl hf
    unfold fArrays_fill_Law_spanOf_5 at hf
    refine lv_iload_n hx hb (dq tk_Arrays_fill_B 5 rfl) rfl (lv_at hl 2 rfl) ?_
    refine lv_iload_n hx hb (dq tk_Arrays_fill_B 6 rfl) rfl (lv_at hl 3 rfl) ?_
    refine lv_icmp_ge (tgt := 20) hx hb (dq tk_Arrays_fill_B 7 rfl) (by decide) (fun c1 => ?_) (fun c1 => ?_)
    · replace hf := if_t hf c1
      cases hf
      exact x_vret hc hw hr (dq tk_Arrays_fill_B 14 rfl)
    · replace hf := if_f hf c1
      refine lv_aload_n hx hb (dq tk_Arrays_fill_B 8 rfl) rfl (lv_at hl 0 rfl) ?_
      refine lv_iload_n hx hb (dq tk_Arrays_fill_B 9 rfl) rfl (lv_at hl 2 rfl) ?_
      refine lv_iload_n hx hb (dq tk_Arrays_fill_B 10 rfl) rfl (lv_at hl 1 rfl) ?_
      obtain ⟨c2, hf⟩ := chk_some hf
      obtain ⟨σ1, hσ1, hf⟩ := nm_some hf
      refine AS_Law_spanOf hk0_0 hc hw c2 hσ1 (dq tk_Arrays_fill_B 11 rfl) (fun H locs hw => ?_)
      refine lv_iinc (v := (x2 + 1)) (lv' := [(2, .int (x2 + 1)), (0, .ref (Z.1 + (198 + 187 * k0_0))), (1, .int x1), (3, .int x3)]) hx hb (dq tk_Arrays_fill_B 12 rfl) hl (k := 2) rfl rfl (by decide) rfl (fun ls hl => ?_)
      refine lv_goto (tgt := 5) hx hb (dq tk_Arrays_fill_B 13 rfl) (by decide) ?_
      exact ih hw (lv_sub hl [1, 2, 0, 3] rfl) hf
set_option maxRecDepth 10000 in
theorem w_Arrays_fill_Law_spanOf {N : Nat} {k0_0 : Nat} (hc : Cxz p s m meth c args prog_29_method_109_code "java/util/Arrays" 4 Z) (hr : meth.sig.returnType = none) (hR : RO R 0) (hk0_0 : k0_0 < 2) {σ' : St} : ∀ {x1 : Int32} {σ : St} {H : Heap} {locs : List Loc} {ls : Array Slot}, Wd Z (cmb σ μ) s H locs → lv_has ls 4 [(0, .ref (Z.1 + (198 + 187 * k0_0))), (1, .int x1)] → fArrays_fill_Law_spanOf N k0_0 x1 σ = some σ' → W p l e R s m args below meth c H locs 0 0 (MQ below (Qr Z none True (cmb σ' μ)) args s 0 0 (fun q => Z.1 ≤ q)) (F0 m 0 ls []) := by
  have hx := hc.hx
  have hb := hc.hb
  intro x1 σ H locs ls hw hl hf
  unfold fArrays_fill_Law_spanOf at hf
  refine lv_iconst (v := 0) hx hb (dq tk_Arrays_fill_B 0 rfl) (by decide) ?_
  refine lv_istore_n (lv' := [(2, .int 0), (0, .ref (Z.1 + (198 + 187 * k0_0))), (1, .int x1)]) hx hb (dq tk_Arrays_fill_B 1 rfl) rfl hl (by decide) rfl (fun ls hl => ?_)
  refine lv_aload_n hx hb (dq tk_Arrays_fill_B 2 rfl) rfl (lv_at hl 1 rfl) ?_
  refine LN_Law_spanOf hk0_0 hc hw (dq tk_Arrays_fill_B 3 rfl) ?_
  refine lv_istore_n (lv' := [(3, .int 936), (2, .int 0), (0, .ref (Z.1 + (198 + 187 * k0_0))), (1, .int x1)]) hx hb (dq tk_Arrays_fill_B 4 rfl) rfl hl (by decide) rfl (fun ls hl => ?_)
  exact w_Arrays_fill_Law_spanOf_5 hc hr hR hk0_0 N hw (lv_sub hl [2, 3, 1, 0] rfl) hf
theorem c_Arrays_fill_Law_spanOf {N : Nat} {k0_0 : Nat}  {x1 : Int32} {σ' : St} {σ : St} (hk0_0 : k0_0 < 2) (hf : fArrays_fill_Law_spanOf N k0_0 x1 σ = some σ') : Ct l Z y_Arrays_fill_B prog_29_method_109_code 4 none (rmo (0)) [.ref (Z.1 + (198 + 187 * k0_0)), .int x1] (cmb σ μ) none True (cmb σ' μ) := by
  refine x_met (by decide) (Nat.le_of_ble_eq_true rfl) (fun p e s m args below meth c ls hc hr hw hl => ?_)
  exact w_Arrays_fill_Law_spanOf hc hr RO.self hk0_0 hw hl hf
theorem K_Arrays_fill_Law_spanOf {idx : Nat} {N : Nat} {k0_0 : Nat}  {x1 : Int32} {σ' : St} {σ : St} (hc : Cxz p s m meth c args cc own nL Z) (hw : Wd Z (cmb σ μ) s H locs) (hk0_0 : k0_0 < 2) (hl : Cond.methodLink own idx y_Arrays_fill_B ∈ TB) (hf : fArrays_fill_Law_spanOf N k0_0 x1 σ = some σ') (hR : RO R ((0) + 1)) (hcs : cells ≤ R.cells ∧ slots ≤ R.slots) (hls : ls.size = nL) (hst : (rest.map fun v => v.category).sum ≤ 8) (hdg : decode cc pc = .ok (.invokestatic idx, 3)) (kk : ∀ (H1 : Heap) (locs1 : List Loc), Wd Z (cmb σ' μ) s H1 locs1 → True → W p l e R s m args below meth c H1 locs1 cells slots Q (F0 m (pc + 3) ls rest)) : W p l e R s m args below meth c H locs cells slots Q (F0 m pc ls (.int x1 :: .ref (Z.1 + (198 + 187 * k0_0)) :: rest)) :=
  x_is hc hw (c_Arrays_fill_Law_spanOf hk0_0 hf) ys_Arrays_fill_B hl (RO.call hR (by decide)) hcs rfl hls hst hdg rfl kk
set_option maxRecDepth 10000 in
theorem w_Arrays_fill_Life_totals_5 {N : Nat} {k0_0 k0_1 : Nat} (hc : Cxz p s m meth c args prog_29_method_103_code "java/util/Arrays" 4 Z) (hr : meth.sig.returnType = none) (hR : RO R 0) (hk0_0 : k0_0 < 2) (hk0_1 : k0_1 < 20) {σ' : St} (n : Nat) : ∀ {x1 : Int32} {x2 : Int32} {x3 : Int32} {σ : St} {H : Heap} {locs : List Loc} {ls : Array Slot}, Wd Z (cmb σ μ) s H locs → lv_has ls 4 [(0, .ref (Z.1 + (283 + 187 * k0_0 + 5 * k0_1))), (1, .int x1), (2, .int x2), (3, .int x3)] → fArrays_fill_Life_totals_5 N k0_0 k0_1 n x1 x2 x3 σ = some σ' → W p l e R s m args below meth c H locs 0 0 (MQ below (Qr Z none True (cmb σ' μ)) args s 0 0 (fun q => Z.1 ≤ q)) (F0 m 5 ls []) := by
  have hx := hc.hx
  have hb := hc.hb
  induction n with
  | zero =>
    intro x1 x2 x3 σ H locs ls hw hl hf
    have hf : none = some _ := hf
    cases hf
  | succ n ih =>
    intro x1 x2 x3 σ H locs ls hw hl hf
    unfold fArrays_fill_Life_totals_5 at hf
    refine lv_iload_n hx hb (dq tk_Arrays_fill_I 5 rfl) rfl (lv_at hl 2 rfl) ?_
    refine lv_iload_n hx hb (dq tk_Arrays_fill_I 6 rfl) rfl (lv_at hl 3 rfl) ?_
    refine lv_icmp_ge (tgt := 20) hx hb (dq tk_Arrays_fill_I 7 rfl) (by decide) (fun c1 => ?_) (fun c1 => ?_)
    · replace hf := if_t hf c1
      cases hf
      exact x_vret hc hw hr (dq tk_Arrays_fill_I 14 rfl)
    · replace hf := if_f hf c1
      refine lv_aload_n hx hb (dq tk_Arrays_fill_I 8 rfl) rfl (lv_at hl 0 rfl) ?_
      refine lv_iload_n hx hb (dq tk_Arrays_fill_I 9 rfl) rfl (lv_at hl 2 rfl) ?_
      refine lv_iload_n hx hb (dq tk_Arrays_fill_I 10 rfl) rfl (lv_at hl 1 rfl) ?_
      obtain ⟨c2, hf⟩ := chk_some hf
      obtain ⟨σ1, hσ1, hf⟩ := nm_some hf
      refine AS_Life_totals hk0_0 hk0_1 hc hw c2 hσ1 (dq tk_Arrays_fill_I 11 rfl) (fun H locs hw => ?_)
      refine lv_iinc (v := (x2 + 1)) (lv' := [(2, .int (x2 + 1)), (0, .ref (Z.1 + (283 + 187 * k0_0 + 5 * k0_1))), (1, .int x1), (3, .int x3)]) hx hb (dq tk_Arrays_fill_I 12 rfl) hl (k := 2) rfl rfl (by decide) rfl (fun ls hl => ?_)
      refine lv_goto (tgt := 5) hx hb (dq tk_Arrays_fill_I 13 rfl) (by decide) ?_
      exact ih hw (lv_sub hl [1, 2, 0, 3] rfl) hf
set_option maxRecDepth 10000 in
theorem w_Arrays_fill_Life_totals {N : Nat} {k0_0 k0_1 : Nat} (hc : Cxz p s m meth c args prog_29_method_103_code "java/util/Arrays" 4 Z) (hr : meth.sig.returnType = none) (hR : RO R 0) (hk0_0 : k0_0 < 2) (hk0_1 : k0_1 < 20) {σ' : St} : ∀ {x1 : Int32} {σ : St} {H : Heap} {locs : List Loc} {ls : Array Slot}, Wd Z (cmb σ μ) s H locs → lv_has ls 4 [(0, .ref (Z.1 + (283 + 187 * k0_0 + 5 * k0_1))), (1, .int x1)] → fArrays_fill_Life_totals N k0_0 k0_1 x1 σ = some σ' → W p l e R s m args below meth c H locs 0 0 (MQ below (Qr Z none True (cmb σ' μ)) args s 0 0 (fun q => Z.1 ≤ q)) (F0 m 0 ls []) := by
  have hx := hc.hx
  have hb := hc.hb
  intro x1 σ H locs ls hw hl hf
  unfold fArrays_fill_Life_totals at hf
  refine lv_iconst (v := 0) hx hb (dq tk_Arrays_fill_I 0 rfl) (by decide) ?_
  refine lv_istore_n (lv' := [(2, .int 0), (0, .ref (Z.1 + (283 + 187 * k0_0 + 5 * k0_1))), (1, .int x1)]) hx hb (dq tk_Arrays_fill_I 1 rfl) rfl hl (by decide) rfl (fun ls hl => ?_)
  refine lv_aload_n hx hb (dq tk_Arrays_fill_I 2 rfl) rfl (lv_at hl 1 rfl) ?_
  refine LN_Life_totals hk0_0 hk0_1 hc hw (dq tk_Arrays_fill_I 3 rfl) ?_
  refine lv_istore_n (lv' := [(3, .int 3), (2, .int 0), (0, .ref (Z.1 + (283 + 187 * k0_0 + 5 * k0_1))), (1, .int x1)]) hx hb (dq tk_Arrays_fill_I 4 rfl) rfl hl (by decide) rfl (fun ls hl => ?_)
  exact w_Arrays_fill_Life_totals_5 hc hr hR hk0_0 hk0_1 N hw (lv_sub hl [2, 3, 1, 0] rfl) hf
theorem c_Arrays_fill_Life_totals {N : Nat} {k0_0 k0_1 : Nat}  {x1 : Int32} {σ' : St} {σ : St} (hk0_0 : k0_0 < 2) (hk0_1 : k0_1 < 20) (hf : fArrays_fill_Life_totals N k0_0 k0_1 x1 σ = some σ') : Ct l Z y_Arrays_fill_I prog_29_method_103_code 4 none (rmo (0)) [.ref (Z.1 + (283 + 187 * k0_0 + 5 * k0_1)), .int x1] (cmb σ μ) none True (cmb σ' μ) := by
  refine x_met (by decide) (Nat.le_of_ble_eq_true rfl) (fun p e s m args below meth c ls hc hr hw hl => ?_)
  exact w_Arrays_fill_Life_totals hc hr RO.self hk0_0 hk0_1 hw hl hf
theorem K_Arrays_fill_Life_totals {idx : Nat} {N : Nat} {k0_0 k0_1 : Nat}  {x1 : Int32} {σ' : St} {σ : St} (hc : Cxz p s m meth c args cc own nL Z) (hw : Wd Z (cmb σ μ) s H locs) (hk0_0 : k0_0 < 2) (hk0_1 : k0_1 < 20) (hl : Cond.methodLink own idx y_Arrays_fill_I ∈ TB) (hf : fArrays_fill_Life_totals N k0_0 k0_1 x1 σ = some σ') (hR : RO R ((0) + 1)) (hcs : cells ≤ R.cells ∧ slots ≤ R.slots) (hls : ls.size = nL) (hst : (rest.map fun v => v.category).sum ≤ 8) (hdg : decode cc pc = .ok (.invokestatic idx, 3)) (kk : ∀ (H1 : Heap) (locs1 : List Loc), Wd Z (cmb σ' μ) s H1 locs1 → True → W p l e R s m args below meth c H1 locs1 cells slots Q (F0 m (pc + 3) ls rest)) : W p l e R s m args below meth c H locs cells slots Q (F0 m pc ls (.int x1 :: .ref (Z.1 + (283 + 187 * k0_0 + 5 * k0_1)) :: rest)) :=
  x_is hc hw (c_Arrays_fill_Life_totals hk0_0 hk0_1 hf) ys_Arrays_fill_I hl (RO.call hR (by decide)) hcs rfl hls hst hdg rfl kk
set_option maxRecDepth 10000 in
theorem w_Arrays_fill_Life_stamps_5 {N : Nat} {k0_0 k0_1 : Nat} (hc : Cxz p s m meth c args prog_29_method_109_code "java/util/Arrays" 4 Z) (hr : meth.sig.returnType = none) (hR : RO R 0) (hk0_0 : k0_0 < 2) (hk0_1 : k0_1 < 20) {σ' : St} (n : Nat) : ∀ {x1 : Int32} {x2 : Int32} {x3 : Int32} {σ : St} {H : Heap} {locs : List Loc} {ls : Array Slot}, Wd Z (cmb σ μ) s H locs → lv_has ls 4 [(0, .ref (Z.1 + (282 + 187 * k0_0 + 5 * k0_1))), (1, .int x1), (2, .int x2), (3, .int x3)] → fArrays_fill_Life_stamps_5 N k0_0 k0_1 n x1 x2 x3 σ = some σ' → W p l e R s m args below meth c H locs 0 0 (MQ below (Qr Z none True (cmb σ' μ)) args s 0 0 (fun q => Z.1 ≤ q)) (F0 m 5 ls []) := by
  have hx := hc.hx
  have hb := hc.hb
  induction n with
  | zero =>
    intro x1 x2 x3 σ H locs ls hw hl hf
    have hf : none = some _ := hf
    cases hf
  | succ n ih =>
    intro x1 x2 x3 σ H locs ls hw hl hf
    unfold fArrays_fill_Life_stamps_5 at hf
    refine lv_iload_n hx hb (dq tk_Arrays_fill_B 5 rfl) rfl (lv_at hl 2 rfl) ?_
    refine lv_iload_n hx hb (dq tk_Arrays_fill_B 6 rfl) rfl (lv_at hl 3 rfl) ?_
    refine lv_icmp_ge (tgt := 20) hx hb (dq tk_Arrays_fill_B 7 rfl) (by decide) (fun c1 => ?_) (fun c1 => ?_)
    · replace hf := if_t hf c1
      cases hf
      exact x_vret hc hw hr (dq tk_Arrays_fill_B 14 rfl)
    · replace hf := if_f hf c1
      refine lv_aload_n hx hb (dq tk_Arrays_fill_B 8 rfl) rfl (lv_at hl 0 rfl) ?_
      refine lv_iload_n hx hb (dq tk_Arrays_fill_B 9 rfl) rfl (lv_at hl 2 rfl) ?_
      refine lv_iload_n hx hb (dq tk_Arrays_fill_B 10 rfl) rfl (lv_at hl 1 rfl) ?_
      obtain ⟨c2, hf⟩ := chk_some hf
      obtain ⟨σ1, hσ1, hf⟩ := nm_some hf
      refine AS_Life_stamps hk0_0 hk0_1 hc hw c2 hσ1 (dq tk_Arrays_fill_B 11 rfl) (fun H locs hw => ?_)
      refine lv_iinc (v := (x2 + 1)) (lv' := [(2, .int (x2 + 1)), (0, .ref (Z.1 + (282 + 187 * k0_0 + 5 * k0_1))), (1, .int x1), (3, .int x3)]) hx hb (dq tk_Arrays_fill_B 12 rfl) hl (k := 2) rfl rfl (by decide) rfl (fun ls hl => ?_)
      refine lv_goto (tgt := 5) hx hb (dq tk_Arrays_fill_B 13 rfl) (by decide) ?_
      exact ih hw (lv_sub hl [1, 2, 0, 3] rfl) hf
set_option maxRecDepth 10000 in
theorem w_Arrays_fill_Life_stamps {N : Nat} {k0_0 k0_1 : Nat} (hc : Cxz p s m meth c args prog_29_method_109_code "java/util/Arrays" 4 Z) (hr : meth.sig.returnType = none) (hR : RO R 0) (hk0_0 : k0_0 < 2) (hk0_1 : k0_1 < 20) {σ' : St} : ∀ {x1 : Int32} {σ : St} {H : Heap} {locs : List Loc} {ls : Array Slot}, Wd Z (cmb σ μ) s H locs → lv_has ls 4 [(0, .ref (Z.1 + (282 + 187 * k0_0 + 5 * k0_1))), (1, .int x1)] → fArrays_fill_Life_stamps N k0_0 k0_1 x1 σ = some σ' → W p l e R s m args below meth c H locs 0 0 (MQ below (Qr Z none True (cmb σ' μ)) args s 0 0 (fun q => Z.1 ≤ q)) (F0 m 0 ls []) := by
  have hx := hc.hx
  have hb := hc.hb
  intro x1 σ H locs ls hw hl hf
  unfold fArrays_fill_Life_stamps at hf
  refine lv_iconst (v := 0) hx hb (dq tk_Arrays_fill_B 0 rfl) (by decide) ?_
  refine lv_istore_n (lv' := [(2, .int 0), (0, .ref (Z.1 + (282 + 187 * k0_0 + 5 * k0_1))), (1, .int x1)]) hx hb (dq tk_Arrays_fill_B 1 rfl) rfl hl (by decide) rfl (fun ls hl => ?_)
  refine lv_aload_n hx hb (dq tk_Arrays_fill_B 2 rfl) rfl (lv_at hl 1 rfl) ?_
  refine LN_Life_stamps hk0_0 hk0_1 hc hw (dq tk_Arrays_fill_B 3 rfl) ?_
  refine lv_istore_n (lv' := [(3, .int 156), (2, .int 0), (0, .ref (Z.1 + (282 + 187 * k0_0 + 5 * k0_1))), (1, .int x1)]) hx hb (dq tk_Arrays_fill_B 4 rfl) rfl hl (by decide) rfl (fun ls hl => ?_)
  exact w_Arrays_fill_Life_stamps_5 hc hr hR hk0_0 hk0_1 N hw (lv_sub hl [2, 3, 1, 0] rfl) hf
theorem c_Arrays_fill_Life_stamps {N : Nat} {k0_0 k0_1 : Nat}  {x1 : Int32} {σ' : St} {σ : St} (hk0_0 : k0_0 < 2) (hk0_1 : k0_1 < 20) (hf : fArrays_fill_Life_stamps N k0_0 k0_1 x1 σ = some σ') : Ct l Z y_Arrays_fill_B prog_29_method_109_code 4 none (rmo (0)) [.ref (Z.1 + (282 + 187 * k0_0 + 5 * k0_1)), .int x1] (cmb σ μ) none True (cmb σ' μ) := by
  refine x_met (by decide) (Nat.le_of_ble_eq_true rfl) (fun p e s m args below meth c ls hc hr hw hl => ?_)
  exact w_Arrays_fill_Life_stamps hc hr RO.self hk0_0 hk0_1 hw hl hf
theorem K_Arrays_fill_Life_stamps {idx : Nat} {N : Nat} {k0_0 k0_1 : Nat}  {x1 : Int32} {σ' : St} {σ : St} (hc : Cxz p s m meth c args cc own nL Z) (hw : Wd Z (cmb σ μ) s H locs) (hk0_0 : k0_0 < 2) (hk0_1 : k0_1 < 20) (hl : Cond.methodLink own idx y_Arrays_fill_B ∈ TB) (hf : fArrays_fill_Life_stamps N k0_0 k0_1 x1 σ = some σ') (hR : RO R ((0) + 1)) (hcs : cells ≤ R.cells ∧ slots ≤ R.slots) (hls : ls.size = nL) (hst : (rest.map fun v => v.category).sum ≤ 8) (hdg : decode cc pc = .ok (.invokestatic idx, 3)) (kk : ∀ (H1 : Heap) (locs1 : List Loc), Wd Z (cmb σ' μ) s H1 locs1 → True → W p l e R s m args below meth c H1 locs1 cells slots Q (F0 m (pc + 3) ls rest)) : W p l e R s m args below meth c H locs cells slots Q (F0 m pc ls (.int x1 :: .ref (Z.1 + (282 + 187 * k0_0 + 5 * k0_1)) :: rest)) :=
  x_is hc hw (c_Arrays_fill_Life_stamps hk0_0 hk0_1 hf) ys_Arrays_fill_B hl (RO.call hR (by decide)) hcs rfl hls hst hdg rfl kk
set_option maxRecDepth 10000 in
theorem w_Books_copyStamps_103 {N : Nat} {k3_0 k3_1 : Nat} (hc : Cxz p s m meth c args prog_3_method_6_code "LabourExchange$Books" 8 Z) (hr : meth.sig.returnType = none) (hR : RO R 1) (hk3_0 : k3_0 < 2) (hk3_1 : k3_1 < 20) {σ' : St} {go65 : Int32 → Int32 → Int32 → St → Option St} (hgo65 : ∀ {x1 : Int32} {x2 : Int32} {x4 : Int32} {σ : St} {H : Heap} {locs : List Loc} {ls : Array Slot}, Wd Z (cmb σ μ) s H locs → lv_has ls 8 [(0, .ref (Z.1 + 15)), (1, .int x1), (2, .int x2), (3, .ref (Z.1 + (282 + 187 * k3_0 + 5 * k3_1))), (4, .int x4)] → go65 x1 x2 x4 σ = some σ' → W p l e R s m args below meth c H locs 0 0 (MQ below (Qr Z none True (cmb σ' μ)) args s 0 0 (fun q => Z.1 ≤ q)) (F0 m 65 ls [])) (n : Nat) : ∀ {x1 : Int32} {x2 : Int32} {x4 : Int32} {x5 : Int32} {x6 : Int32} {x7 : Int32} {σ : St} {H : Heap} {locs : List Loc} {ls : Array Slot}, Wd Z (cmb σ μ) s H locs → lv_has ls 8 [(0, .ref (Z.1 + 15)), (1, .int x1), (2, .int x2), (3, .ref (Z.1 + (282 + 187 * k3_0 + 5 * k3_1))), (4, .int x4), (5, .int x5), (6, .int x6), (7, .int x7)] → fBooks_copyStamps_103 N k3_0 k3_1 go65 n x1 x2 x4 x5 x6 x7 σ = some σ' → W p l e R s m args below meth c H locs 0 0 (MQ below (Qr Z none True (cmb σ' μ)) args s 0 0 (fun q => Z.1 ≤ q)) (F0 m 103 ls []) := by
  have hx := hc.hx
  have hb := hc.hb
  induction n with
  | zero =>
    intro x1 x2 x4 x5 x6 x7 σ H locs ls hw hl hf
    have hf : none = some _ := hf
    cases hf
  | succ n ih =>
    intro x1 x2 x4 x5 x6 x7 σ H locs ls hw hl hf
    unfold fBooks_copyStamps_103 at hf
    refine lv_iload hx hb (dq tk_Books_copyStamps 57 rfl) (lv_at hl 7 rfl) ?_
    refine lv_iload hx hb (dq tk_Books_copyStamps 58 rfl) (lv_at hl 6 rfl) ?_
    refine lv_icmp_ge (tgt := 139) hx hb (dq tk_Books_copyStamps 59 rfl) (by decide) (fun c1 => ?_) (fun c1 => ?_)
    · replace hf := if_t hf c1
      refine lv_iinc (v := (x4 + 1)) (lv' := [(4, .int (x4 + 1)), (0, .ref (Z.1 + 15)), (1, .int x1), (2, .int x2), (3, .ref (Z.1 + (282 + 187 * k3_0 + 5 * k3_1))), (5, .int x5), (6, .int x6), (7, .int x7)]) hx hb (dq tk_Books_copyStamps 77 rfl) hl (k := 4) rfl rfl (by decide) rfl (fun ls hl => ?_)
      refine lv_goto (tgt := 65) hx hb (dq tk_Books_copyStamps 78 rfl) (by decide) ?_
      exact hgo65 hw (lv_sub hl [1, 2, 3, 4, 0] rfl) hf
    · replace hf := if_f hf c1
      refine lv_aload_n hx hb (dq tk_Books_copyStamps 60 rfl) rfl (lv_at hl 3 rfl) ?_
      refine lv_iload hx hb (dq tk_Books_copyStamps 61 rfl) (lv_at hl 4 rfl) ?_
      refine lv_bipush (v := 52) hx hb (dq tk_Books_copyStamps 62 rfl) (by decide) ?_
      refine lv_imul hx hb (dq tk_Books_copyStamps 63 rfl) ?_
      refine lv_iload hx hb (dq tk_Books_copyStamps 64 rfl) (lv_at hl 7 rfl) ?_
      refine lv_iadd hx hb (dq tk_Books_copyStamps 65 rfl) ?_
      refine lv_aload_n hx hb (dq tk_Books_copyStamps 66 rfl) rfl (lv_at hl 0 rfl) ?_
      refine G_Books_rows hc hw wd_161 (dq tk_Books_copyStamps 67 rfl) ?_
      refine lv_iload hx hb (dq tk_Books_copyStamps 68 rfl) (lv_at hl 5 rfl) ?_
      refine lv_bipush (v := 52) hx hb (dq tk_Books_copyStamps 69 rfl) (by decide) ?_
      refine lv_imul hx hb (dq tk_Books_copyStamps 70 rfl) ?_
      refine lv_iload hx hb (dq tk_Books_copyStamps 71 rfl) (lv_at hl 7 rfl) ?_
      refine lv_iadd hx hb (dq tk_Books_copyStamps 72 rfl) ?_
      obtain ⟨c2, hf⟩ := chk_some hf
      refine AL_Books_rows hc hw c2 (dq tk_Books_copyStamps 73 rfl) ?_
      obtain ⟨c3, hf⟩ := chk_some hf
      obtain ⟨σ1, hσ1, hf⟩ := nm_some hf
      refine AS_Life_stamps hk3_0 hk3_1 hc hw c3 hσ1 (dq tk_Books_copyStamps 74 rfl) (fun H locs hw => ?_)
      refine lv_iinc (v := (x7 + 1)) (lv' := [(7, .int (x7 + 1)), (0, .ref (Z.1 + 15)), (1, .int x1), (2, .int x2), (3, .ref (Z.1 + (282 + 187 * k3_0 + 5 * k3_1))), (4, .int x4), (5, .int x5), (6, .int x6)]) hx hb (dq tk_Books_copyStamps 75 rfl) hl (k := 7) rfl rfl (by decide) rfl (fun ls hl => ?_)
      refine lv_goto (tgt := 103) hx hb (dq tk_Books_copyStamps 76 rfl) (by decide) ?_
      exact ih hw (lv_sub hl [1, 2, 3, 4, 5, 6, 7, 0] rfl) hf
set_option maxRecDepth 10000 in
theorem w_Books_copyStamps_98 {N : Nat} {k3_0 k3_1 : Nat} (hc : Cxz p s m meth c args prog_3_method_6_code "LabourExchange$Books" 8 Z) (hr : meth.sig.returnType = none) (hR : RO R 1) (hk3_0 : k3_0 < 2) (hk3_1 : k3_1 < 20) {σ' : St} {go65 : Int32 → Int32 → Int32 → St → Option St} (hgo65 : ∀ {x1 : Int32} {x2 : Int32} {x4 : Int32} {σ : St} {H : Heap} {locs : List Loc} {ls : Array Slot}, Wd Z (cmb σ μ) s H locs → lv_has ls 8 [(0, .ref (Z.1 + 15)), (1, .int x1), (2, .int x2), (3, .ref (Z.1 + (282 + 187 * k3_0 + 5 * k3_1))), (4, .int x4)] → go65 x1 x2 x4 σ = some σ' → W p l e R s m args below meth c H locs 0 0 (MQ below (Qr Z none True (cmb σ' μ)) args s 0 0 (fun q => Z.1 ≤ q)) (F0 m 65 ls [])) : ∀ {x1 : Int32} {x2 : Int32} {x4 : Int32} {x5 : Int32} {s0 : Int32} {σ : St} {H : Heap} {locs : List Loc} {ls : Array Slot}, Wd Z (cmb σ μ) s H locs → lv_has ls 8 [(0, .ref (Z.1 + 15)), (1, .int x1), (2, .int x2), (3, .ref (Z.1 + (282 + 187 * k3_0 + 5 * k3_1))), (4, .int x4), (5, .int x5)] → fBooks_copyStamps_98 N k3_0 k3_1 go65 x1 x2 x4 x5 s0 σ = some σ' → W p l e R s m args below meth c H locs 0 0 (MQ below (Qr Z none True (cmb σ' μ)) args s 0 0 (fun q => Z.1 ≤ q)) (F0 m 98 ls [.int s0]) := by
  have hx := hc.hx
  have hb := hc.hb
  intro x1 x2 x4 x5 s0 σ H locs ls hw hl hf
  unfold fBooks_copyStamps_98 at hf
  refine lv_istore (lv' := [(6, .int s0), (0, .ref (Z.1 + 15)), (1, .int x1), (2, .int x2), (3, .ref (Z.1 + (282 + 187 * k3_0 + 5 * k3_1))), (4, .int x4), (5, .int x5)]) hx hb (dq tk_Books_copyStamps 54 rfl) hl (by decide) rfl (fun ls hl => ?_)
  refine lv_iconst (v := 0) hx hb (dq tk_Books_copyStamps 55 rfl) (by decide) ?_
  refine lv_istore (lv' := [(7, .int 0), (6, .int s0), (0, .ref (Z.1 + 15)), (1, .int x1), (2, .int x2), (3, .ref (Z.1 + (282 + 187 * k3_0 + 5 * k3_1))), (4, .int x4), (5, .int x5)]) hx hb (dq tk_Books_copyStamps 56 rfl) hl (by decide) rfl (fun ls hl => ?_)
  exact w_Books_copyStamps_103 hc hr hR hk3_0 hk3_1 hgo65 N hw (lv_sub hl [2, 3, 4, 5, 6, 7, 1, 0] rfl) hf
set_option maxRecDepth 10000 in
theorem w_Books_copyStamps_65 {N : Nat} {k3_0 k3_1 : Nat} (hc : Cxz p s m meth c args prog_3_method_6_code "LabourExchange$Books" 8 Z) (hr : meth.sig.returnType = none) (hR : RO R 1) (hk3_0 : k3_0 < 2) (hk3_1 : k3_1 < 20) {σ' : St} (n : Nat) : ∀ {x1 : Int32} {x2 : Int32} {x4 : Int32} {σ : St} {H : Heap} {locs : List Loc} {ls : Array Slot}, Wd Z (cmb σ μ) s H locs → lv_has ls 8 [(0, .ref (Z.1 + 15)), (1, .int x1), (2, .int x2), (3, .ref (Z.1 + (282 + 187 * k3_0 + 5 * k3_1))), (4, .int x4)] → fBooks_copyStamps_65 N k3_0 k3_1 n x1 x2 x4 σ = some σ' → W p l e R s m args below meth c H locs 0 0 (MQ below (Qr Z none True (cmb σ' μ)) args s 0 0 (fun q => Z.1 ≤ q)) (F0 m 65 ls []) := by
  have hx := hc.hx
  have hb := hc.hb
  induction n with
  | zero =>
    intro x1 x2 x4 σ H locs ls hw hl hf
    have hf : none = some _ := hf
    cases hf
  | succ n ih =>
    intro x1 x2 x4 σ H locs ls hw hl hf
    unfold fBooks_copyStamps_65 at hf
    refine lv_iload hx hb (dq tk_Books_copyStamps 36 rfl) (lv_at hl 4 rfl) ?_
    refine lv_iconst (v := 3) hx hb (dq tk_Books_copyStamps 37 rfl) (by decide) ?_
    refine lv_icmp_ge (tgt := 145) hx hb (dq tk_Books_copyStamps 38 rfl) (by decide) (fun c1 => ?_) (fun c1 => ?_)
    · replace hf := if_t hf c1
      cases hf
      exact x_vret hc hw hr (dq tk_Books_copyStamps 79 rfl)
    · replace hf := if_f hf c1
      refine lv_aload_n hx hb (dq tk_Books_copyStamps 39 rfl) rfl (lv_at hl 0 rfl) ?_
      refine lv_iload_n hx hb (dq tk_Books_copyStamps 40 rfl) rfl (lv_at hl 1 rfl) ?_
      refine lv_iload hx hb (dq tk_Books_copyStamps 41 rfl) (lv_at hl 4 rfl) ?_
      refine lv_iload_n hx hb (dq tk_Books_copyStamps 42 rfl) rfl (lv_at hl 2 rfl) ?_
      obtain ⟨r1, h43, hf⟩ := bn1_someZ hf
      refine K_Books_latestRow hc hw wd_793 h43 (hR.mono (by decide)) ⟨Nat.zero_le _, Nat.zero_le _⟩ hl.1 (Nat.le_of_ble_eq_true rfl) (dq tk_Books_copyStamps 43 rfl) (fun H locs hw _ => ?_)
      refine lv_istore (lv' := [(5, .int r1), (0, .ref (Z.1 + 15)), (1, .int x1), (2, .int x2), (3, .ref (Z.1 + (282 + 187 * k3_0 + 5 * k3_1))), (4, .int x4)]) hx hb (dq tk_Books_copyStamps 44 rfl) hl (by decide) rfl (fun ls hl => ?_)
      refine lv_iload hx hb (dq tk_Books_copyStamps 45 rfl) (lv_at hl 0 rfl) ?_
      refine lv_iconst (v := (-1)) hx hb (dq tk_Books_copyStamps 46 rfl) (by decide) ?_
      refine lv_icmp_ne (tgt := 91) hx hb (dq tk_Books_copyStamps 47 rfl) (by decide) (fun c2 => ?_) (fun c2 => ?_)
      · replace hf := if_f hf c2
        refine lv_aload_n hx hb (dq tk_Books_copyStamps 50 rfl) rfl (lv_at hl 1 rfl) ?_
        refine G_Books_rowLength hc hw wd_164 (dq tk_Books_copyStamps 51 rfl) ?_
        refine lv_iload hx hb (dq tk_Books_copyStamps 52 rfl) (lv_at hl 0 rfl) ?_
        obtain ⟨c3, hf⟩ := chk_some hf
        refine AL_Books_rowLength hc hw c3 (dq tk_Books_copyStamps 53 rfl) ?_
        exact w_Books_copyStamps_98 hc hr hR hk3_0 hk3_1 ih hw (lv_sub hl [1, 2, 3, 4, 5, 0] rfl) hf
      · replace hf := if_t hf c2
        refine lv_iconst (v := 0) hx hb (dq tk_Books_copyStamps 48 rfl) (by decide) ?_
        refine lv_goto (tgt := 98) hx hb (dq tk_Books_copyStamps 49 rfl) (by decide) ?_
        exact w_Books_copyStamps_98 hc hr hR hk3_0 hk3_1 ih hw (lv_sub hl [1, 2, 3, 4, 5, 0] rfl) hf
set_option maxRecDepth 10000 in
theorem w_Books_copyStamps_8 {N : Nat} {k3_0 k3_1 : Nat} (hc : Cxz p s m meth c args prog_3_method_6_code "LabourExchange$Books" 8 Z) (hr : meth.sig.returnType = none) (hR : RO R 1) (hk3_0 : k3_0 < 2) (hk3_1 : k3_1 < 20) {σ' : St} (n : Nat) : ∀ {x1 : Int32} {x2 : Int32} {x4 : Int32} {σ : St} {H : Heap} {locs : List Loc} {ls : Array Slot}, Wd Z (cmb σ μ) s H locs → lv_has ls 8 [(0, .ref (Z.1 + 15)), (1, .int x1), (2, .int x2), (3, .ref (Z.1 + (282 + 187 * k3_0 + 5 * k3_1))), (4, .int x4)] → fBooks_copyStamps_8 N k3_0 k3_1 n x1 x2 x4 σ = some σ' → W p l e R s m args below meth c H locs 0 0 (MQ below (Qr Z none True (cmb σ' μ)) args s 0 0 (fun q => Z.1 ≤ q)) (F0 m 8 ls []) := by
  have hx := hc.hx
  have hb := hc.hb
  induction n with
  | zero =>
    intro x1 x2 x4 σ H locs ls hw hl hf
    have hf : none = some _ := hf
    cases hf
  | succ n ih =>
    intro x1 x2 x4 σ H locs ls hw hl hf
    unfold fBooks_copyStamps_8 at hf
    refine lv_iload hx hb (dq tk_Books_copyStamps 5 rfl) (lv_at hl 4 rfl) ?_
    refine lv_aload_n hx hb (dq tk_Books_copyStamps 6 rfl) rfl (lv_at hl 0 rfl) ?_
    refine G_Books_returnCount hc hw wd_172 (dq tk_Books_copyStamps 7 rfl) ?_
    refine lv_icmp_ge (tgt := 62) hx hb (dq tk_Books_copyStamps 8 rfl) (by decide) (fun c1 => ?_) (fun c1 => ?_)
    · replace hf := if_t hf c1
      refine lv_iconst (v := 0) hx hb (dq tk_Books_copyStamps 34 rfl) (by decide) ?_
      refine lv_istore (lv' := [(4, .int 0), (0, .ref (Z.1 + 15)), (1, .int x1), (2, .int x2), (3, .ref (Z.1 + (282 + 187 * k3_0 + 5 * k3_1)))]) hx hb (dq tk_Books_copyStamps 35 rfl) hl (by decide) rfl (fun ls hl => ?_)
      exact w_Books_copyStamps_65 hc hr hR hk3_0 hk3_1 N hw (lv_sub hl [1, 2, 3, 4, 0] rfl) hf
    · replace hf := if_f hf c1
      refine lv_aload_n hx hb (dq tk_Books_copyStamps 9 rfl) rfl (lv_at hl 0 rfl) ?_
      refine G_Books_returnPerson hc hw wd_168 (dq tk_Books_copyStamps 10 rfl) ?_
      refine lv_iload hx hb (dq tk_Books_copyStamps 11 rfl) (lv_at hl 4 rfl) ?_
      obtain ⟨c2, hf⟩ := chk_some hf
      refine AL_Books_returnPerson hc hw c2 (dq tk_Books_copyStamps 12 rfl) ?_
      refine lv_iload_n hx hb (dq tk_Books_copyStamps 13 rfl) rfl (lv_at hl 1 rfl) ?_
      refine lv_icmp_ne (tgt := 56) hx hb (dq tk_Books_copyStamps 14 rfl) (by decide) (fun c3 => ?_) (fun c3 => ?_)
      · replace hf := if_f hf c3
        refine lv_iinc (v := (x4 + 1)) (lv' := [(4, .int (x4 + 1)), (0, .ref (Z.1 + 15)), (1, .int x1), (2, .int x2), (3, .ref (Z.1 + (282 + 187 * k3_0 + 5 * k3_1)))]) hx hb (dq tk_Books_copyStamps 32 rfl) hl (k := 4) rfl rfl (by decide) rfl (fun ls hl => ?_)
        refine lv_goto (tgt := 8) hx hb (dq tk_Books_copyStamps 33 rfl) (by decide) ?_
        exact ih hw (lv_sub hl [1, 2, 3, 4, 0] rfl) hf
      · replace hf := if_t hf c3
        refine lv_aload_n hx hb (dq tk_Books_copyStamps 15 rfl) rfl (lv_at hl 0 rfl) ?_
        refine G_Books_returnTold hc hw wd_171 (dq tk_Books_copyStamps 16 rfl) ?_
        refine lv_iload hx hb (dq tk_Books_copyStamps 17 rfl) (lv_at hl 4 rfl) ?_
        refine AL_Books_returnTold hc hw c2 (dq tk_Books_copyStamps 18 rfl) ?_
        refine lv_iload_n hx hb (dq tk_Books_copyStamps 19 rfl) rfl (lv_at hl 2 rfl) ?_
        refine lv_icmp_gt (tgt := 56) hx hb (dq tk_Books_copyStamps 20 rfl) (by decide) (fun c4 => ?_) (fun c4 => ?_)
        · replace hf := if_t hf c4
          refine lv_iinc (v := (x4 + 1)) (lv' := [(4, .int (x4 + 1)), (0, .ref (Z.1 + 15)), (1, .int x1), (2, .int x2), (3, .ref (Z.1 + (282 + 187 * k3_0 + 5 * k3_1)))]) hx hb (dq tk_Books_copyStamps 32 rfl) hl (k := 4) rfl rfl (by decide) rfl (fun ls hl => ?_)
          refine lv_goto (tgt := 8) hx hb (dq tk_Books_copyStamps 33 rfl) (by decide) ?_
          exact ih hw (lv_sub hl [1, 2, 3, 4, 0] rfl) hf
        · replace hf := if_f hf c4
          refine lv_aload_n hx hb (dq tk_Books_copyStamps 21 rfl) rfl (lv_at hl 3 rfl) ?_
          refine lv_aload_n hx hb (dq tk_Books_copyStamps 22 rfl) rfl (lv_at hl 0 rfl) ?_
          refine G_Books_returnWeek hc hw wd_169 (dq tk_Books_copyStamps 23 rfl) ?_
          refine lv_iload hx hb (dq tk_Books_copyStamps 24 rfl) (lv_at hl 4 rfl) ?_
          refine AL_Books_returnWeek hc hw c2 (dq tk_Books_copyStamps 25 rfl) ?_
          refine lv_aload_n hx hb (dq tk_Books_copyStamps 26 rfl) rfl (lv_at hl 0 rfl) ?_
          refine G_Books_returnDays hc hw wd_170 (dq tk_Books_copyStamps 27 rfl) ?_
          refine lv_iload hx hb (dq tk_Books_copyStamps 28 rfl) (lv_at hl 4 rfl) ?_
          refine AL_Books_returnDays hc hw c2 (dq tk_Books_copyStamps 29 rfl) ?_
          refine lv_i2b hx hb (dq tk_Books_copyStamps 30 rfl) rfl ?_
          obtain ⟨c5, hf⟩ := chk_some hf
          obtain ⟨σ1, hσ1, hf⟩ := nm_some hf
          refine AS_Life_stamps hk3_0 hk3_1 hc hw c5 hσ1 (dq tk_Books_copyStamps 31 rfl) (fun H locs hw => ?_)
          refine lv_iinc (v := (x4 + 1)) (lv' := [(4, .int (x4 + 1)), (0, .ref (Z.1 + 15)), (1, .int x1), (2, .int x2), (3, .ref (Z.1 + (282 + 187 * k3_0 + 5 * k3_1)))]) hx hb (dq tk_Books_copyStamps 32 rfl) hl (k := 4) rfl rfl (by decide) rfl (fun ls hl => ?_)
          refine lv_goto (tgt := 8) hx hb (dq tk_Books_copyStamps 33 rfl) (by decide) ?_
          exact ih hw (lv_sub hl [1, 2, 3, 4, 0] rfl) hf
set_option maxRecDepth 10000 in
theorem w_Books_copyStamps {N : Nat} {k3_0 k3_1 : Nat} (hc : Cxz p s m meth c args prog_3_method_6_code "LabourExchange$Books" 8 Z) (hr : meth.sig.returnType = none) (hR : RO R 1) (hk3_0 : k3_0 < 2) (hk3_1 : k3_1 < 20) {σ' : St} : ∀ {x1 : Int32} {x2 : Int32} {σ : St} {H : Heap} {locs : List Loc} {ls : Array Slot}, Wd Z (cmb σ μ) s H locs → lv_has ls 8 [(0, .ref (Z.1 + 15)), (1, .int x1), (2, .int x2), (3, .ref (Z.1 + (282 + 187 * k3_0 + 5 * k3_1)))] → fBooks_copyStamps N k3_0 k3_1 x1 x2 σ = some σ' → W p l e R s m args below meth c H locs 0 0 (MQ below (Qr Z none True (cmb σ' μ)) args s 0 0 (fun q => Z.1 ≤ q)) (F0 m 0 ls []) := by
  have hx := hc.hx
  have hb := hc.hb
  intro x1 x2 σ H locs ls hw hl hf
  unfold fBooks_copyStamps at hf
  refine lv_aload_n hx hb (dq tk_Books_copyStamps 0 rfl) rfl (lv_at hl 3 rfl) ?_
  refine lv_iconst (v := (-1)) hx hb (dq tk_Books_copyStamps 1 rfl) (by decide) ?_
  obtain ⟨σ1, h2, hf⟩ := bn1_someZ hf
  refine K_Arrays_fill_Life_stamps hc hw hk3_0 hk3_1 wd_792 h2 (hR.mono (by decide)) ⟨Nat.zero_le _, Nat.zero_le _⟩ hl.1 (Nat.le_of_ble_eq_true rfl) (dq tk_Books_copyStamps 2 rfl) (fun H locs hw _ => ?_)
  refine lv_iconst (v := 0) hx hb (dq tk_Books_copyStamps 3 rfl) (by decide) ?_
  refine lv_istore (lv' := [(4, .int 0), (0, .ref (Z.1 + 15)), (1, .int x1), (2, .int x2), (3, .ref (Z.1 + (282 + 187 * k3_0 + 5 * k3_1)))]) hx hb (dq tk_Books_copyStamps 4 rfl) hl (by decide) rfl (fun ls hl => ?_)
  exact w_Books_copyStamps_8 hc hr hR hk3_0 hk3_1 N hw (lv_sub hl [1, 2, 3, 4, 0] rfl) hf
theorem c_Books_copyStamps {N : Nat} {k3_0 k3_1 : Nat}  {x1 : Int32} {x2 : Int32} {σ' : St} {σ : St} (hk3_0 : k3_0 < 2) (hk3_1 : k3_1 < 20) (hf : fBooks_copyStamps N k3_0 k3_1 x1 x2 σ = some σ') : Ct l Z y_Books_copyStamps prog_3_method_6_code 8 none (rmo (1)) [.ref (Z.1 + 15), .int x1, .int x2, .ref (Z.1 + (282 + 187 * k3_0 + 5 * k3_1))] (cmb σ μ) none True (cmb σ' μ) := by
  refine x_met (by decide) (Nat.le_of_ble_eq_true rfl) (fun p e s m args below meth c ls hc hr hw hl => ?_)
  exact w_Books_copyStamps hc hr RO.self hk3_0 hk3_1 hw hl hf
theorem K_Books_copyStamps {idx : Nat} {N : Nat} {k3_0 k3_1 : Nat}  {x1 : Int32} {x2 : Int32} {σ' : St} {σ : St} (hc : Cxz p s m meth c args cc own nL Z) (hw : Wd Z (cmb σ μ) s H locs) (hk3_0 : k3_0 < 2) (hk3_1 : k3_1 < 20) (hl : Cond.methodLink own idx y_Books_copyStamps ∈ TB) (hf : fBooks_copyStamps N k3_0 k3_1 x1 x2 σ = some σ') (hR : RO R ((1) + 1)) (hcs : cells ≤ R.cells ∧ slots ≤ R.slots) (hls : ls.size = nL) (hst : (rest.map fun v => v.category).sum ≤ 8) (hdg : decode cc pc = .ok (.invokevirtual idx, 3)) (kk : ∀ (H1 : Heap) (locs1 : List Loc), Wd Z (cmb σ' μ) s H1 locs1 → True → W p l e R s m args below meth c H1 locs1 cells slots Q (F0 m (pc + 3) ls rest)) : W p l e R s m args below meth c H locs cells slots Q (F0 m pc ls (.ref (Z.1 + (282 + 187 * k3_0 + 5 * k3_1)) :: .int x2 :: .int x1 :: .ref (Z.1 + 15) :: rest)) :=
  x_iv hc hw (c_Books_copyStamps hk3_0 hk3_1 hf) yv_Books_copyStamps (Nat.le_of_ble_eq_true rfl) rfl rfl hl (RO.call hR (by decide)) hcs rfl hls hst hdg rfl kk
set_option maxRecDepth 10000 in
theorem w_Math_min_J {N : Nat} (hc : Cxz p s m meth c args prog_20_method_70_code "java/lang/Math" 4 Z) (hr : meth.sig.returnType = (some .long)) (hR : RO R 0) {rv : Int64} {σ : St} : ∀ {x0 : Int64} {x2 : Int64} {H : Heap} {locs : List Loc} {ls : Array Slot}, Wd Z τ s H locs → lv_has ls 4 [(0, .long x0), (2, .long x2)] → fMath_min_J N x0 x2 σ = some rv → W p l e R s m args below meth c H locs 0 0 (MQ below (Qr Z (some (.long rv)) True τ) args s 0 0 (fun q => Z.1 ≤ q)) (F0 m 0 ls []) := by
  have hx := hc.hx
  have hb := hc.hb
  intro x0 x2 H locs ls hw hl hf
  unfold fMath_min_J at hf
  refine lv_lload_n hx hb (dq tk_Math_min_J 0 rfl) rfl (lv_at hl 0 rfl) ?_
  refine lv_lload_n hx hb (dq tk_Math_min_J 1 rfl) rfl (lv_at hl 1 rfl) ?_
  refine W.lcmp hx hb (dq tk_Math_min_J 2 rfl) ?_
  refine lv_if_gt (tgt := 10) hx hb (dq tk_Math_min_J 3 rfl) (by decide) (fun c1 => ?_) (fun c1 => ?_)
  · replace hf := if_t hf c1
    refine lv_lload_n hx hb (dq tk_Math_min_J 6 rfl) rfl (lv_at hl 1 rfl) ?_
    cases hf
    exact x_lret hc hw hr (dq tk_Math_min_J 7 rfl)
  · replace hf := if_f hf c1
    refine lv_lload_n hx hb (dq tk_Math_min_J 4 rfl) rfl (lv_at hl 0 rfl) ?_
    refine lv_goto (tgt := 11) hx hb (dq tk_Math_min_J 5 rfl) (by decide) ?_
    cases hf
    exact x_lret hc hw hr (dq tk_Math_min_J 7 rfl)
theorem c_Math_min_J {N : Nat}  {x0 : Int64} {x2 : Int64} {rv : Int64} {σ : St} (hf : fMath_min_J N x0 x2 σ = some rv) : Ct l Z y_Math_min_J prog_20_method_70_code 4 (some .long) (rmo (0)) [.long x0, .long x2] τ (some (.long rv)) True τ := by
  refine x_metF (by decide +kernel) (Nat.le_of_ble_eq_true rfl) (fun p e s m args below meth c ls hc hr hw hl => ?_)
  exact w_Math_min_J hc hr RO.self hw hl hf
theorem K_Math_min_J {idx : Nat} {N : Nat}  {x0 : Int64} {x2 : Int64} {rv : Int64} {σ : St} (hc : Cxz p s m meth c args cc own nL Z) (hw : Wd Z τ s H locs) (hl : Cond.methodLink own idx y_Math_min_J ∈ TB) (hf : fMath_min_J N x0 x2 σ = some rv) (hR : RO R ((0) + 1)) (hcs : cells ≤ R.cells ∧ slots ≤ R.slots) (hls : ls.size = nL) (hst : (rest.map fun v => v.category).sum ≤ 8) (hdg : decode cc pc = .ok (.invokestatic idx, 3)) (kk : ∀ (H1 : Heap) (locs1 : List Loc), Wd Z τ s H1 locs1 → True → W p l e R s m args below meth c H1 locs1 cells slots Q (F0 m (pc + 3) ls (.long rv :: rest))) : W p l e R s m args below meth c H locs cells slots Q (F0 m pc ls (.long x2 :: .long x0 :: rest)) :=
  x_is hc hw (c_Math_min_J hf) ys_Math_min_J hl (RO.call hR (by decide)) hcs rfl hls hst hdg rfl kk
set_option maxRecDepth 10000 in
theorem w_Math_max_J {N : Nat} (hc : Cxz p s m meth c args prog_20_method_66_code "java/lang/Math" 4 Z) (hr : meth.sig.returnType = (some .long)) (hR : RO R 0) {rv : Int64} {σ : St} : ∀ {x0 : Int64} {x2 : Int64} {H : Heap} {locs : List Loc} {ls : Array Slot}, Wd Z τ s H locs → lv_has ls 4 [(0, .long x0), (2, .long x2)] → fMath_max_J N x0 x2 σ = some rv → W p l e R s m args below meth c H locs 0 0 (MQ below (Qr Z (some (.long rv)) True τ) args s 0 0 (fun q => Z.1 ≤ q)) (F0 m 0 ls []) := by
  have hx := hc.hx
  have hb := hc.hb
  intro x0 x2 H locs ls hw hl hf
  unfold fMath_max_J at hf
  refine lv_lload_n hx hb (dq tk_Math_max_J 0 rfl) rfl (lv_at hl 0 rfl) ?_
  refine lv_lload_n hx hb (dq tk_Math_max_J 1 rfl) rfl (lv_at hl 1 rfl) ?_
  refine W.lcmp hx hb (dq tk_Math_max_J 2 rfl) ?_
  refine lv_if_lt (tgt := 10) hx hb (dq tk_Math_max_J 3 rfl) (by decide) (fun c1 => ?_) (fun c1 => ?_)
  · replace hf := if_t hf c1
    refine lv_lload_n hx hb (dq tk_Math_max_J 6 rfl) rfl (lv_at hl 1 rfl) ?_
    cases hf
    exact x_lret hc hw hr (dq tk_Math_max_J 7 rfl)
  · replace hf := if_f hf c1
    refine lv_lload_n hx hb (dq tk_Math_max_J 4 rfl) rfl (lv_at hl 0 rfl) ?_
    refine lv_goto (tgt := 11) hx hb (dq tk_Math_max_J 5 rfl) (by decide) ?_
    cases hf
    exact x_lret hc hw hr (dq tk_Math_max_J 7 rfl)
theorem c_Math_max_J {N : Nat}  {x0 : Int64} {x2 : Int64} {rv : Int64} {σ : St} (hf : fMath_max_J N x0 x2 σ = some rv) : Ct l Z y_Math_max_J prog_20_method_66_code 4 (some .long) (rmo (0)) [.long x0, .long x2] τ (some (.long rv)) True τ := by
  refine x_metF (by decide +kernel) (Nat.le_of_ble_eq_true rfl) (fun p e s m args below meth c ls hc hr hw hl => ?_)
  exact w_Math_max_J hc hr RO.self hw hl hf
theorem K_Math_max_J {idx : Nat} {N : Nat}  {x0 : Int64} {x2 : Int64} {rv : Int64} {σ : St} (hc : Cxz p s m meth c args cc own nL Z) (hw : Wd Z τ s H locs) (hl : Cond.methodLink own idx y_Math_max_J ∈ TB) (hf : fMath_max_J N x0 x2 σ = some rv) (hR : RO R ((0) + 1)) (hcs : cells ≤ R.cells ∧ slots ≤ R.slots) (hls : ls.size = nL) (hst : (rest.map fun v => v.category).sum ≤ 8) (hdg : decode cc pc = .ok (.invokestatic idx, 3)) (kk : ∀ (H1 : Heap) (locs1 : List Loc), Wd Z τ s H1 locs1 → True → W p l e R s m args below meth c H1 locs1 cells slots Q (F0 m (pc + 3) ls (.long rv :: rest))) : W p l e R s m args below meth c H locs cells slots Q (F0 m pc ls (.long x2 :: .long x0 :: rest)) :=
  x_is hc hw (c_Math_max_J hf) ys_Math_max_J hl (RO.call hR (by decide)) hcs rfl hls hst hdg rfl kk
set_option maxRecDepth 10000 in
theorem w_Math_abs_I {N : Nat} (hc : Cxz p s m meth c args prog_20_method_59_code "java/lang/Math" 1 Z) (hr : meth.sig.returnType = (some .int)) (hR : RO R 0) {rv : Int32} {σ : St} : ∀ {x0 : Int32} {H : Heap} {locs : List Loc} {ls : Array Slot}, Wd Z τ s H locs → lv_has ls 1 [(0, .int x0)] → fMath_abs_I N x0 σ = some rv → W p l e R s m args below meth c H locs 0 0 (MQ below (Qr Z (some (.int rv)) True τ) args s 0 0 (fun q => Z.1 ≤ q)) (F0 m 0 ls []) := by
  have hx := hc.hx
  have hb := hc.hb
  intro x0 H locs ls hw hl hf
  unfold fMath_abs_I at hf
  refine lv_iload_n hx hb (dq tk_Math_abs_I 0 rfl) rfl (lv_at hl 0 rfl) ?_
  refine lv_if_ge (tgt := 9) hx hb (dq tk_Math_abs_I 1 rfl) (by decide) (fun c1 => ?_) (fun c1 => ?_)
  · replace hf := if_t hf c1
    refine lv_iload_n hx hb (dq tk_Math_abs_I 5 rfl) rfl (lv_at hl 0 rfl) ?_
    cases hf
    exact x_iret hc hw hr (dq tk_Math_abs_I 6 rfl)
  · replace hf := if_f hf c1
    refine lv_iload_n hx hb (dq tk_Math_abs_I 2 rfl) rfl (lv_at hl 0 rfl) ?_
    refine lv_ineg hx hb (dq tk_Math_abs_I 3 rfl) ?_
    refine lv_goto (tgt := 10) hx hb (dq tk_Math_abs_I 4 rfl) (by decide) ?_
    cases hf
    exact x_iret hc hw hr (dq tk_Math_abs_I 6 rfl)
theorem c_Math_abs_I {N : Nat}  {x0 : Int32} {rv : Int32} {σ : St} (hf : fMath_abs_I N x0 σ = some rv) : Ct l Z y_Math_abs_I prog_20_method_59_code 1 (some .int) (rmo (0)) [.int x0] τ (some (.int rv)) True τ := by
  refine x_metF (by decide +kernel) (Nat.le_of_ble_eq_true rfl) (fun p e s m args below meth c ls hc hr hw hl => ?_)
  exact w_Math_abs_I hc hr RO.self hw hl hf
theorem K_Math_abs_I {idx : Nat} {N : Nat}  {x0 : Int32} {rv : Int32} {σ : St} (hc : Cxz p s m meth c args cc own nL Z) (hw : Wd Z τ s H locs) (hl : Cond.methodLink own idx y_Math_abs_I ∈ TB) (hf : fMath_abs_I N x0 σ = some rv) (hR : RO R ((0) + 1)) (hcs : cells ≤ R.cells ∧ slots ≤ R.slots) (hls : ls.size = nL) (hst : (rest.map fun v => v.category).sum ≤ 8) (hdg : decode cc pc = .ok (.invokestatic idx, 3)) (kk : ∀ (H1 : Heap) (locs1 : List Loc), Wd Z τ s H1 locs1 → True → W p l e R s m args below meth c H1 locs1 cells slots Q (F0 m (pc + 3) ls (.int rv :: rest))) : W p l e R s m args below meth c H locs cells slots Q (F0 m pc ls (.int x0 :: rest)) :=
  x_is hc hw (c_Math_abs_I hf) ys_Math_abs_I hl (RO.call hR (by decide)) hcs rfl hls hst hdg rfl kk
set_option maxRecDepth 10000 in
theorem w_Land_miles {N : Nat} (hc : Cxz p s m meth c args prog_6_method_5_code "LabourExchange$Land" 3 Z) (hr : meth.sig.returnType = (some .int)) (hR : RO R 1) {rv : Int32} {σ : St} : ∀ {x1 : Int32} {x2 : Int32} {H : Heap} {locs : List Loc} {ls : Array Slot}, Wd Z (cmb σ μ) s H locs → lv_has ls 3 [(0, .ref (Z.1 + 3)), (1, .int x1), (2, .int x2)] → fLand_miles N x1 x2 σ = some rv → W p l e R s m args below meth c H locs 0 0 (MQ below (Qr Z (some (.int rv)) True (cmb σ μ)) args s 0 0 (fun q => Z.1 ≤ q)) (F0 m 0 ls []) := by
  have hx := hc.hx
  have hb := hc.hb
  intro x1 x2 H locs ls hw hl hf
  unfold fLand_miles at hf
  refine lv_aload_n hx hb (dq tk_Land_miles 0 rfl) rfl (lv_at hl 0 rfl) ?_
  refine G_Land_x hc hw wd_87 (dq tk_Land_miles 1 rfl) ?_
  refine lv_iload_n hx hb (dq tk_Land_miles 2 rfl) rfl (lv_at hl 1 rfl) ?_
  obtain ⟨c1, hf⟩ := chk_some hf
  refine AL_Land_x hc hw c1 (dq tk_Land_miles 3 rfl) ?_
  refine lv_aload_n hx hb (dq tk_Land_miles 4 rfl) rfl (lv_at hl 0 rfl) ?_
  refine G_Land_x hc hw wd_87 (dq tk_Land_miles 5 rfl) ?_
  refine lv_iload_n hx hb (dq tk_Land_miles 6 rfl) rfl (lv_at hl 2 rfl) ?_
  obtain ⟨c2, hf⟩ := chk_some hf
  refine AL_Land_x hc hw c2 (dq tk_Land_miles 7 rfl) ?_
  refine lv_isub hx hb (dq tk_Land_miles 8 rfl) ?_
  obtain ⟨r1, h9, hf⟩ := bn1_someZ hf
  refine K_Math_abs_I hc hw wd_913 h9 (hR.mono (by decide)) ⟨Nat.zero_le _, Nat.zero_le _⟩ hl.1 (Nat.le_of_ble_eq_true rfl) (dq tk_Land_miles 9 rfl) (fun H locs hw _ => ?_)
  refine lv_aload_n hx hb (dq tk_Land_miles 10 rfl) rfl (lv_at hl 0 rfl) ?_
  refine G_Land_y hc hw wd_88 (dq tk_Land_miles 11 rfl) ?_
  refine lv_iload_n hx hb (dq tk_Land_miles 12 rfl) rfl (lv_at hl 1 rfl) ?_
  refine AL_Land_y hc hw c1 (dq tk_Land_miles 13 rfl) ?_
  refine lv_aload_n hx hb (dq tk_Land_miles 14 rfl) rfl (lv_at hl 0 rfl) ?_
  refine G_Land_y hc hw wd_88 (dq tk_Land_miles 15 rfl) ?_
  refine lv_iload_n hx hb (dq tk_Land_miles 16 rfl) rfl (lv_at hl 2 rfl) ?_
  refine AL_Land_y hc hw c2 (dq tk_Land_miles 17 rfl) ?_
  refine lv_isub hx hb (dq tk_Land_miles 18 rfl) ?_
  obtain ⟨r2, h19, hf⟩ := bn1_someZ hf
  refine K_Math_abs_I hc hw wd_913 h19 (hR.mono (by decide)) ⟨Nat.zero_le _, Nat.zero_le _⟩ hl.1 (Nat.le_of_ble_eq_true rfl) (dq tk_Land_miles 19 rfl) (fun H locs hw _ => ?_)
  refine lv_iadd hx hb (dq tk_Land_miles 20 rfl) ?_
  cases hf
  exact x_iret hc hw hr (dq tk_Land_miles 21 rfl)
theorem c_Land_miles {N : Nat}  {x1 : Int32} {x2 : Int32} {rv : Int32} {σ : St} (hf : fLand_miles N x1 x2 σ = some rv) : Ct l Z y_Land_miles prog_6_method_5_code 3 (some .int) (rmo (1)) [.ref (Z.1 + 3), .int x1, .int x2] (cmb σ μ) (some (.int rv)) True (cmb σ μ) := by
  refine x_met (by decide) (Nat.le_of_ble_eq_true rfl) (fun p e s m args below meth c ls hc hr hw hl => ?_)
  exact w_Land_miles hc hr RO.self hw hl hf
theorem K_Land_miles {idx : Nat} {N : Nat}  {x1 : Int32} {x2 : Int32} {rv : Int32} {σ : St} (hc : Cxz p s m meth c args cc own nL Z) (hw : Wd Z (cmb σ μ) s H locs) (hl : Cond.methodLink own idx y_Land_miles ∈ TB) (hf : fLand_miles N x1 x2 σ = some rv) (hR : RO R ((1) + 1)) (hcs : cells ≤ R.cells ∧ slots ≤ R.slots) (hls : ls.size = nL) (hst : (rest.map fun v => v.category).sum ≤ 8) (hdg : decode cc pc = .ok (.invokevirtual idx, 3)) (kk : ∀ (H1 : Heap) (locs1 : List Loc), Wd Z (cmb σ μ) s H1 locs1 → True → W p l e R s m args below meth c H1 locs1 cells slots Q (F0 m (pc + 3) ls (.int rv :: rest))) : W p l e R s m args below meth c H locs cells slots Q (F0 m pc ls (.int x2 :: .int x1 :: .ref (Z.1 + 3) :: rest)) :=
  x_iv hc hw (c_Land_miles hf) yv_Land_miles (Nat.le_of_ble_eq_true rfl) rfl rfl hl (RO.call hR (by decide)) hcs rfl hls hst hdg rfl kk
set_option maxRecDepth 10000 in
theorem w_Land_closeWeek {N : Nat} (hc : Cxz p s m meth c args prog_6_method_7_code "LabourExchange$Land" 3 Z) (hr : meth.sig.returnType = none) (hR : RO R 0) {σ' : St} : ∀ {x1 : Int32} {x2 : Int32} {σ : St} {H : Heap} {locs : List Loc} {ls : Array Slot}, Wd Z (cmb σ μ) s H locs → lv_has ls 3 [(0, .ref (Z.1 + 3)), (1, .int x1), (2, .int x2)] → fLand_closeWeek N x1 x2 σ = some σ' → W p l e R s m args below meth c H locs 0 0 (MQ below (Qr Z none True (cmb σ' μ)) args s 0 0 (fun q => Z.1 ≤ q)) (F0 m 0 ls []) := by
  have hx := hc.hx
  have hb := hc.hb
  intro x1 x2 σ H locs ls hw hl hf
  unfold fLand_closeWeek at hf
  refine lv_aload_n hx hb (dq tk_Land_closeWeek 0 rfl) rfl (lv_at hl 0 rfl) ?_
  refine lv_iload_n hx hb (dq tk_Land_closeWeek 1 rfl) rfl (lv_at hl 1 rfl) ?_
  obtain ⟨σ1, hσ1, hf⟩ := nm_some hf
  refine P_Land_got hc hw wd_113 hσ1 (dq tk_Land_closeWeek 2 rfl) (fun H locs hw => ?_)
  refine lv_aload_n hx hb (dq tk_Land_closeWeek 3 rfl) rfl (lv_at hl 0 rfl) ?_
  refine lv_iload_n hx hb (dq tk_Land_closeWeek 4 rfl) rfl (lv_at hl 2 rfl) ?_
  obtain ⟨σ2, hσ2, hf⟩ := nm_some hf
  refine P_Land_gave hc hw wd_115 hσ2 (dq tk_Land_closeWeek 5 rfl) (fun H locs hw => ?_)
  refine lv_aload_n hx hb (dq tk_Land_closeWeek 6 rfl) rfl (lv_at hl 0 rfl) ?_
  refine lv_dup hx hb (dq tk_Land_closeWeek 7 rfl) rfl ?_
  refine G_Land_has hc hw wd_111 (dq tk_Land_closeWeek 8 rfl) ?_
  refine lv_aload_n hx hb (dq tk_Land_closeWeek 9 rfl) rfl (lv_at hl 0 rfl) ?_
  refine G_Land_got hc hw wd_113 (dq tk_Land_closeWeek 10 rfl) ?_
  refine lv_aload_n hx hb (dq tk_Land_closeWeek 11 rfl) rfl (lv_at hl 0 rfl) ?_
  refine G_Land_gave hc hw wd_115 (dq tk_Land_closeWeek 12 rfl) ?_
  refine lv_isub hx hb (dq tk_Land_closeWeek 13 rfl) ?_
  refine lv_iadd hx hb (dq tk_Land_closeWeek 14 rfl) ?_
  obtain ⟨σ3, hσ3, hf⟩ := nm_some hf
  refine P_Land_has hc hw wd_111 hσ3 (dq tk_Land_closeWeek 15 rfl) (fun H locs hw => ?_)
  refine lv_aload_n hx hb (dq tk_Land_closeWeek 16 rfl) rfl (lv_at hl 0 rfl) ?_
  refine G_Land_lately hc hw wd_117 (dq tk_Land_closeWeek 17 rfl) ?_
  refine lv_aload_n hx hb (dq tk_Land_closeWeek 18 rfl) rfl (lv_at hl 0 rfl) ?_
  refine G_Land_weeks hc hw wd_118 (dq tk_Land_closeWeek 19 rfl) ?_
  refine lv_iconst (v := 4) hx hb (dq tk_Land_closeWeek 20 rfl) (by decide) ?_
  refine lv_irem hx hb (dq tk_Land_closeWeek 21 rfl) (by decide) ?_
  refine lv_aload_n hx hb (dq tk_Land_closeWeek 22 rfl) rfl (lv_at hl 0 rfl) ?_
  refine G_Land_got hc hw wd_113 (dq tk_Land_closeWeek 23 rfl) ?_
  refine lv_aload_n hx hb (dq tk_Land_closeWeek 24 rfl) rfl (lv_at hl 0 rfl) ?_
  refine G_Land_gave hc hw wd_115 (dq tk_Land_closeWeek 25 rfl) ?_
  refine lv_isub hx hb (dq tk_Land_closeWeek 26 rfl) ?_
  obtain ⟨c1, hf⟩ := chk_some hf
  obtain ⟨σ4, hσ4, hf⟩ := nm_some hf
  refine AS_Land_lately hc hw c1 hσ4 (dq tk_Land_closeWeek 27 rfl) (fun H locs hw => ?_)
  refine lv_aload_n hx hb (dq tk_Land_closeWeek 28 rfl) rfl (lv_at hl 0 rfl) ?_
  refine lv_dup hx hb (dq tk_Land_closeWeek 29 rfl) rfl ?_
  refine G_Land_weeks hc hw wd_118 (dq tk_Land_closeWeek 30 rfl) ?_
  refine lv_iconst (v := 1) hx hb (dq tk_Land_closeWeek 31 rfl) (by decide) ?_
  refine lv_iadd hx hb (dq tk_Land_closeWeek 32 rfl) ?_
  obtain ⟨σ5, hσ5, hf⟩ := nm_some hf
  refine P_Land_weeks hc hw wd_118 hσ5 (dq tk_Land_closeWeek 33 rfl) (fun H locs hw => ?_)
  cases hf
  exact x_vret hc hw hr (dq tk_Land_closeWeek 34 rfl)
theorem c_Land_closeWeek {N : Nat}  {x1 : Int32} {x2 : Int32} {σ' : St} {σ : St} (hf : fLand_closeWeek N x1 x2 σ = some σ') : Ct l Z y_Land_closeWeek prog_6_method_7_code 3 none (rmo (0)) [.ref (Z.1 + 3), .int x1, .int x2] (cmb σ μ) none True (cmb σ' μ) := by
  refine x_met (by decide) (Nat.le_of_ble_eq_true rfl) (fun p e s m args below meth c ls hc hr hw hl => ?_)
  exact w_Land_closeWeek hc hr RO.self hw hl hf
theorem K_Land_closeWeek {idx : Nat} {N : Nat}  {x1 : Int32} {x2 : Int32} {σ' : St} {σ : St} (hc : Cxz p s m meth c args cc own nL Z) (hw : Wd Z (cmb σ μ) s H locs) (hl : Cond.methodLink own idx y_Land_closeWeek ∈ TB) (hf : fLand_closeWeek N x1 x2 σ = some σ') (hR : RO R ((0) + 1)) (hcs : cells ≤ R.cells ∧ slots ≤ R.slots) (hls : ls.size = nL) (hst : (rest.map fun v => v.category).sum ≤ 8) (hdg : decode cc pc = .ok (.invokevirtual idx, 3)) (kk : ∀ (H1 : Heap) (locs1 : List Loc), Wd Z (cmb σ' μ) s H1 locs1 → True → W p l e R s m args below meth c H1 locs1 cells slots Q (F0 m (pc + 3) ls rest)) : W p l e R s m args below meth c H locs cells slots Q (F0 m pc ls (.int x2 :: .int x1 :: .ref (Z.1 + 3) :: rest)) :=
  x_iv hc hw (c_Land_closeWeek hf) yv_Land_closeWeek (Nat.le_of_ble_eq_true rfl) rfl rfl hl (RO.call hR (by decide)) hcs rfl hls hst hdg rfl kk
set_option maxRecDepth 10000 in
theorem w_Land_settle_24 {N : Nat} (hc : Cxz p s m meth c args prog_6_method_6_code "LabourExchange$Land" 4 Z) (hr : meth.sig.returnType = (some .int)) (hR : RO R 0) {rv : Int32} {σ' : St} : ∀ {x1 : Int32} {x3 : Int32} {s1 : Int32} {s2 : Int32} {σ : St} {H : Heap} {locs : List Loc} {ls : Array Slot}, Wd Z (cmb σ μ) s H locs → lv_has ls 4 [(0, .ref (Z.1 + 3)), (1, .int x1), (3, .int x3)] → fLand_settle_24 N x1 x3 s1 s2 σ = some (rv, σ') → W p l e R s m args below meth c H locs 0 0 (MQ below (Qr Z (some (.int rv)) True (cmb σ' μ)) args s 0 0 (fun q => Z.1 ≤ q)) (F0 m 24 ls [.int s2, .int s1, .ref (Z.1 + 13)]) := by
  have hx := hc.hx
  have hb := hc.hb
  intro x1 x3 s1 s2 σ H locs ls hw hl hf
  unfold fLand_settle_24 at hf
  obtain ⟨c1, hf⟩ := chk_some hf
  obtain ⟨σ1, hσ1, hf⟩ := nm_some hf
  refine AS_Land_owed hc hw c1 hσ1 (dq tk_Land_settle 16 rfl) (fun H locs hw => ?_)
  refine lv_iload_n hx hb (dq tk_Land_settle 17 rfl) rfl (lv_at hl 2 rfl) ?_
  refine lv_if_gt (tgt := 31) hx hb (dq tk_Land_settle 18 rfl) (by decide) (fun c2 => ?_) (fun c2 => ?_)
  · replace hf := if_t hf c2
    refine lv_aload_n hx hb (dq tk_Land_settle 21 rfl) rfl (lv_at hl 0 rfl) ?_
    refine G_Land_received hc hw wd_107 (dq tk_Land_settle 22 rfl) ?_
    refine lv_iload_n hx hb (dq tk_Land_settle 23 rfl) rfl (lv_at hl 1 rfl) ?_
    refine lv_dup2_11 hx hb (dq tk_Land_settle 24 rfl) rfl rfl ?_
    obtain ⟨c3, hf⟩ := chk_some hf
    refine AL_Land_received hc hw c3 (dq tk_Land_settle 25 rfl) ?_
    refine lv_iload_n hx hb (dq tk_Land_settle 26 rfl) rfl (lv_at hl 2 rfl) ?_
    refine lv_iadd hx hb (dq tk_Land_settle 27 rfl) ?_
    obtain ⟨σ2, hσ2, hf⟩ := nm_some hf
    refine AS_Land_received hc hw c3 hσ2 (dq tk_Land_settle 28 rfl) (fun H locs hw => ?_)
    refine lv_iload_n hx hb (dq tk_Land_settle 29 rfl) rfl (lv_at hl 2 rfl) ?_
    cases hf
    exact x_iret hc hw hr (dq tk_Land_settle 30 rfl)
  · replace hf := if_f hf c2
    refine lv_iconst (v := 0) hx hb (dq tk_Land_settle 19 rfl) (by decide) ?_
    cases hf
    exact x_iret hc hw hr (dq tk_Land_settle 20 rfl)
set_option maxRecDepth 10000 in
theorem w_Land_settle {N : Nat} (hc : Cxz p s m meth c args prog_6_method_6_code "LabourExchange$Land" 4 Z) (hr : meth.sig.returnType = (some .int)) (hR : RO R 0) {rv : Int32} {σ' : St} : ∀ {x1 : Int32} {x2 : Int32} {σ : St} {H : Heap} {locs : List Loc} {ls : Array Slot}, Wd Z (cmb σ μ) s H locs → lv_has ls 4 [(0, .ref (Z.1 + 3)), (1, .int x1), (2, .int x2)] → fLand_settle N x1 x2 σ = some (rv, σ') → W p l e R s m args below meth c H locs 0 0 (MQ below (Qr Z (some (.int rv)) True (cmb σ' μ)) args s 0 0 (fun q => Z.1 ≤ q)) (F0 m 0 ls []) := by
  have hx := hc.hx
  have hb := hc.hb
  intro x1 x2 σ H locs ls hw hl hf
  unfold fLand_settle at hf
  refine lv_iload_n hx hb (dq tk_Land_settle 0 rfl) rfl (lv_at hl 2 rfl) ?_
  refine lv_aload_n hx hb (dq tk_Land_settle 1 rfl) rfl (lv_at hl 0 rfl) ?_
  refine G_Land_received hc hw wd_107 (dq tk_Land_settle 2 rfl) ?_
  refine lv_iload_n hx hb (dq tk_Land_settle 3 rfl) rfl (lv_at hl 1 rfl) ?_
  obtain ⟨c1, hf⟩ := chk_some hf
  refine AL_Land_received hc hw c1 (dq tk_Land_settle 4 rfl) ?_
  refine lv_isub hx hb (dq tk_Land_settle 5 rfl) ?_
  obtain ⟨y1, hy1, hf⟩ := nm_some hf
  refine tst (congrArg Value.int hy1) ?_
  refine lv_istore_n (lv' := [(3, .int y1), (0, .ref (Z.1 + 3)), (1, .int x1), (2, .int x2)]) hx hb (dq tk_Land_settle 6 rfl) rfl hl (by decide) rfl (fun ls hl => ?_)
  refine lv_aload_n hx hb (dq tk_Land_settle 7 rfl) rfl (lv_at hl 1 rfl) ?_
  refine G_Land_owed hc hw wd_109 (dq tk_Land_settle 8 rfl) ?_
  refine lv_iload_n hx hb (dq tk_Land_settle 9 rfl) rfl (lv_at hl 2 rfl) ?_
  refine lv_iload_n hx hb (dq tk_Land_settle 10 rfl) rfl (lv_at hl 0 rfl) ?_
  refine lv_if_ge (tgt := 23) hx hb (dq tk_Land_settle 11 rfl) (by decide) (fun c2 => ?_) (fun c2 => ?_)
  · replace hf := if_t hf c2
    refine lv_iconst (v := 0) hx hb (dq tk_Land_settle 15 rfl) (by decide) ?_
    exact w_Land_settle_24 hc hr hR hw (lv_sub hl [1, 2, 0] rfl) hf
  · replace hf := if_f hf c2
    refine lv_iload_n hx hb (dq tk_Land_settle 12 rfl) rfl (lv_at hl 0 rfl) ?_
    refine lv_ineg hx hb (dq tk_Land_settle 13 rfl) ?_
    refine lv_goto (tgt := 24) hx hb (dq tk_Land_settle 14 rfl) (by decide) ?_
    exact w_Land_settle_24 hc hr hR hw (lv_sub hl [1, 2, 0] rfl) hf
theorem c_Land_settle {N : Nat}  {x1 : Int32} {x2 : Int32} {rv : Int32} {σ' : St} {σ : St} (hf : fLand_settle N x1 x2 σ = some (rv, σ')) : Ct l Z y_Land_settle prog_6_method_6_code 4 (some .int) (rmo (0)) [.ref (Z.1 + 3), .int x1, .int x2] (cmb σ μ) (some (.int rv)) True (cmb σ' μ) := by
  refine x_met (by decide) (Nat.le_of_ble_eq_true rfl) (fun p e s m args below meth c ls hc hr hw hl => ?_)
  exact w_Land_settle hc hr RO.self hw hl hf
theorem K_Land_settle {idx : Nat} {N : Nat}  {x1 : Int32} {x2 : Int32} {rv : Int32} {σ' : St} {σ : St} (hc : Cxz p s m meth c args cc own nL Z) (hw : Wd Z (cmb σ μ) s H locs) (hl : Cond.methodLink own idx y_Land_settle ∈ TB) (hf : fLand_settle N x1 x2 σ = some (rv, σ')) (hR : RO R ((0) + 1)) (hcs : cells ≤ R.cells ∧ slots ≤ R.slots) (hls : ls.size = nL) (hst : (rest.map fun v => v.category).sum ≤ 8) (hdg : decode cc pc = .ok (.invokevirtual idx, 3)) (kk : ∀ (H1 : Heap) (locs1 : List Loc), Wd Z (cmb σ' μ) s H1 locs1 → True → W p l e R s m args below meth c H1 locs1 cells slots Q (F0 m (pc + 3) ls (.int rv :: rest))) : W p l e R s m args below meth c H locs cells slots Q (F0 m pc ls (.int x2 :: .int x1 :: .ref (Z.1 + 3) :: rest)) :=
  x_iv hc hw (c_Land_settle hf) yv_Land_settle (Nat.le_of_ble_eq_true rfl) rfl rfl hl (RO.call hR (by decide)) hcs rfl hls hst hdg rfl kk
set_option maxRecDepth 10000 in
theorem w_Math_floorDiv_I {N : Nat} (hc : Cxz p s m meth c args prog_20_method_47_code "java/lang/Math" 3 Z) (hr : meth.sig.returnType = (some .int)) (hR : RO R 0) {rv : Int32} {σ : St} : ∀ {x0 : Int32} {x1 : Int32} {H : Heap} {locs : List Loc} {ls : Array Slot}, Wd Z τ s H locs → lv_has ls 3 [(0, .int x0), (1, .int x1)] → fMath_floorDiv_I N x0 x1 σ = some rv → W p l e R s m args below meth c H locs 0 0 (MQ below (Qr Z (some (.int rv)) True τ) args s 0 0 (fun q => Z.1 ≤ q)) (F0 m 0 ls []) := by
  have hx := hc.hx
  have hb := hc.hb
  intro x0 x1 H locs ls hw hl hf
  unfold fMath_floorDiv_I at hf
  refine lv_iload_n hx hb (dq tk_Math_floorDiv_I 0 rfl) rfl (lv_at hl 0 rfl) ?_
  refine lv_iload_n hx hb (dq tk_Math_floorDiv_I 1 rfl) rfl (lv_at hl 1 rfl) ?_
  obtain ⟨c1, hf⟩ := chk_some hf
  refine lv_idiv hx hb (dq tk_Math_floorDiv_I 2 rfl) c1 ?_
  obtain ⟨y1, hy1, hf⟩ := nm_some hf
  refine tst (congrArg Value.int hy1) ?_
  refine lv_istore_n (lv' := [(2, .int y1), (0, .int x0), (1, .int x1)]) hx hb (dq tk_Math_floorDiv_I 3 rfl) rfl hl (by decide) rfl (fun ls hl => ?_)
  refine lv_iload_n hx hb (dq tk_Math_floorDiv_I 4 rfl) rfl (lv_at hl 1 rfl) ?_
  refine lv_iload_n hx hb (dq tk_Math_floorDiv_I 5 rfl) rfl (lv_at hl 2 rfl) ?_
  refine lv_ixor hx hb (dq tk_Math_floorDiv_I 6 rfl) ?_
  refine lv_if_ge (tgt := 21) hx hb (dq tk_Math_floorDiv_I 7 rfl) (by decide) (fun c2 => ?_) (fun c2 => ?_)
  · replace hf := if_t hf c2
    refine lv_iload_n hx hb (dq tk_Math_floorDiv_I 17 rfl) rfl (lv_at hl 0 rfl) ?_
    cases hf
    exact x_iret hc hw hr (dq tk_Math_floorDiv_I 18 rfl)
  · replace hf := if_f hf c2
    refine lv_iload_n hx hb (dq tk_Math_floorDiv_I 8 rfl) rfl (lv_at hl 0 rfl) ?_
    refine lv_iload_n hx hb (dq tk_Math_floorDiv_I 9 rfl) rfl (lv_at hl 2 rfl) ?_
    refine lv_imul hx hb (dq tk_Math_floorDiv_I 10 rfl) ?_
    refine lv_iload_n hx hb (dq tk_Math_floorDiv_I 11 rfl) rfl (lv_at hl 1 rfl) ?_
    refine lv_icmp_eq (tgt := 21) hx hb (dq tk_Math_floorDiv_I 12 rfl) (by decide) (fun c3 => ?_) (fun c3 => ?_)
    · replace hf := if_t hf c3
      refine lv_iload_n hx hb (dq tk_Math_floorDiv_I 17 rfl) rfl (lv_at hl 0 rfl) ?_
      cases hf
      exact x_iret hc hw hr (dq tk_Math_floorDiv_I 18 rfl)
    · replace hf := if_f hf c3
      refine lv_iload_n hx hb (dq tk_Math_floorDiv_I 13 rfl) rfl (lv_at hl 0 rfl) ?_
      refine lv_iconst (v := 1) hx hb (dq tk_Math_floorDiv_I 14 rfl) (by decide) ?_
      refine lv_isub hx hb (dq tk_Math_floorDiv_I 15 rfl) ?_
      cases hf
      exact x_iret hc hw hr (dq tk_Math_floorDiv_I 16 rfl)
theorem c_Math_floorDiv_I {N : Nat}  {x0 : Int32} {x1 : Int32} {rv : Int32} {σ : St} (hf : fMath_floorDiv_I N x0 x1 σ = some rv) : Ct l Z y_Math_floorDiv_I prog_20_method_47_code 3 (some .int) (rmo (0)) [.int x0, .int x1] τ (some (.int rv)) True τ := by
  refine x_metF (by decide +kernel) (Nat.le_of_ble_eq_true rfl) (fun p e s m args below meth c ls hc hr hw hl => ?_)
  exact w_Math_floorDiv_I hc hr RO.self hw hl hf
theorem K_Math_floorDiv_I {idx : Nat} {N : Nat}  {x0 : Int32} {x1 : Int32} {rv : Int32} {σ : St} (hc : Cxz p s m meth c args cc own nL Z) (hw : Wd Z τ s H locs) (hl : Cond.methodLink own idx y_Math_floorDiv_I ∈ TB) (hf : fMath_floorDiv_I N x0 x1 σ = some rv) (hR : RO R ((0) + 1)) (hcs : cells ≤ R.cells ∧ slots ≤ R.slots) (hls : ls.size = nL) (hst : (rest.map fun v => v.category).sum ≤ 8) (hdg : decode cc pc = .ok (.invokestatic idx, 3)) (kk : ∀ (H1 : Heap) (locs1 : List Loc), Wd Z τ s H1 locs1 → True → W p l e R s m args below meth c H1 locs1 cells slots Q (F0 m (pc + 3) ls (.int rv :: rest))) : W p l e R s m args below meth c H locs cells slots Q (F0 m pc ls (.int x1 :: .int x0 :: rest)) :=
  x_is hc hw (c_Math_floorDiv_I hf) ys_Math_floorDiv_I hl (RO.call hR (by decide)) hcs rfl hls hst hdg rfl kk
set_option maxRecDepth 10000 in
theorem w_Land_lasts_22 {N : Nat} (hc : Cxz p s m meth c args prog_6_method_8_code "LabourExchange$Land" 4 Z) (hr : meth.sig.returnType = (some .int)) (hR : RO R 1) {rv : Int32} {σ : St} (n : Nat) : ∀ {x1 : Int32} {x2 : Int32} {x3 : Int32} {H : Heap} {locs : List Loc} {ls : Array Slot}, Wd Z (cmb σ μ) s H locs → lv_has ls 4 [(0, .ref (Z.1 + 3)), (1, .int x1), (2, .int x2), (3, .int x3)] → fLand_lasts_22 N n x1 x2 x3 σ = some rv → W p l e R s m args below meth c H locs 0 0 (MQ below (Qr Z (some (.int rv)) True (cmb σ μ)) args s 0 0 (fun q => Z.1 ≤ q)) (F0 m 22 ls []) := by
  have hx := hc.hx
  have hb := hc.hb
  induction n with
  | zero =>
    intro x1 x2 x3 H locs ls hw hl hf
    have hf : none = some _ := hf
    cases hf
  | succ n ih =>
    intro x1 x2 x3 H locs ls hw hl hf
    unfold fLand_lasts_22 at hf
    refine lv_iload_n hx hb (dq tk_Land_lasts 14 rfl) rfl (lv_at hl 3 rfl) ?_
    refine lv_iload_n hx hb (dq tk_Land_lasts 15 rfl) rfl (lv_at hl 1 rfl) ?_
    refine lv_icmp_ge (tgt := 42) hx hb (dq tk_Land_lasts 16 rfl) (by decide) (fun c1 => ?_) (fun c1 => ?_)
    · replace hf := if_t hf c1
      refine lv_iload_n hx hb (dq tk_Land_lasts 26 rfl) rfl (lv_at hl 2 rfl) ?_
      refine lv_if_ge (tgt := 50) hx hb (dq tk_Land_lasts 27 rfl) (by decide) (fun c2 => ?_) (fun c2 => ?_)
      · replace hf := if_t hf c2
        refine lv_iconst (v := (-1)) hx hb (dq tk_Land_lasts 30 rfl) (by decide) ?_
        cases hf
        exact x_iret hc hw hr (dq tk_Land_lasts 31 rfl)
      · replace hf := if_f hf c2
        refine lv_iload_n hx hb (dq tk_Land_lasts 28 rfl) rfl (lv_at hl 1 rfl) ?_
        refine lv_if_ne (tgt := 52) hx hb (dq tk_Land_lasts 29 rfl) (by decide) (fun c3 => ?_) (fun c3 => ?_)
        · replace hf := if_f hf c3
          refine lv_iload_n hx hb (dq tk_Land_lasts 32 rfl) rfl (lv_at hl 2 rfl) ?_
          refine lv_iload_n hx hb (dq tk_Land_lasts 33 rfl) rfl (lv_at hl 1 rfl) ?_
          obtain ⟨r1, h34, hf⟩ := bn1_someZ hf
          refine K_Math_floorDiv_I hc hw wd_1489 h34 (hR.mono (by decide)) ⟨Nat.zero_le _, Nat.zero_le _⟩ hl.1 (Nat.le_of_ble_eq_true rfl) (dq tk_Land_lasts 34 rfl) (fun H locs hw _ => ?_)
          refine lv_ineg hx hb (dq tk_Land_lasts 35 rfl) ?_
          obtain ⟨y2, hy2, hf⟩ := nm_some hf
          refine tst (congrArg Value.int hy2) ?_
          refine lv_istore_n (lv' := [(3, .int y2), (0, .ref (Z.1 + 3)), (1, .int x1), (2, .int x2)]) hx hb (dq tk_Land_lasts 36 rfl) rfl hl (by decide) rfl (fun ls hl => ?_)
          refine lv_iload_n hx hb (dq tk_Land_lasts 37 rfl) rfl (lv_at hl 0 rfl) ?_
          refine lv_if_le (tgt := 74) hx hb (dq tk_Land_lasts 38 rfl) (by decide) (fun c4 => ?_) (fun c4 => ?_)
          · replace hf := if_t hf c4
            refine lv_iconst (v := (-1)) hx hb (dq tk_Land_lasts 46 rfl) (by decide) ?_
            cases hf
            exact x_iret hc hw hr (dq tk_Land_lasts 47 rfl)
          · replace hf := if_f hf c4
            refine lv_aload_n hx hb (dq tk_Land_lasts 39 rfl) rfl (lv_at hl 1 rfl) ?_
            refine G_Land_has hc hw wd_111 (dq tk_Land_lasts 40 rfl) ?_
            refine lv_iload_n hx hb (dq tk_Land_lasts 41 rfl) rfl (lv_at hl 0 rfl) ?_
            obtain ⟨c5, hf⟩ := chk_some hf
            refine lv_idiv hx hb (dq tk_Land_lasts 42 rfl) c5 ?_
            refine lv_iconst (v := 1) hx hb (dq tk_Land_lasts 43 rfl) (by decide) ?_
            refine lv_iadd hx hb (dq tk_Land_lasts 44 rfl) ?_
            refine lv_goto (tgt := 75) hx hb (dq tk_Land_lasts 45 rfl) (by decide) ?_
            cases hf
            exact x_iret hc hw hr (dq tk_Land_lasts 47 rfl)
        · replace hf := if_t hf c3
          refine lv_iconst (v := (-1)) hx hb (dq tk_Land_lasts 30 rfl) (by decide) ?_
          cases hf
          exact x_iret hc hw hr (dq tk_Land_lasts 31 rfl)
    · replace hf := if_f hf c1
      refine lv_iload_n hx hb (dq tk_Land_lasts 17 rfl) rfl (lv_at hl 2 rfl) ?_
      refine lv_aload_n hx hb (dq tk_Land_lasts 18 rfl) rfl (lv_at hl 0 rfl) ?_
      refine G_Land_lately hc hw wd_117 (dq tk_Land_lasts 19 rfl) ?_
      refine lv_iload_n hx hb (dq tk_Land_lasts 20 rfl) rfl (lv_at hl 3 rfl) ?_
      obtain ⟨c6, hf⟩ := chk_some hf
      refine AL_Land_lately hc hw c6 (dq tk_Land_lasts 21 rfl) ?_
      refine lv_iadd hx hb (dq tk_Land_lasts 22 rfl) ?_
      obtain ⟨y3, hy3, hf⟩ := nm_some hf
      refine tst (congrArg Value.int hy3) ?_
      refine lv_istore_n (lv' := [(2, .int y3), (0, .ref (Z.1 + 3)), (1, .int x1), (3, .int x3)]) hx hb (dq tk_Land_lasts 23 rfl) rfl hl (by decide) rfl (fun ls hl => ?_)
      refine lv_iinc (v := (x3 + 1)) (lv' := [(3, .int (x3 + 1)), (2, .int y3), (0, .ref (Z.1 + 3)), (1, .int x1)]) hx hb (dq tk_Land_lasts 24 rfl) hl (k := 3) rfl rfl (by decide) rfl (fun ls hl => ?_)
      refine lv_goto (tgt := 22) hx hb (dq tk_Land_lasts 25 rfl) (by decide) ?_
      exact ih hw (lv_sub hl [2, 3, 1, 0] rfl) hf
set_option maxRecDepth 10000 in
theorem w_Land_lasts {N : Nat} (hc : Cxz p s m meth c args prog_6_method_8_code "LabourExchange$Land" 4 Z) (hr : meth.sig.returnType = (some .int)) (hR : RO R 1) {rv : Int32} {σ : St} : ∀ {H : Heap} {locs : List Loc} {ls : Array Slot}, Wd Z (cmb σ μ) s H locs → lv_has ls 4 [(0, .ref (Z.1 + 3))] → fLand_lasts N σ = some rv → W p l e R s m args below meth c H locs 0 0 (MQ below (Qr Z (some (.int rv)) True (cmb σ μ)) args s 0 0 (fun q => Z.1 ≤ q)) (F0 m 0 ls []) := by
  have hx := hc.hx
  have hb := hc.hb
  intro H locs ls hw hl hf
  unfold fLand_lasts at hf
  refine lv_aload_n hx hb (dq tk_Land_lasts 0 rfl) rfl (lv_at hl 0 rfl) ?_
  refine G_Land_has hc hw wd_111 (dq tk_Land_lasts 1 rfl) ?_
  refine lv_if_ge (tgt := 9) hx hb (dq tk_Land_lasts 2 rfl) (by decide) (fun c1 => ?_) (fun c1 => ?_)
  · replace hf := if_t hf c1
    refine lv_aload_n hx hb (dq tk_Land_lasts 5 rfl) rfl (lv_at hl 0 rfl) ?_
    refine G_Land_weeks hc hw wd_118 (dq tk_Land_lasts 6 rfl) ?_
    refine lv_iconst (v := 4) hx hb (dq tk_Land_lasts 7 rfl) (by decide) ?_
    obtain ⟨r1, h8, hf⟩ := bn1_someZ hf
    refine K_Math_min_I hc hw wd_1488 h8 (hR.mono (by decide)) ⟨Nat.zero_le _, Nat.zero_le _⟩ hl.1 (Nat.le_of_ble_eq_true rfl) (dq tk_Land_lasts 8 rfl) (fun H locs hw _ => ?_)
    refine lv_istore_n (lv' := [(1, .int r1), (0, .ref (Z.1 + 3))]) hx hb (dq tk_Land_lasts 9 rfl) rfl hl (by decide) rfl (fun ls hl => ?_)
    refine lv_iconst (v := 0) hx hb (dq tk_Land_lasts 10 rfl) (by decide) ?_
    refine lv_istore_n (lv' := [(2, .int 0), (1, .int r1), (0, .ref (Z.1 + 3))]) hx hb (dq tk_Land_lasts 11 rfl) rfl hl (by decide) rfl (fun ls hl => ?_)
    refine lv_iconst (v := 0) hx hb (dq tk_Land_lasts 12 rfl) (by decide) ?_
    refine lv_istore_n (lv' := [(3, .int 0), (2, .int 0), (1, .int r1), (0, .ref (Z.1 + 3))]) hx hb (dq tk_Land_lasts 13 rfl) rfl hl (by decide) rfl (fun ls hl => ?_)
    exact w_Land_lasts_22 hc hr hR N hw (lv_sub hl [3, 2, 1, 0] rfl) hf
  · replace hf := if_f hf c1
    refine lv_iconst (v := 0) hx hb (dq tk_Land_lasts 3 rfl) (by decide) ?_
    cases hf
    exact x_iret hc hw hr (dq tk_Land_lasts 4 rfl)
theorem c_Land_lasts {N : Nat}  {rv : Int32} {σ : St} (hf : fLand_lasts N σ = some rv) : Ct l Z y_Land_lasts prog_6_method_8_code 4 (some .int) (rmo (1)) [.ref (Z.1 + 3)] (cmb σ μ) (some (.int rv)) True (cmb σ μ) := by
  refine x_met (by decide) (Nat.le_of_ble_eq_true rfl) (fun p e s m args below meth c ls hc hr hw hl => ?_)
  exact w_Land_lasts hc hr RO.self hw hl hf
theorem K_Land_lasts {idx : Nat} {N : Nat}  {rv : Int32} {σ : St} (hc : Cxz p s m meth c args cc own nL Z) (hw : Wd Z (cmb σ μ) s H locs) (hl : Cond.methodLink own idx y_Land_lasts ∈ TB) (hf : fLand_lasts N σ = some rv) (hR : RO R ((1) + 1)) (hcs : cells ≤ R.cells ∧ slots ≤ R.slots) (hls : ls.size = nL) (hst : (rest.map fun v => v.category).sum ≤ 8) (hdg : decode cc pc = .ok (.invokevirtual idx, 3)) (kk : ∀ (H1 : Heap) (locs1 : List Loc), Wd Z (cmb σ μ) s H1 locs1 → True → W p l e R s m args below meth c H1 locs1 cells slots Q (F0 m (pc + 3) ls (.int rv :: rest))) : W p l e R s m args below meth c H locs cells slots Q (F0 m pc ls (.ref (Z.1 + 3) :: rest)) :=
  x_iv hc hw (c_Land_lasts hf) yv_Land_lasts (Nat.le_of_ble_eq_true rfl) rfl rfl hl (RO.call hR (by decide)) hcs rfl hls hst hdg rfl kk
set_option maxRecDepth 10000 in
theorem w_Courts_hasCaseOf_2 {N : Nat} (hc : Cxz p s m meth c args prog_4_method_3_code "LabourExchange$Courts" 3 Z) (hr : meth.sig.returnType = (some .boolean)) (hR : RO R 0) {rv : Int32} {σ : St} (n : Nat) : ∀ {x1 : Int32} {x2 : Int32} {H : Heap} {locs : List Loc} {ls : Array Slot}, Wd Z (cmb σ μ) s H locs → lv_has ls 3 [(0, .ref (Z.1 + 80)), (1, .int x1), (2, .int x2)] → fCourts_hasCaseOf_2 N n x1 x2 σ = some rv → W p l e R s m args below meth c H locs 0 0 (MQ below (Qr Z (some (.int rv)) True (cmb σ μ)) args s 0 0 (fun q => Z.1 ≤ q)) (F0 m 2 ls []) := by
  have hx := hc.hx
  have hb := hc.hb
  induction n with
  | zero =>
    intro x1 x2 H locs ls hw hl hf
    have hf : none = some _ := hf
    cases hf
  | succ n ih =>
    intro x1 x2 H locs ls hw hl hf
    unfold fCourts_hasCaseOf_2 at hf
    refine lv_iload_n hx hb (dq tk_Courts_hasCaseOf 2 rfl) rfl (lv_at hl 2 rfl) ?_
    refine lv_aload_n hx hb (dq tk_Courts_hasCaseOf 3 rfl) rfl (lv_at hl 0 rfl) ?_
    refine G_Courts_cases hc hw wd_387 (dq tk_Courts_hasCaseOf 4 rfl) ?_
    refine lv_icmp_ge (tgt := 28) hx hb (dq tk_Courts_hasCaseOf 5 rfl) (by decide) (fun c1 => ?_) (fun c1 => ?_)
    · replace hf := if_t hf c1
      refine lv_iconst (v := 0) hx hb (dq tk_Courts_hasCaseOf 16 rfl) (by decide) ?_
      cases hf
      exact x_zret hc hw hr (by decide) (dq tk_Courts_hasCaseOf 17 rfl)
    · replace hf := if_f hf c1
      refine lv_aload_n hx hb (dq tk_Courts_hasCaseOf 6 rfl) rfl (lv_at hl 0 rfl) ?_
      refine G_Courts_event hc hw wd_377 (dq tk_Courts_hasCaseOf 7 rfl) ?_
      refine lv_iload_n hx hb (dq tk_Courts_hasCaseOf 8 rfl) rfl (lv_at hl 2 rfl) ?_
      obtain ⟨c2, hf⟩ := chk_some hf
      refine AL_Courts_event hc hw c2 (dq tk_Courts_hasCaseOf 9 rfl) ?_
      refine lv_iload_n hx hb (dq tk_Courts_hasCaseOf 10 rfl) rfl (lv_at hl 1 rfl) ?_
      refine lv_icmp_ne (tgt := 22) hx hb (dq tk_Courts_hasCaseOf 11 rfl) (by decide) (fun c3 => ?_) (fun c3 => ?_)
      · replace hf := if_f hf c3
        refine lv_iinc (v := (x2 + 1)) (lv' := [(2, .int (x2 + 1)), (0, .ref (Z.1 + 80)), (1, .int x1)]) hx hb (dq tk_Courts_hasCaseOf 14 rfl) hl (k := 2) rfl rfl (by decide) rfl (fun ls hl => ?_)
        refine lv_goto (tgt := 2) hx hb (dq tk_Courts_hasCaseOf 15 rfl) (by decide) ?_
        exact ih hw (lv_sub hl [1, 2, 0] rfl) hf
      · replace hf := if_t hf c3
        refine lv_iconst (v := 1) hx hb (dq tk_Courts_hasCaseOf 12 rfl) (by decide) ?_
        cases hf
        exact x_zret hc hw hr (by decide) (dq tk_Courts_hasCaseOf 13 rfl)
set_option maxRecDepth 10000 in
theorem w_Courts_hasCaseOf {N : Nat} (hc : Cxz p s m meth c args prog_4_method_3_code "LabourExchange$Courts" 3 Z) (hr : meth.sig.returnType = (some .boolean)) (hR : RO R 0) {rv : Int32} {σ : St} : ∀ {x1 : Int32} {H : Heap} {locs : List Loc} {ls : Array Slot}, Wd Z (cmb σ μ) s H locs → lv_has ls 3 [(0, .ref (Z.1 + 80)), (1, .int x1)] → fCourts_hasCaseOf N x1 σ = some rv → W p l e R s m args below meth c H locs 0 0 (MQ below (Qr Z (some (.int rv)) True (cmb σ μ)) args s 0 0 (fun q => Z.1 ≤ q)) (F0 m 0 ls []) := by
  have hx := hc.hx
  have hb := hc.hb
  intro x1 H locs ls hw hl hf
  unfold fCourts_hasCaseOf at hf
  refine lv_iconst (v := 0) hx hb (dq tk_Courts_hasCaseOf 0 rfl) (by decide) ?_
  refine lv_istore_n (lv' := [(2, .int 0), (0, .ref (Z.1 + 80)), (1, .int x1)]) hx hb (dq tk_Courts_hasCaseOf 1 rfl) rfl hl (by decide) rfl (fun ls hl => ?_)
  exact w_Courts_hasCaseOf_2 hc hr hR N hw (lv_sub hl [1, 2, 0] rfl) hf
theorem c_Courts_hasCaseOf {N : Nat}  {x1 : Int32} {rv : Int32} {σ : St} (hf : fCourts_hasCaseOf N x1 σ = some rv) : Ct l Z y_Courts_hasCaseOf prog_4_method_3_code 3 (some .boolean) (rmo (0)) [.ref (Z.1 + 80), .int x1] (cmb σ μ) (some (.int rv)) True (cmb σ μ) := by
  refine x_met (by decide) (Nat.le_of_ble_eq_true rfl) (fun p e s m args below meth c ls hc hr hw hl => ?_)
  exact w_Courts_hasCaseOf hc hr RO.self hw hl hf
theorem K_Courts_hasCaseOf {idx : Nat} {N : Nat}  {x1 : Int32} {rv : Int32} {σ : St} (hc : Cxz p s m meth c args cc own nL Z) (hw : Wd Z (cmb σ μ) s H locs) (hl : Cond.methodLink own idx y_Courts_hasCaseOf ∈ TB) (hf : fCourts_hasCaseOf N x1 σ = some rv) (hR : RO R ((0) + 1)) (hcs : cells ≤ R.cells ∧ slots ≤ R.slots) (hls : ls.size = nL) (hst : (rest.map fun v => v.category).sum ≤ 8) (hdg : decode cc pc = .ok (.invokevirtual idx, 3)) (kk : ∀ (H1 : Heap) (locs1 : List Loc), Wd Z (cmb σ μ) s H1 locs1 → True → W p l e R s m args below meth c H1 locs1 cells slots Q (F0 m (pc + 3) ls (.int rv :: rest))) : W p l e R s m args below meth c H locs cells slots Q (F0 m pc ls (.int x1 :: .ref (Z.1 + 80) :: rest)) :=
  x_iv hc hw (c_Courts_hasCaseOf hf) yv_Courts_hasCaseOf (Nat.le_of_ble_eq_true rfl) rfl rfl hl (RO.call hR (by decide)) hcs rfl hls hst hdg rfl kk
set_option maxRecDepth 10000 in
theorem w_Courts_nextOf_2 {N : Nat} (hc : Cxz p s m meth c args prog_4_method_5_code "LabourExchange$Courts" 5 Z) (hr : meth.sig.returnType = (some .int)) (hR : RO R 0) {rv : Int32} {σ : St} (n : Nat) : ∀ {x1 : Int32} {x2 : Int32} {x3 : Int32} {H : Heap} {locs : List Loc} {ls : Array Slot}, Wd Z (cmb σ μ) s H locs → lv_has ls 5 [(0, .ref (Z.1 + 80)), (1, .int x1), (2, .int x2), (3, .int x3)] → fCourts_nextOf_2 N n x1 x2 x3 σ = some rv → W p l e R s m args below meth c H locs 0 0 (MQ below (Qr Z (some (.int rv)) True (cmb σ μ)) args s 0 0 (fun q => Z.1 ≤ q)) (F0 m 2 ls []) := by
  have hx := hc.hx
  have hb := hc.hb
  induction n with
  | zero =>
    intro x1 x2 x3 H locs ls hw hl hf
    have hf : none = some _ := hf
    cases hf
  | succ n ih =>
    intro x1 x2 x3 H locs ls hw hl hf
    unfold fCourts_nextOf_2 at hf
    refine lv_iload_n hx hb (dq tk_Courts_nextOf 2 rfl) rfl (lv_at hl 3 rfl) ?_
    refine lv_aload_n hx hb (dq tk_Courts_nextOf 3 rfl) rfl (lv_at hl 0 rfl) ?_
    refine G_Courts_judges hc hw wd_374 (dq tk_Courts_nextOf 4 rfl) ?_
    refine lv_icmp_gt (tgt := 56) hx hb (dq tk_Courts_nextOf 5 rfl) (by decide) (fun c1 => ?_) (fun c1 => ?_)
    · replace hf := if_t hf c1
      refine lv_iconst (v := (-1)) hx hb (dq tk_Courts_nextOf 32 rfl) (by decide) ?_
      cases hf
      exact x_iret hc hw hr (dq tk_Courts_nextOf 33 rfl)
    · replace hf := if_f hf c1
      refine lv_aload_n hx hb (dq tk_Courts_nextOf 6 rfl) rfl (lv_at hl 0 rfl) ?_
      refine G_Courts_takenLast hc hw wd_376 (dq tk_Courts_nextOf 7 rfl) ?_
      refine lv_iload_n hx hb (dq tk_Courts_nextOf 8 rfl) rfl (lv_at hl 1 rfl) ?_
      obtain ⟨c2, hf⟩ := chk_some hf
      refine AL_Courts_takenLast hc hw c2 (dq tk_Courts_nextOf 9 rfl) ?_
      refine lv_iload_n hx hb (dq tk_Courts_nextOf 10 rfl) rfl (lv_at hl 3 rfl) ?_
      refine lv_iadd hx hb (dq tk_Courts_nextOf 11 rfl) ?_
      refine lv_aload_n hx hb (dq tk_Courts_nextOf 12 rfl) rfl (lv_at hl 0 rfl) ?_
      refine G_Courts_judges hc hw wd_374 (dq tk_Courts_nextOf 13 rfl) ?_
      obtain ⟨c3, hf⟩ := chk_some hf
      refine lv_irem hx hb (dq tk_Courts_nextOf 14 rfl) c3 ?_
      obtain ⟨y1, hy1, hf⟩ := nm_some hf
      refine tst (congrArg Value.int hy1) ?_
      refine lv_istore (lv' := [(4, .int y1), (0, .ref (Z.1 + 80)), (1, .int x1), (2, .int x2), (3, .int x3)]) hx hb (dq tk_Courts_nextOf 15 rfl) hl (by decide) rfl (fun ls hl => ?_)
      refine lv_aload_n hx hb (dq tk_Courts_nextOf 16 rfl) rfl (lv_at hl 1 rfl) ?_
      refine G_Courts_listOf hc hw wd_372 (dq tk_Courts_nextOf 17 rfl) ?_
      refine lv_iload hx hb (dq tk_Courts_nextOf 18 rfl) (lv_at hl 0 rfl) ?_
      obtain ⟨c4, hf⟩ := chk_some hf
      refine AL_Courts_listOf hc hw c4 (dq tk_Courts_nextOf 19 rfl) ?_
      refine lv_iload_n hx hb (dq tk_Courts_nextOf 20 rfl) rfl (lv_at hl 2 rfl) ?_
      refine lv_icmp_ne (tgt := 50) hx hb (dq tk_Courts_nextOf 21 rfl) (by decide) (fun c5 => ?_) (fun c5 => ?_)
      · replace hf := if_f hf c5
        refine lv_iinc (v := (x3 + 1)) (lv' := [(3, .int (x3 + 1)), (4, .int y1), (0, .ref (Z.1 + 80)), (1, .int x1), (2, .int x2)]) hx hb (dq tk_Courts_nextOf 30 rfl) hl (k := 4) rfl rfl (by decide) rfl (fun ls hl => ?_)
        refine lv_goto (tgt := 2) hx hb (dq tk_Courts_nextOf 31 rfl) (by decide) ?_
        exact ih hw (lv_sub hl [2, 3, 4, 0] rfl) hf
      · replace hf := if_t hf c5
        refine lv_aload_n hx hb (dq tk_Courts_nextOf 22 rfl) rfl (lv_at hl 1 rfl) ?_
        refine G_Courts_family hc hw wd_373 (dq tk_Courts_nextOf 23 rfl) ?_
        refine lv_iload hx hb (dq tk_Courts_nextOf 24 rfl) (lv_at hl 0 rfl) ?_
        refine AL_Courts_family hc hw c4 (dq tk_Courts_nextOf 25 rfl) ?_
        refine lv_iload_n hx hb (dq tk_Courts_nextOf 26 rfl) rfl (lv_at hl 3 rfl) ?_
        refine lv_icmp_eq (tgt := 50) hx hb (dq tk_Courts_nextOf 27 rfl) (by decide) (fun c6 => ?_) (fun c6 => ?_)
        · replace hf := if_t hf c6
          refine lv_iinc (v := (x3 + 1)) (lv' := [(3, .int (x3 + 1)), (4, .int y1), (0, .ref (Z.1 + 80)), (1, .int x1), (2, .int x2)]) hx hb (dq tk_Courts_nextOf 30 rfl) hl (k := 4) rfl rfl (by decide) rfl (fun ls hl => ?_)
          refine lv_goto (tgt := 2) hx hb (dq tk_Courts_nextOf 31 rfl) (by decide) ?_
          exact ih hw (lv_sub hl [2, 3, 4, 0] rfl) hf
        · replace hf := if_f hf c6
          refine lv_iload hx hb (dq tk_Courts_nextOf 28 rfl) (lv_at hl 0 rfl) ?_
          cases hf
          exact x_iret hc hw hr (dq tk_Courts_nextOf 29 rfl)
set_option maxRecDepth 10000 in
theorem w_Courts_nextOf {N : Nat} (hc : Cxz p s m meth c args prog_4_method_5_code "LabourExchange$Courts" 5 Z) (hr : meth.sig.returnType = (some .int)) (hR : RO R 0) {rv : Int32} {σ : St} : ∀ {x1 : Int32} {x2 : Int32} {H : Heap} {locs : List Loc} {ls : Array Slot}, Wd Z (cmb σ μ) s H locs → lv_has ls 5 [(0, .ref (Z.1 + 80)), (1, .int x1), (2, .int x2)] → fCourts_nextOf N x1 x2 σ = some rv → W p l e R s m args below meth c H locs 0 0 (MQ below (Qr Z (some (.int rv)) True (cmb σ μ)) args s 0 0 (fun q => Z.1 ≤ q)) (F0 m 0 ls []) := by
  have hx := hc.hx
  have hb := hc.hb
  intro x1 x2 H locs ls hw hl hf
  unfold fCourts_nextOf at hf
  refine lv_iconst (v := 1) hx hb (dq tk_Courts_nextOf 0 rfl) (by decide) ?_
  refine lv_istore_n (lv' := [(3, .int 1), (0, .ref (Z.1 + 80)), (1, .int x1), (2, .int x2)]) hx hb (dq tk_Courts_nextOf 1 rfl) rfl hl (by decide) rfl (fun ls hl => ?_)
  exact w_Courts_nextOf_2 hc hr hR N hw (lv_sub hl [1, 2, 3, 0] rfl) hf
theorem c_Courts_nextOf {N : Nat}  {x1 : Int32} {x2 : Int32} {rv : Int32} {σ : St} (hf : fCourts_nextOf N x1 x2 σ = some rv) : Ct l Z y_Courts_nextOf prog_4_method_5_code 5 (some .int) (rmo (0)) [.ref (Z.1 + 80), .int x1, .int x2] (cmb σ μ) (some (.int rv)) True (cmb σ μ) := by
  refine x_met (by decide) (Nat.le_of_ble_eq_true rfl) (fun p e s m args below meth c ls hc hr hw hl => ?_)
  exact w_Courts_nextOf hc hr RO.self hw hl hf
theorem K_Courts_nextOf {idx : Nat} {N : Nat}  {x1 : Int32} {x2 : Int32} {rv : Int32} {σ : St} (hc : Cxz p s m meth c args cc own nL Z) (hw : Wd Z (cmb σ μ) s H locs) (hl : Cond.methodLink own idx y_Courts_nextOf ∈ TB) (hf : fCourts_nextOf N x1 x2 σ = some rv) (hR : RO R ((0) + 1)) (hcs : cells ≤ R.cells ∧ slots ≤ R.slots) (hls : ls.size = nL) (hst : (rest.map fun v => v.category).sum ≤ 8) (hdg : decode cc pc = .ok (.invokevirtual idx, 3)) (kk : ∀ (H1 : Heap) (locs1 : List Loc), Wd Z (cmb σ μ) s H1 locs1 → True → W p l e R s m args below meth c H1 locs1 cells slots Q (F0 m (pc + 3) ls (.int rv :: rest))) : W p l e R s m args below meth c H locs cells slots Q (F0 m pc ls (.int x2 :: .int x1 :: .ref (Z.1 + 80) :: rest)) :=
  x_iv hc hw (c_Courts_nextOf hf) yv_Courts_nextOf (Nat.le_of_ble_eq_true rfl) rfl rfl hl (RO.call hR (by decide)) hcs rfl hls hst hdg rfl kk
set_option maxRecDepth 10000 in
theorem w_Courts_open_3 {N : Nat} (hc : Cxz p s m meth c args prog_4_method_4_code "LabourExchange$Courts" 6 Z) (hr : meth.sig.returnType = (some .int)) (hR : RO R 4) {rv : Int32} {σ' : St} (n : Nat) : ∀ {x1 : Int32} {x2 : Int32} {x3 : Int32} {x4 : Int32} {σ : St} {H : Heap} {locs : List Loc} {ls : Array Slot}, Wd Z (cmb σ μ) s H locs → lv_has ls 6 [(0, .ref (Z.1 + 80)), (1, .int x1), (2, .int x2), (3, .int x3), (4, .int x4)] → fCourts_open_3 N n x1 x2 x3 x4 σ = some (rv, σ') → W p l e R s m args below meth c H locs 0 0 (MQ below (Qr Z (some (.int rv)) True (cmb σ' μ)) args s 0 0 (fun q => Z.1 ≤ q)) (F0 m 3 ls []) := by
  have hx := hc.hx
  have hb := hc.hb
  induction n with
  | zero =>
    intro x1 x2 x3 x4 σ H locs ls hw hl hf
    have hf : none = some _ := hf
    cases hf
  | succ n ih =>
    intro x1 x2 x3 x4 σ H locs ls hw hl hf
    unfold fCourts_open_3 at hf
    refine lv_iload hx hb (dq tk_Courts_open 2 rfl) (lv_at hl 4 rfl) ?_
    refine lv_iconst (v := 3) hx hb (dq tk_Courts_open 3 rfl) (by decide) ?_
    refine lv_icmp_ge (tgt := 48) hx hb (dq tk_Courts_open 4 rfl) (by decide) (fun c1 => ?_) (fun c1 => ?_)
    · replace hf := if_t hf c1
      refine lv_aload_n hx hb (dq tk_Courts_open 27 rfl) rfl (lv_at hl 0 rfl) ?_
      refine G_Courts_bench hc hw wd_381 (dq tk_Courts_open 28 rfl) ?_
      refine lv_aload_n hx hb (dq tk_Courts_open 29 rfl) rfl (lv_at hl 0 rfl) ?_
      refine G_Courts_cases hc hw wd_387 (dq tk_Courts_open 30 rfl) ?_
      refine lv_iconst (v := 3) hx hb (dq tk_Courts_open 31 rfl) (by decide) ?_
      refine lv_imul hx hb (dq tk_Courts_open 32 rfl) ?_
      refine lv_aload_n hx hb (dq tk_Courts_open 33 rfl) rfl (lv_at hl 0 rfl) ?_
      refine G_Courts_takenLast hc hw wd_376 (dq tk_Courts_open 34 rfl) ?_
      refine lv_iconst (v := 0) hx hb (dq tk_Courts_open 35 rfl) (by decide) ?_
      refine lv_iconst (v := 3) hx hb (dq tk_Courts_open 36 rfl) (by decide) ?_
      obtain ⟨c2, hf⟩ := chk_some hf
      obtain ⟨σ1, hσ1, hf⟩ := nm_some hf
      refine CP_Courts hc hw c2 hσ1 (hR.mono (by decide)) hl.1 (dq tk_Courts_open 37 rfl) (fun H locs hw => ?_)
      refine lv_aload_n hx hb (dq tk_Courts_open 38 rfl) rfl (lv_at hl 0 rfl) ?_
      refine G_Courts_event hc hw wd_377 (dq tk_Courts_open 39 rfl) ?_
      refine lv_aload_n hx hb (dq tk_Courts_open 40 rfl) rfl (lv_at hl 0 rfl) ?_
      refine G_Courts_cases hc hw wd_387 (dq tk_Courts_open 41 rfl) ?_
      refine lv_iload_n hx hb (dq tk_Courts_open 42 rfl) rfl (lv_at hl 1 rfl) ?_
      obtain ⟨c3, hf⟩ := chk_some hf
      obtain ⟨σ2, hσ2, hf⟩ := nm_some hf
      refine AS_Courts_event hc hw c3 hσ2 (dq tk_Courts_open 43 rfl) (fun H locs hw => ?_)
      refine lv_aload_n hx hb (dq tk_Courts_open 44 rfl) rfl (lv_at hl 0 rfl) ?_
      refine G_Courts_came hc hw wd_379 (dq tk_Courts_open 45 rfl) ?_
      refine lv_aload_n hx hb (dq tk_Courts_open 46 rfl) rfl (lv_at hl 0 rfl) ?_
      refine G_Courts_cases hc hw wd_387 (dq tk_Courts_open 47 rfl) ?_
      refine lv_iload_n hx hb (dq tk_Courts_open 48 rfl) rfl (lv_at hl 3 rfl) ?_
      obtain ⟨c4, hf⟩ := chk_some hf
      obtain ⟨σ3, hσ3, hf⟩ := nm_some hf
      refine AS_Courts_came hc hw c4 hσ3 (dq tk_Courts_open 49 rfl) (fun H locs hw => ?_)
      refine lv_aload_n hx hb (dq tk_Courts_open 50 rfl) rfl (lv_at hl 0 rfl) ?_
      refine G_Courts_closed hc hw wd_383 (dq tk_Courts_open 51 rfl) ?_
      refine lv_aload_n hx hb (dq tk_Courts_open 52 rfl) rfl (lv_at hl 0 rfl) ?_
      refine G_Courts_cases hc hw wd_387 (dq tk_Courts_open 53 rfl) ?_
      refine lv_iconst (v := (-1)) hx hb (dq tk_Courts_open 54 rfl) (by decide) ?_
      obtain ⟨c5, hf⟩ := chk_some hf
      obtain ⟨σ4, hσ4, hf⟩ := nm_some hf
      refine AS_Courts_closed hc hw c5 hσ4 (dq tk_Courts_open 55 rfl) (fun H locs hw => ?_)
      refine lv_aload_n hx hb (dq tk_Courts_open 56 rfl) rfl (lv_at hl 0 rfl) ?_
      refine lv_dup hx hb (dq tk_Courts_open 57 rfl) rfl ?_
      refine G_Courts_cases hc hw wd_387 (dq tk_Courts_open 58 rfl) ?_
      refine lv_iconst (v := 1) hx hb (dq tk_Courts_open 59 rfl) (by decide) ?_
      refine lv_iadd hx hb (dq tk_Courts_open 60 rfl) ?_
      obtain ⟨σ5, hσ5, hf⟩ := nm_some hf
      refine P_Courts_cases hc hw wd_387 hσ5 (dq tk_Courts_open 61 rfl) (fun H locs hw => ?_)
      refine lv_aload_n hx hb (dq tk_Courts_open 62 rfl) rfl (lv_at hl 0 rfl) ?_
      refine G_Courts_cases hc hw wd_387 (dq tk_Courts_open 63 rfl) ?_
      refine lv_iconst (v := 1) hx hb (dq tk_Courts_open 64 rfl) (by decide) ?_
      refine lv_isub hx hb (dq tk_Courts_open 65 rfl) ?_
      cases hf
      exact x_iret hc hw hr (dq tk_Courts_open 66 rfl)
    · replace hf := if_f hf c1
      refine lv_aload_n hx hb (dq tk_Courts_open 5 rfl) rfl (lv_at hl 0 rfl) ?_
      refine lv_iload hx hb (dq tk_Courts_open 6 rfl) (lv_at hl 4 rfl) ?_
      refine lv_iload_n hx hb (dq tk_Courts_open 7 rfl) rfl (lv_at hl 2 rfl) ?_
      obtain ⟨r6, h8, hf⟩ := bn1_someZ hf
      refine K_Courts_nextOf hc hw wd_1548 h8 (hR.mono (by decide)) ⟨Nat.zero_le _, Nat.zero_le _⟩ hl.1 (Nat.le_of_ble_eq_true rfl) (dq tk_Courts_open 8 rfl) (fun H locs hw _ => ?_)
      refine lv_istore (lv' := [(5, .int r6), (0, .ref (Z.1 + 80)), (1, .int x1), (2, .int x2), (3, .int x3), (4, .int x4)]) hx hb (dq tk_Courts_open 9 rfl) hl (by decide) rfl (fun ls hl => ?_)
      refine lv_iload hx hb (dq tk_Courts_open 10 rfl) (lv_at hl 0 rfl) ?_
      refine lv_iconst (v := (-1)) hx hb (dq tk_Courts_open 11 rfl) (by decide) ?_
      refine lv_icmp_ne (tgt := 26) hx hb (dq tk_Courts_open 12 rfl) (by decide) (fun c6 => ?_) (fun c6 => ?_)
      · replace hf := if_f hf c6
        refine lv_aload_n hx hb (dq tk_Courts_open 15 rfl) rfl (lv_at hl 1 rfl) ?_
        refine G_Courts_bench hc hw wd_381 (dq tk_Courts_open 16 rfl) ?_
        refine lv_aload_n hx hb (dq tk_Courts_open 17 rfl) rfl (lv_at hl 1 rfl) ?_
        refine G_Courts_cases hc hw wd_387 (dq tk_Courts_open 18 rfl) ?_
        refine lv_iconst (v := 3) hx hb (dq tk_Courts_open 19 rfl) (by decide) ?_
        refine lv_imul hx hb (dq tk_Courts_open 20 rfl) ?_
        refine lv_iload hx hb (dq tk_Courts_open 21 rfl) (lv_at hl 5 rfl) ?_
        refine lv_iadd hx hb (dq tk_Courts_open 22 rfl) ?_
        refine lv_iload hx hb (dq tk_Courts_open 23 rfl) (lv_at hl 0 rfl) ?_
        obtain ⟨c7, hf⟩ := chk_some hf
        obtain ⟨σ7, hσ7, hf⟩ := nm_some hf
        refine AS_Courts_bench hc hw c7 hσ7 (dq tk_Courts_open 24 rfl) (fun H locs hw => ?_)
        refine lv_iinc (v := (x4 + 1)) (lv' := [(4, .int (x4 + 1)), (5, .int r6), (0, .ref (Z.1 + 80)), (1, .int x1), (2, .int x2), (3, .int x3)]) hx hb (dq tk_Courts_open 25 rfl) hl (k := 5) rfl rfl (by decide) rfl (fun ls hl => ?_)
        refine lv_goto (tgt := 3) hx hb (dq tk_Courts_open 26 rfl) (by decide) ?_
        exact ih hw (lv_sub hl [2, 3, 4, 5, 0] rfl) hf
      · replace hf := if_t hf c6
        refine lv_iconst (v := (-1)) hx hb (dq tk_Courts_open 13 rfl) (by decide) ?_
        cases hf
        exact x_iret hc hw hr (dq tk_Courts_open 14 rfl)
set_option maxRecDepth 10000 in
theorem w_Courts_open {N : Nat} (hc : Cxz p s m meth c args prog_4_method_4_code "LabourExchange$Courts" 6 Z) (hr : meth.sig.returnType = (some .int)) (hR : RO R 4) {rv : Int32} {σ' : St} : ∀ {x1 : Int32} {x2 : Int32} {x3 : Int32} {σ : St} {H : Heap} {locs : List Loc} {ls : Array Slot}, Wd Z (cmb σ μ) s H locs → lv_has ls 6 [(0, .ref (Z.1 + 80)), (1, .int x1), (2, .int x2), (3, .int x3)] → fCourts_open N x1 x2 x3 σ = some (rv, σ') → W p l e R s m args below meth c H locs 0 0 (MQ below (Qr Z (some (.int rv)) True (cmb σ' μ)) args s 0 0 (fun q => Z.1 ≤ q)) (F0 m 0 ls []) := by
  have hx := hc.hx
  have hb := hc.hb
  intro x1 x2 x3 σ H locs ls hw hl hf
  unfold fCourts_open at hf
  refine lv_iconst (v := 0) hx hb (dq tk_Courts_open 0 rfl) (by decide) ?_
  refine lv_istore (lv' := [(4, .int 0), (0, .ref (Z.1 + 80)), (1, .int x1), (2, .int x2), (3, .int x3)]) hx hb (dq tk_Courts_open 1 rfl) hl (by decide) rfl (fun ls hl => ?_)
  exact w_Courts_open_3 hc hr hR N hw (lv_sub hl [1, 2, 3, 4, 0] rfl) hf
theorem c_Courts_open {N : Nat}  {x1 : Int32} {x2 : Int32} {x3 : Int32} {rv : Int32} {σ' : St} {σ : St} (hf : fCourts_open N x1 x2 x3 σ = some (rv, σ')) : Ct l Z y_Courts_open prog_4_method_4_code 6 (some .int) (rmo (4)) [.ref (Z.1 + 80), .int x1, .int x2, .int x3] (cmb σ μ) (some (.int rv)) True (cmb σ' μ) := by
  refine x_met (by decide) (Nat.le_of_ble_eq_true rfl) (fun p e s m args below meth c ls hc hr hw hl => ?_)
  exact w_Courts_open hc hr RO.self hw hl hf
theorem K_Courts_open {idx : Nat} {N : Nat}  {x1 : Int32} {x2 : Int32} {x3 : Int32} {rv : Int32} {σ' : St} {σ : St} (hc : Cxz p s m meth c args cc own nL Z) (hw : Wd Z (cmb σ μ) s H locs) (hl : Cond.methodLink own idx y_Courts_open ∈ TB) (hf : fCourts_open N x1 x2 x3 σ = some (rv, σ')) (hR : RO R ((4) + 1)) (hcs : cells ≤ R.cells ∧ slots ≤ R.slots) (hls : ls.size = nL) (hst : (rest.map fun v => v.category).sum ≤ 8) (hdg : decode cc pc = .ok (.invokevirtual idx, 3)) (kk : ∀ (H1 : Heap) (locs1 : List Loc), Wd Z (cmb σ' μ) s H1 locs1 → True → W p l e R s m args below meth c H1 locs1 cells slots Q (F0 m (pc + 3) ls (.int rv :: rest))) : W p l e R s m args below meth c H locs cells slots Q (F0 m pc ls (.int x3 :: .int x2 :: .int x1 :: .ref (Z.1 + 80) :: rest)) :=
  x_iv hc hw (c_Courts_open hf) yv_Courts_open (Nat.le_of_ble_eq_true rfl) rfl rfl hl (RO.call hR (by decide)) hcs rfl hls hst hdg rfl kk
set_option maxRecDepth 10000 in
theorem w_Arrays_fill_X_more_5 {N : Nat} (hc : Cxz p s m meth c args prog_29_method_103_code "java/util/Arrays" 4 Z) (hr : meth.sig.returnType = none) (hR : RO R 0) {σ' : St} (n : Nat) : ∀ {x1 : Int32} {x2 : Int32} {x3 : Int32} {σ : St} {H : Heap} {locs : List Loc} {ls : Array Slot}, Wd Z (cmb σ μ) s H locs → lv_has ls 4 [(0, .ref (Z.1 + 89)), (1, .int x1), (2, .int x2), (3, .int x3)] → fArrays_fill_X_more_5 N n x1 x2 x3 σ = some σ' → W p l e R s m args below meth c H locs 0 0 (MQ below (Qr Z none True (cmb σ' μ)) args s 0 0 (fun q => Z.1 ≤ q)) (F0 m 5 ls []) := by
  have hx := hc.hx
  have hb := hc.hb
  induction n with
  | zero =>
    intro x1 x2 x3 σ H locs ls hw hl hf
    have hf : none = some _ := hf
    cases hf
  | succ n ih =>
    intro x1 x2 x3 σ H locs ls hw hl hf
    unfold fArrays_fill_X_more_5 at hf
    refine lv_iload_n hx hb (dq tk_Arrays_fill_I 5 rfl) rfl (lv_at hl 2 rfl) ?_
    refine lv_iload_n hx hb (dq tk_Arrays_fill_I 6 rfl) rfl (lv_at hl 3 rfl) ?_
    refine lv_icmp_ge (tgt := 20) hx hb (dq tk_Arrays_fill_I 7 rfl) (by decide) (fun c1 => ?_) (fun c1 => ?_)
    · replace hf := if_t hf c1
      cases hf
      exact x_vret hc hw hr (dq tk_Arrays_fill_I 14 rfl)
    · replace hf := if_f hf c1
      refine lv_aload_n hx hb (dq tk_Arrays_fill_I 8 rfl) rfl (lv_at hl 0 rfl) ?_
      refine lv_iload_n hx hb (dq tk_Arrays_fill_I 9 rfl) rfl (lv_at hl 2 rfl) ?_
      refine lv_iload_n hx hb (dq tk_Arrays_fill_I 10 rfl) rfl (lv_at hl 1 rfl) ?_
      obtain ⟨c2, hf⟩ := chk_some hf
      obtain ⟨σ1, hσ1, hf⟩ := nm_some hf
      refine AS_X_more hc hw c2 hσ1 (dq tk_Arrays_fill_I 11 rfl) (fun H locs hw => ?_)
      refine lv_iinc (v := (x2 + 1)) (lv' := [(2, .int (x2 + 1)), (0, .ref (Z.1 + 89)), (1, .int x1), (3, .int x3)]) hx hb (dq tk_Arrays_fill_I 12 rfl) hl (k := 2) rfl rfl (by decide) rfl (fun ls hl => ?_)
      refine lv_goto (tgt := 5) hx hb (dq tk_Arrays_fill_I 13 rfl) (by decide) ?_
      exact ih hw (lv_sub hl [1, 2, 0, 3] rfl) hf
set_option maxRecDepth 10000 in
theorem w_Arrays_fill_X_more {N : Nat} (hc : Cxz p s m meth c args prog_29_method_103_code "java/util/Arrays" 4 Z) (hr : meth.sig.returnType = none) (hR : RO R 0) {σ' : St} : ∀ {x1 : Int32} {σ : St} {H : Heap} {locs : List Loc} {ls : Array Slot}, Wd Z (cmb σ μ) s H locs → lv_has ls 4 [(0, .ref (Z.1 + 89)), (1, .int x1)] → fArrays_fill_X_more N x1 σ = some σ' → W p l e R s m args below meth c H locs 0 0 (MQ below (Qr Z none True (cmb σ' μ)) args s 0 0 (fun q => Z.1 ≤ q)) (F0 m 0 ls []) := by
  have hx := hc.hx
  have hb := hc.hb
  intro x1 σ H locs ls hw hl hf
  unfold fArrays_fill_X_more at hf
  refine lv_iconst (v := 0) hx hb (dq tk_Arrays_fill_I 0 rfl) (by decide) ?_
  refine lv_istore_n (lv' := [(2, .int 0), (0, .ref (Z.1 + 89)), (1, .int x1)]) hx hb (dq tk_Arrays_fill_I 1 rfl) rfl hl (by decide) rfl (fun ls hl => ?_)
  refine lv_aload_n hx hb (dq tk_Arrays_fill_I 2 rfl) rfl (lv_at hl 1 rfl) ?_
  refine LN_X_more hc hw (dq tk_Arrays_fill_I 3 rfl) ?_
  refine lv_istore_n (lv' := [(3, .int 27), (2, .int 0), (0, .ref (Z.1 + 89)), (1, .int x1)]) hx hb (dq tk_Arrays_fill_I 4 rfl) rfl hl (by decide) rfl (fun ls hl => ?_)
  exact w_Arrays_fill_X_more_5 hc hr hR N hw (lv_sub hl [2, 3, 1, 0] rfl) hf
theorem c_Arrays_fill_X_more {N : Nat}  {x1 : Int32} {σ' : St} {σ : St} (hf : fArrays_fill_X_more N x1 σ = some σ') : Ct l Z y_Arrays_fill_I prog_29_method_103_code 4 none (rmo (0)) [.ref (Z.1 + 89), .int x1] (cmb σ μ) none True (cmb σ' μ) := by
  refine x_met (by decide) (Nat.le_of_ble_eq_true rfl) (fun p e s m args below meth c ls hc hr hw hl => ?_)
  exact w_Arrays_fill_X_more hc hr RO.self hw hl hf
theorem K_Arrays_fill_X_more {idx : Nat} {N : Nat}  {x1 : Int32} {σ' : St} {σ : St} (hc : Cxz p s m meth c args cc own nL Z) (hw : Wd Z (cmb σ μ) s H locs) (hl : Cond.methodLink own idx y_Arrays_fill_I ∈ TB) (hf : fArrays_fill_X_more N x1 σ = some σ') (hR : RO R ((0) + 1)) (hcs : cells ≤ R.cells ∧ slots ≤ R.slots) (hls : ls.size = nL) (hst : (rest.map fun v => v.category).sum ≤ 8) (hdg : decode cc pc = .ok (.invokestatic idx, 3)) (kk : ∀ (H1 : Heap) (locs1 : List Loc), Wd Z (cmb σ' μ) s H1 locs1 → True → W p l e R s m args below meth c H1 locs1 cells slots Q (F0 m (pc + 3) ls rest)) : W p l e R s m args below meth c H locs cells slots Q (F0 m pc ls (.int x1 :: .ref (Z.1 + 89) :: rest)) :=
  x_is hc hw (c_Arrays_fill_X_more hf) ys_Arrays_fill_I hl (RO.call hR (by decide)) hcs rfl hls hst hdg rfl kk
set_option maxRecDepth 10000 in
theorem w_Land_addOffice {N : Nat} (hc : Cxz p s m meth c args prog_6_method_2_code "LabourExchange$Land" 3 Z) (hr : meth.sig.returnType = (some .int)) (hR : RO R 0) {rv : Int32} {σ' : St} : ∀ {x1 : Int32} {x2 : Int32} {σ : St} {H : Heap} {locs : List Loc} {ls : Array Slot}, Wd Z (cmb σ μ) s H locs → lv_has ls 3 [(0, .ref (Z.1 + 3)), (1, .int x1), (2, .int x2)] → fLand_addOffice N x1 x2 σ = some (rv, σ') → W p l e R s m args below meth c H locs 0 0 (MQ below (Qr Z (some (.int rv)) True (cmb σ' μ)) args s 0 0 (fun q => Z.1 ≤ q)) (F0 m 0 ls []) := by
  have hx := hc.hx
  have hb := hc.hb
  intro x1 x2 σ H locs ls hw hl hf
  unfold fLand_addOffice at hf
  refine lv_aload_n hx hb (dq tk_Land_addOffice 0 rfl) rfl (lv_at hl 0 rfl) ?_
  refine G_Land_x hc hw wd_87 (dq tk_Land_addOffice 1 rfl) ?_
  refine lv_aload_n hx hb (dq tk_Land_addOffice 2 rfl) rfl (lv_at hl 0 rfl) ?_
  refine G_Land_offices hc hw wd_90 (dq tk_Land_addOffice 3 rfl) ?_
  refine lv_iload_n hx hb (dq tk_Land_addOffice 4 rfl) rfl (lv_at hl 1 rfl) ?_
  obtain ⟨c1, hf⟩ := chk_some hf
  obtain ⟨σ1, hσ1, hf⟩ := nm_some hf
  refine AS_Land_x hc hw c1 hσ1 (dq tk_Land_addOffice 5 rfl) (fun H locs hw => ?_)
  refine lv_aload_n hx hb (dq tk_Land_addOffice 6 rfl) rfl (lv_at hl 0 rfl) ?_
  refine G_Land_y hc hw wd_88 (dq tk_Land_addOffice 7 rfl) ?_
  refine lv_aload_n hx hb (dq tk_Land_addOffice 8 rfl) rfl (lv_at hl 0 rfl) ?_
  refine G_Land_offices hc hw wd_90 (dq tk_Land_addOffice 9 rfl) ?_
  refine lv_iload_n hx hb (dq tk_Land_addOffice 10 rfl) rfl (lv_at hl 2 rfl) ?_
  obtain ⟨c2, hf⟩ := chk_some hf
  obtain ⟨σ2, hσ2, hf⟩ := nm_some hf
  refine AS_Land_y hc hw c2 hσ2 (dq tk_Land_addOffice 11 rfl) (fun H locs hw => ?_)
  refine lv_aload_n hx hb (dq tk_Land_addOffice 12 rfl) rfl (lv_at hl 0 rfl) ?_
  refine lv_dup hx hb (dq tk_Land_addOffice 13 rfl) rfl ?_
  refine G_Land_offices hc hw wd_90 (dq tk_Land_addOffice 14 rfl) ?_
  refine lv_iconst (v := 1) hx hb (dq tk_Land_addOffice 15 rfl) (by decide) ?_
  refine lv_iadd hx hb (dq tk_Land_addOffice 16 rfl) ?_
  obtain ⟨σ3, hσ3, hf⟩ := nm_some hf
  refine P_Land_offices hc hw wd_90 hσ3 (dq tk_Land_addOffice 17 rfl) (fun H locs hw => ?_)
  refine lv_aload_n hx hb (dq tk_Land_addOffice 18 rfl) rfl (lv_at hl 0 rfl) ?_
  refine G_Land_offices hc hw wd_90 (dq tk_Land_addOffice 19 rfl) ?_
  refine lv_iconst (v := 1) hx hb (dq tk_Land_addOffice 20 rfl) (by decide) ?_
  refine lv_isub hx hb (dq tk_Land_addOffice 21 rfl) ?_
  cases hf
  exact x_iret hc hw hr (dq tk_Land_addOffice 22 rfl)
theorem c_Land_addOffice {N : Nat}  {x1 : Int32} {x2 : Int32} {rv : Int32} {σ' : St} {σ : St} (hf : fLand_addOffice N x1 x2 σ = some (rv, σ')) : Ct l Z y_Land_addOffice prog_6_method_2_code 3 (some .int) (rmo (0)) [.ref (Z.1 + 3), .int x1, .int x2] (cmb σ μ) (some (.int rv)) True (cmb σ' μ) := by
  refine x_met (by decide) (Nat.le_of_ble_eq_true rfl) (fun p e s m args below meth c ls hc hr hw hl => ?_)
  exact w_Land_addOffice hc hr RO.self hw hl hf
theorem K_Land_addOffice {idx : Nat} {N : Nat}  {x1 : Int32} {x2 : Int32} {rv : Int32} {σ' : St} {σ : St} (hc : Cxz p s m meth c args cc own nL Z) (hw : Wd Z (cmb σ μ) s H locs) (hl : Cond.methodLink own idx y_Land_addOffice ∈ TB) (hf : fLand_addOffice N x1 x2 σ = some (rv, σ')) (hR : RO R ((0) + 1)) (hcs : cells ≤ R.cells ∧ slots ≤ R.slots) (hls : ls.size = nL) (hst : (rest.map fun v => v.category).sum ≤ 8) (hdg : decode cc pc = .ok (.invokevirtual idx, 3)) (kk : ∀ (H1 : Heap) (locs1 : List Loc), Wd Z (cmb σ' μ) s H1 locs1 → True → W p l e R s m args below meth c H1 locs1 cells slots Q (F0 m (pc + 3) ls (.int rv :: rest))) : W p l e R s m args below meth c H locs cells slots Q (F0 m pc ls (.int x2 :: .int x1 :: .ref (Z.1 + 3) :: rest)) :=
  x_iv hc hw (c_Land_addOffice hf) yv_Land_addOffice (Nat.le_of_ble_eq_true rfl) rfl rfl hl (RO.call hR (by decide)) hcs rfl hls hst hdg rfl kk
set_option maxRecDepth 10000 in
theorem w_Land_addPerson {N : Nat} (hc : Cxz p s m meth c args prog_6_method_3_code "LabourExchange$Land" 6 Z) (hr : meth.sig.returnType = (some .int)) (hR : RO R 0) {rv : Int32} {σ' : St} : ∀ {x1 : Int32} {x2 : Int32} {x3 : Int32} {x4 : Int32} {x5 : Int32} {σ : St} {H : Heap} {locs : List Loc} {ls : Array Slot}, Wd Z (cmb σ μ) s H locs → lv_has ls 6 [(0, .ref (Z.1 + 3)), (1, .int x1), (2, .int x2), (3, .int x3), (4, .int x4), (5, .int x5)] → fLand_addPerson N x1 x2 x3 x4 x5 σ = some (rv, σ') → W p l e R s m args below meth c H locs 0 0 (MQ below (Qr Z (some (.int rv)) True (cmb σ' μ)) args s 0 0 (fun q => Z.1 ≤ q)) (F0 m 0 ls []) := by
  have hx := hc.hx
  have hb := hc.hb
  intro x1 x2 x3 x4 x5 σ H locs ls hw hl hf
  unfold fLand_addPerson at hf
  refine lv_aload_n hx hb (dq tk_Land_addPerson 0 rfl) rfl (lv_at hl 0 rfl) ?_
  refine G_Land_trade hc hw wd_91 (dq tk_Land_addPerson 1 rfl) ?_
  refine lv_aload_n hx hb (dq tk_Land_addPerson 2 rfl) rfl (lv_at hl 0 rfl) ?_
  refine G_Land_people hc hw wd_104 (dq tk_Land_addPerson 3 rfl) ?_
  refine lv_iload_n hx hb (dq tk_Land_addPerson 4 rfl) rfl (lv_at hl 1 rfl) ?_
  obtain ⟨c1, hf⟩ := chk_some hf
  obtain ⟨σ1, hσ1, hf⟩ := nm_some hf
  refine AS_Land_trade hc hw c1 hσ1 (dq tk_Land_addPerson 5 rfl) (fun H locs hw => ?_)
  refine lv_aload_n hx hb (dq tk_Land_addPerson 6 rfl) rfl (lv_at hl 0 rfl) ?_
  refine G_Land_age hc hw wd_95 (dq tk_Land_addPerson 7 rfl) ?_
  refine lv_aload_n hx hb (dq tk_Land_addPerson 8 rfl) rfl (lv_at hl 0 rfl) ?_
  refine G_Land_people hc hw wd_104 (dq tk_Land_addPerson 9 rfl) ?_
  refine lv_iload_n hx hb (dq tk_Land_addPerson 10 rfl) rfl (lv_at hl 2 rfl) ?_
  obtain ⟨c2, hf⟩ := chk_some hf
  obtain ⟨σ2, hσ2, hf⟩ := nm_some hf
  refine AS_Land_age hc hw c2 hσ2 (dq tk_Land_addPerson 11 rfl) (fun H locs hw => ?_)
  refine lv_aload_n hx hb (dq tk_Land_addPerson 12 rfl) rfl (lv_at hl 0 rfl) ?_
  refine G_Land_office hc hw wd_97 (dq tk_Land_addPerson 13 rfl) ?_
  refine lv_aload_n hx hb (dq tk_Land_addPerson 14 rfl) rfl (lv_at hl 0 rfl) ?_
  refine G_Land_people hc hw wd_104 (dq tk_Land_addPerson 15 rfl) ?_
  refine lv_iload_n hx hb (dq tk_Land_addPerson 16 rfl) rfl (lv_at hl 3 rfl) ?_
  obtain ⟨c3, hf⟩ := chk_some hf
  obtain ⟨σ3, hσ3, hf⟩ := nm_some hf
  refine AS_Land_office hc hw c3 hσ3 (dq tk_Land_addPerson 17 rfl) (fun H locs hw => ?_)
  refine lv_aload_n hx hb (dq tk_Land_addPerson 18 rfl) rfl (lv_at hl 0 rfl) ?_
  refine G_Land_wage hc hw wd_99 (dq tk_Land_addPerson 19 rfl) ?_
  refine lv_aload_n hx hb (dq tk_Land_addPerson 20 rfl) rfl (lv_at hl 0 rfl) ?_
  refine G_Land_people hc hw wd_104 (dq tk_Land_addPerson 21 rfl) ?_
  refine lv_iload hx hb (dq tk_Land_addPerson 22 rfl) (lv_at hl 4 rfl) ?_
  obtain ⟨c4, hf⟩ := chk_some hf
  obtain ⟨σ4, hσ4, hf⟩ := nm_some hf
  refine AS_Land_wage hc hw c4 hσ4 (dq tk_Land_addPerson 23 rfl) (fun H locs hw => ?_)
  refine lv_aload_n hx hb (dq tk_Land_addPerson 24 rfl) rfl (lv_at hl 0 rfl) ?_
  refine G_Land_family hc hw wd_101 (dq tk_Land_addPerson 25 rfl) ?_
  refine lv_aload_n hx hb (dq tk_Land_addPerson 26 rfl) rfl (lv_at hl 0 rfl) ?_
  refine G_Land_people hc hw wd_104 (dq tk_Land_addPerson 27 rfl) ?_
  refine lv_iload hx hb (dq tk_Land_addPerson 28 rfl) (lv_at hl 5 rfl) ?_
  obtain ⟨c5, hf⟩ := chk_some hf
  obtain ⟨σ5, hσ5, hf⟩ := nm_some hf
  refine AS_Land_family hc hw c5 hσ5 (dq tk_Land_addPerson 29 rfl) (fun H locs hw => ?_)
  refine lv_aload_n hx hb (dq tk_Land_addPerson 30 rfl) rfl (lv_at hl 0 rfl) ?_
  refine lv_dup hx hb (dq tk_Land_addPerson 31 rfl) rfl ?_
  refine G_Land_people hc hw wd_104 (dq tk_Land_addPerson 32 rfl) ?_
  refine lv_iconst (v := 1) hx hb (dq tk_Land_addPerson 33 rfl) (by decide) ?_
  refine lv_iadd hx hb (dq tk_Land_addPerson 34 rfl) ?_
  obtain ⟨σ6, hσ6, hf⟩ := nm_some hf
  refine P_Land_people hc hw wd_104 hσ6 (dq tk_Land_addPerson 35 rfl) (fun H locs hw => ?_)
  refine lv_aload_n hx hb (dq tk_Land_addPerson 36 rfl) rfl (lv_at hl 0 rfl) ?_
  refine G_Land_people hc hw wd_104 (dq tk_Land_addPerson 37 rfl) ?_
  refine lv_iconst (v := 1) hx hb (dq tk_Land_addPerson 38 rfl) (by decide) ?_
  refine lv_isub hx hb (dq tk_Land_addPerson 39 rfl) ?_
  cases hf
  exact x_iret hc hw hr (dq tk_Land_addPerson 40 rfl)
theorem c_Land_addPerson {N : Nat}  {x1 : Int32} {x2 : Int32} {x3 : Int32} {x4 : Int32} {x5 : Int32} {rv : Int32} {σ' : St} {σ : St} (hf : fLand_addPerson N x1 x2 x3 x4 x5 σ = some (rv, σ')) : Ct l Z y_Land_addPerson prog_6_method_3_code 6 (some .int) (rmo (0)) [.ref (Z.1 + 3), .int x1, .int x2, .int x3, .int x4, .int x5] (cmb σ μ) (some (.int rv)) True (cmb σ' μ) := by
  refine x_met (by decide) (Nat.le_of_ble_eq_true rfl) (fun p e s m args below meth c ls hc hr hw hl => ?_)
  exact w_Land_addPerson hc hr RO.self hw hl hf
theorem K_Land_addPerson {idx : Nat} {N : Nat}  {x1 : Int32} {x2 : Int32} {x3 : Int32} {x4 : Int32} {x5 : Int32} {rv : Int32} {σ' : St} {σ : St} (hc : Cxz p s m meth c args cc own nL Z) (hw : Wd Z (cmb σ μ) s H locs) (hl : Cond.methodLink own idx y_Land_addPerson ∈ TB) (hf : fLand_addPerson N x1 x2 x3 x4 x5 σ = some (rv, σ')) (hR : RO R ((0) + 1)) (hcs : cells ≤ R.cells ∧ slots ≤ R.slots) (hls : ls.size = nL) (hst : (rest.map fun v => v.category).sum ≤ 8) (hdg : decode cc pc = .ok (.invokevirtual idx, 3)) (kk : ∀ (H1 : Heap) (locs1 : List Loc), Wd Z (cmb σ' μ) s H1 locs1 → True → W p l e R s m args below meth c H1 locs1 cells slots Q (F0 m (pc + 3) ls (.int rv :: rest))) : W p l e R s m args below meth c H locs cells slots Q (F0 m pc ls (.int x5 :: .int x4 :: .int x3 :: .int x2 :: .int x1 :: .ref (Z.1 + 3) :: rest)) :=
  x_iv hc hw (c_Land_addPerson hf) yv_Land_addPerson (Nat.le_of_ble_eq_true rfl) rfl rfl hl (RO.call hR (by decide)) hcs rfl hls hst hdg rfl kk
set_option maxRecDepth 10000 in
theorem w_Math_floorDiv_J {N : Nat} (hc : Cxz p s m meth c args prog_20_method_49_code "java/lang/Math" 6 Z) (hr : meth.sig.returnType = (some .long)) (hR : RO R 0) {rv : Int64} {σ : St} : ∀ {x0 : Int64} {x2 : Int64} {H : Heap} {locs : List Loc} {ls : Array Slot}, Wd Z τ s H locs → lv_has ls 6 [(0, .long x0), (2, .long x2)] → fMath_floorDiv_J N x0 x2 σ = some rv → W p l e R s m args below meth c H locs 0 0 (MQ below (Qr Z (some (.long rv)) True τ) args s 0 0 (fun q => Z.1 ≤ q)) (F0 m 0 ls []) := by
  have hx := hc.hx
  have hb := hc.hb
  intro x0 x2 H locs ls hw hl hf
  unfold fMath_floorDiv_J at hf
  refine lv_lload_n hx hb (dq tk_Math_floorDiv_J 0 rfl) rfl (lv_at hl 0 rfl) ?_
  refine lv_lload_n hx hb (dq tk_Math_floorDiv_J 1 rfl) rfl (lv_at hl 1 rfl) ?_
  obtain ⟨c1, hf⟩ := chk_some hf
  refine lv_ldiv hx hb (dq tk_Math_floorDiv_J 2 rfl) c1 ?_
  obtain ⟨y1, hy1, hf⟩ := nm_some hf
  refine tst (congrArg Value.long hy1) ?_
  refine lv_lstore (lv' := [(4, .long y1), (0, .long x0), (2, .long x2)]) hx hb (dq tk_Math_floorDiv_J 3 rfl) hl (by decide) rfl (fun ls hl => ?_)
  refine lv_lload_n hx hb (dq tk_Math_floorDiv_J 4 rfl) rfl (lv_at hl 1 rfl) ?_
  refine lv_lload_n hx hb (dq tk_Math_floorDiv_J 5 rfl) rfl (lv_at hl 2 rfl) ?_
  refine lv_lxor hx hb (dq tk_Math_floorDiv_J 6 rfl) ?_
  refine lv_lconst (v := 0) hx hb (dq tk_Math_floorDiv_J 7 rfl) (by decide) ?_
  refine W.lcmp hx hb (dq tk_Math_floorDiv_J 8 rfl) ?_
  refine lv_if_ge (tgt := 27) hx hb (dq tk_Math_floorDiv_J 9 rfl) (by decide) (fun c2 => ?_) (fun c2 => ?_)
  · replace hf := if_t hf c2
    refine lv_lload hx hb (dq tk_Math_floorDiv_J 20 rfl) (lv_at hl 0 rfl) ?_
    cases hf
    exact x_lret hc hw hr (dq tk_Math_floorDiv_J 21 rfl)
  · replace hf := if_f hf c2
    refine lv_lload hx hb (dq tk_Math_floorDiv_J 10 rfl) (lv_at hl 0 rfl) ?_
    refine lv_lload_n hx hb (dq tk_Math_floorDiv_J 11 rfl) rfl (lv_at hl 2 rfl) ?_
    refine lv_lmul hx hb (dq tk_Math_floorDiv_J 12 rfl) ?_
    refine lv_lload_n hx hb (dq tk_Math_floorDiv_J 13 rfl) rfl (lv_at hl 1 rfl) ?_
    refine W.lcmp hx hb (dq tk_Math_floorDiv_J 14 rfl) ?_
    refine lv_if_eq (tgt := 27) hx hb (dq tk_Math_floorDiv_J 15 rfl) (by decide) (fun c3 => ?_) (fun c3 => ?_)
    · replace hf := if_t hf c3
      refine lv_lload hx hb (dq tk_Math_floorDiv_J 20 rfl) (lv_at hl 0 rfl) ?_
      cases hf
      exact x_lret hc hw hr (dq tk_Math_floorDiv_J 21 rfl)
    · replace hf := if_f hf c3
      refine lv_lload hx hb (dq tk_Math_floorDiv_J 16 rfl) (lv_at hl 0 rfl) ?_
      refine lv_lconst (v := 1) hx hb (dq tk_Math_floorDiv_J 17 rfl) (by decide) ?_
      refine lv_lsub hx hb (dq tk_Math_floorDiv_J 18 rfl) ?_
      cases hf
      exact x_lret hc hw hr (dq tk_Math_floorDiv_J 19 rfl)
theorem c_Math_floorDiv_J {N : Nat}  {x0 : Int64} {x2 : Int64} {rv : Int64} {σ : St} (hf : fMath_floorDiv_J N x0 x2 σ = some rv) : Ct l Z y_Math_floorDiv_J prog_20_method_49_code 6 (some .long) (rmo (0)) [.long x0, .long x2] τ (some (.long rv)) True τ := by
  refine x_metF (by decide +kernel) (Nat.le_of_ble_eq_true rfl) (fun p e s m args below meth c ls hc hr hw hl => ?_)
  exact w_Math_floorDiv_J hc hr RO.self hw hl hf
theorem K_Math_floorDiv_J {idx : Nat} {N : Nat}  {x0 : Int64} {x2 : Int64} {rv : Int64} {σ : St} (hc : Cxz p s m meth c args cc own nL Z) (hw : Wd Z τ s H locs) (hl : Cond.methodLink own idx y_Math_floorDiv_J ∈ TB) (hf : fMath_floorDiv_J N x0 x2 σ = some rv) (hR : RO R ((0) + 1)) (hcs : cells ≤ R.cells ∧ slots ≤ R.slots) (hls : ls.size = nL) (hst : (rest.map fun v => v.category).sum ≤ 8) (hdg : decode cc pc = .ok (.invokestatic idx, 3)) (kk : ∀ (H1 : Heap) (locs1 : List Loc), Wd Z τ s H1 locs1 → True → W p l e R s m args below meth c H1 locs1 cells slots Q (F0 m (pc + 3) ls (.long rv :: rest))) : W p l e R s m args below meth c H locs cells slots Q (F0 m pc ls (.long x2 :: .long x0 :: rest)) :=
  x_is hc hw (c_Math_floorDiv_J hf) ys_Math_floorDiv_J hl (RO.call hR (by decide)) hcs rfl hls hst hdg rfl kk
set_option maxRecDepth 10000 in
theorem w_Arrays_fill_Sending_rowPrice_5 {N : Nat} (hc : Cxz p s m meth c args prog_29_method_103_code "java/util/Arrays" 4 Z) (hr : meth.sig.returnType = none) (hR : RO R 0) {σ' : St} (n : Nat) : ∀ {x1 : Int32} {x2 : Int32} {x3 : Int32} {σ : St} {H : Heap} {locs : List Loc} {ls : Array Slot}, Wd Z (cmb σ μ) s H locs → lv_has ls 4 [(0, .ref (Z.1 + 71)), (1, .int x1), (2, .int x2), (3, .int x3)] → fArrays_fill_Sending_rowPrice_5 N n x1 x2 x3 σ = some σ' → W p l e R s m args below meth c H locs 0 0 (MQ below (Qr Z none True (cmb σ' μ)) args s 0 0 (fun q => Z.1 ≤ q)) (F0 m 5 ls []) := by
  have hx := hc.hx
  have hb := hc.hb
  induction n with
  | zero =>
    intro x1 x2 x3 σ H locs ls hw hl hf
    have hf : none = some _ := hf
    cases hf
  | succ n ih =>
    intro x1 x2 x3 σ H locs ls hw hl hf
    unfold fArrays_fill_Sending_rowPrice_5 at hf
    refine lv_iload_n hx hb (dq tk_Arrays_fill_I 5 rfl) rfl (lv_at hl 2 rfl) ?_
    refine lv_iload_n hx hb (dq tk_Arrays_fill_I 6 rfl) rfl (lv_at hl 3 rfl) ?_
    refine lv_icmp_ge (tgt := 20) hx hb (dq tk_Arrays_fill_I 7 rfl) (by decide) (fun c1 => ?_) (fun c1 => ?_)
    · replace hf := if_t hf c1
      cases hf
      exact x_vret hc hw hr (dq tk_Arrays_fill_I 14 rfl)
    · replace hf := if_f hf c1
      refine lv_aload_n hx hb (dq tk_Arrays_fill_I 8 rfl) rfl (lv_at hl 0 rfl) ?_
      refine lv_iload_n hx hb (dq tk_Arrays_fill_I 9 rfl) rfl (lv_at hl 2 rfl) ?_
      refine lv_iload_n hx hb (dq tk_Arrays_fill_I 10 rfl) rfl (lv_at hl 1 rfl) ?_
      obtain ⟨c2, hf⟩ := chk_some hf
      obtain ⟨σ1, hσ1, hf⟩ := nm_some hf
      refine AS_Sending_rowPrice hc hw c2 hσ1 (dq tk_Arrays_fill_I 11 rfl) (fun H locs hw => ?_)
      refine lv_iinc (v := (x2 + 1)) (lv' := [(2, .int (x2 + 1)), (0, .ref (Z.1 + 71)), (1, .int x1), (3, .int x3)]) hx hb (dq tk_Arrays_fill_I 12 rfl) hl (k := 2) rfl rfl (by decide) rfl (fun ls hl => ?_)
      refine lv_goto (tgt := 5) hx hb (dq tk_Arrays_fill_I 13 rfl) (by decide) ?_
      exact ih hw (lv_sub hl [1, 2, 0, 3] rfl) hf
set_option maxRecDepth 10000 in
theorem w_Arrays_fill_Sending_rowPrice {N : Nat} (hc : Cxz p s m meth c args prog_29_method_103_code "java/util/Arrays" 4 Z) (hr : meth.sig.returnType = none) (hR : RO R 0) {σ' : St} : ∀ {x1 : Int32} {σ : St} {H : Heap} {locs : List Loc} {ls : Array Slot}, Wd Z (cmb σ μ) s H locs → lv_has ls 4 [(0, .ref (Z.1 + 71)), (1, .int x1)] → fArrays_fill_Sending_rowPrice N x1 σ = some σ' → W p l e R s m args below meth c H locs 0 0 (MQ below (Qr Z none True (cmb σ' μ)) args s 0 0 (fun q => Z.1 ≤ q)) (F0 m 0 ls []) := by
  have hx := hc.hx
  have hb := hc.hb
  intro x1 σ H locs ls hw hl hf
  unfold fArrays_fill_Sending_rowPrice at hf
  refine lv_iconst (v := 0) hx hb (dq tk_Arrays_fill_I 0 rfl) (by decide) ?_
  refine lv_istore_n (lv' := [(2, .int 0), (0, .ref (Z.1 + 71)), (1, .int x1)]) hx hb (dq tk_Arrays_fill_I 1 rfl) rfl hl (by decide) rfl (fun ls hl => ?_)
  refine lv_aload_n hx hb (dq tk_Arrays_fill_I 2 rfl) rfl (lv_at hl 1 rfl) ?_
  refine LN_Sending_rowPrice hc hw (dq tk_Arrays_fill_I 3 rfl) ?_
  refine lv_istore_n (lv' := [(3, .int 45), (2, .int 0), (0, .ref (Z.1 + 71)), (1, .int x1)]) hx hb (dq tk_Arrays_fill_I 4 rfl) rfl hl (by decide) rfl (fun ls hl => ?_)
  exact w_Arrays_fill_Sending_rowPrice_5 hc hr hR N hw (lv_sub hl [2, 3, 1, 0] rfl) hf
theorem c_Arrays_fill_Sending_rowPrice {N : Nat}  {x1 : Int32} {σ' : St} {σ : St} (hf : fArrays_fill_Sending_rowPrice N x1 σ = some σ') : Ct l Z y_Arrays_fill_I prog_29_method_103_code 4 none (rmo (0)) [.ref (Z.1 + 71), .int x1] (cmb σ μ) none True (cmb σ' μ) := by
  refine x_met (by decide) (Nat.le_of_ble_eq_true rfl) (fun p e s m args below meth c ls hc hr hw hl => ?_)
  exact w_Arrays_fill_Sending_rowPrice hc hr RO.self hw hl hf
theorem K_Arrays_fill_Sending_rowPrice {idx : Nat} {N : Nat}  {x1 : Int32} {σ' : St} {σ : St} (hc : Cxz p s m meth c args cc own nL Z) (hw : Wd Z (cmb σ μ) s H locs) (hl : Cond.methodLink own idx y_Arrays_fill_I ∈ TB) (hf : fArrays_fill_Sending_rowPrice N x1 σ = some σ') (hR : RO R ((0) + 1)) (hcs : cells ≤ R.cells ∧ slots ≤ R.slots) (hls : ls.size = nL) (hst : (rest.map fun v => v.category).sum ≤ 8) (hdg : decode cc pc = .ok (.invokestatic idx, 3)) (kk : ∀ (H1 : Heap) (locs1 : List Loc), Wd Z (cmb σ' μ) s H1 locs1 → True → W p l e R s m args below meth c H1 locs1 cells slots Q (F0 m (pc + 3) ls rest)) : W p l e R s m args below meth c H locs cells slots Q (F0 m pc ls (.int x1 :: .ref (Z.1 + 71) :: rest)) :=
  x_is hc hw (c_Arrays_fill_Sending_rowPrice hf) ys_Arrays_fill_I hl (RO.call hR (by decide)) hcs rfl hls hst hdg rfl kk
set_option maxRecDepth 10000 in
theorem w_Arrays_fill_Sending_columnPrice_5 {N : Nat} (hc : Cxz p s m meth c args prog_29_method_103_code "java/util/Arrays" 4 Z) (hr : meth.sig.returnType = none) (hR : RO R 0) {σ' : St} (n : Nat) : ∀ {x1 : Int32} {x2 : Int32} {x3 : Int32} {σ : St} {H : Heap} {locs : List Loc} {ls : Array Slot}, Wd Z (cmb σ μ) s H locs → lv_has ls 4 [(0, .ref (Z.1 + 72)), (1, .int x1), (2, .int x2), (3, .int x3)] → fArrays_fill_Sending_columnPrice_5 N n x1 x2 x3 σ = some σ' → W p l e R s m args below meth c H locs 0 0 (MQ below (Qr Z none True (cmb σ' μ)) args s 0 0 (fun q => Z.1 ≤ q)) (F0 m 5 ls []) := by
  have hx := hc.hx
  have hb := hc.hb
  induction n with
  | zero =>
    intro x1 x2 x3 σ H locs ls hw hl hf
    have hf : none = some _ := hf
    cases hf
  | succ n ih =>
    intro x1 x2 x3 σ H locs ls hw hl hf
    unfold fArrays_fill_Sending_columnPrice_5 at hf
    refine lv_iload_n hx hb (dq tk_Arrays_fill_I 5 rfl) rfl (lv_at hl 2 rfl) ?_
    refine lv_iload_n hx hb (dq tk_Arrays_fill_I 6 rfl) rfl (lv_at hl 3 rfl) ?_
    refine lv_icmp_ge (tgt := 20) hx hb (dq tk_Arrays_fill_I 7 rfl) (by decide) (fun c1 => ?_) (fun c1 => ?_)
    · replace hf := if_t hf c1
      cases hf
      exact x_vret hc hw hr (dq tk_Arrays_fill_I 14 rfl)
    · replace hf := if_f hf c1
      refine lv_aload_n hx hb (dq tk_Arrays_fill_I 8 rfl) rfl (lv_at hl 0 rfl) ?_
      refine lv_iload_n hx hb (dq tk_Arrays_fill_I 9 rfl) rfl (lv_at hl 2 rfl) ?_
      refine lv_iload_n hx hb (dq tk_Arrays_fill_I 10 rfl) rfl (lv_at hl 1 rfl) ?_
      obtain ⟨c2, hf⟩ := chk_some hf
      obtain ⟨σ1, hσ1, hf⟩ := nm_some hf
      refine AS_Sending_columnPrice hc hw c2 hσ1 (dq tk_Arrays_fill_I 11 rfl) (fun H locs hw => ?_)
      refine lv_iinc (v := (x2 + 1)) (lv' := [(2, .int (x2 + 1)), (0, .ref (Z.1 + 72)), (1, .int x1), (3, .int x3)]) hx hb (dq tk_Arrays_fill_I 12 rfl) hl (k := 2) rfl rfl (by decide) rfl (fun ls hl => ?_)
      refine lv_goto (tgt := 5) hx hb (dq tk_Arrays_fill_I 13 rfl) (by decide) ?_
      exact ih hw (lv_sub hl [1, 2, 0, 3] rfl) hf
set_option maxRecDepth 10000 in
theorem w_Arrays_fill_Sending_columnPrice {N : Nat} (hc : Cxz p s m meth c args prog_29_method_103_code "java/util/Arrays" 4 Z) (hr : meth.sig.returnType = none) (hR : RO R 0) {σ' : St} : ∀ {x1 : Int32} {σ : St} {H : Heap} {locs : List Loc} {ls : Array Slot}, Wd Z (cmb σ μ) s H locs → lv_has ls 4 [(0, .ref (Z.1 + 72)), (1, .int x1)] → fArrays_fill_Sending_columnPrice N x1 σ = some σ' → W p l e R s m args below meth c H locs 0 0 (MQ below (Qr Z none True (cmb σ' μ)) args s 0 0 (fun q => Z.1 ≤ q)) (F0 m 0 ls []) := by
  have hx := hc.hx
  have hb := hc.hb
  intro x1 σ H locs ls hw hl hf
  unfold fArrays_fill_Sending_columnPrice at hf
  refine lv_iconst (v := 0) hx hb (dq tk_Arrays_fill_I 0 rfl) (by decide) ?_
  refine lv_istore_n (lv' := [(2, .int 0), (0, .ref (Z.1 + 72)), (1, .int x1)]) hx hb (dq tk_Arrays_fill_I 1 rfl) rfl hl (by decide) rfl (fun ls hl => ?_)
  refine lv_aload_n hx hb (dq tk_Arrays_fill_I 2 rfl) rfl (lv_at hl 1 rfl) ?_
  refine LN_Sending_columnPrice hc hw (dq tk_Arrays_fill_I 3 rfl) ?_
  refine lv_istore_n (lv' := [(3, .int 45), (2, .int 0), (0, .ref (Z.1 + 72)), (1, .int x1)]) hx hb (dq tk_Arrays_fill_I 4 rfl) rfl hl (by decide) rfl (fun ls hl => ?_)
  exact w_Arrays_fill_Sending_columnPrice_5 hc hr hR N hw (lv_sub hl [2, 3, 1, 0] rfl) hf
theorem c_Arrays_fill_Sending_columnPrice {N : Nat}  {x1 : Int32} {σ' : St} {σ : St} (hf : fArrays_fill_Sending_columnPrice N x1 σ = some σ') : Ct l Z y_Arrays_fill_I prog_29_method_103_code 4 none (rmo (0)) [.ref (Z.1 + 72), .int x1] (cmb σ μ) none True (cmb σ' μ) := by
  refine x_met (by decide) (Nat.le_of_ble_eq_true rfl) (fun p e s m args below meth c ls hc hr hw hl => ?_)
  exact w_Arrays_fill_Sending_columnPrice hc hr RO.self hw hl hf
theorem K_Arrays_fill_Sending_columnPrice {idx : Nat} {N : Nat}  {x1 : Int32} {σ' : St} {σ : St} (hc : Cxz p s m meth c args cc own nL Z) (hw : Wd Z (cmb σ μ) s H locs) (hl : Cond.methodLink own idx y_Arrays_fill_I ∈ TB) (hf : fArrays_fill_Sending_columnPrice N x1 σ = some σ') (hR : RO R ((0) + 1)) (hcs : cells ≤ R.cells ∧ slots ≤ R.slots) (hls : ls.size = nL) (hst : (rest.map fun v => v.category).sum ≤ 8) (hdg : decode cc pc = .ok (.invokestatic idx, 3)) (kk : ∀ (H1 : Heap) (locs1 : List Loc), Wd Z (cmb σ' μ) s H1 locs1 → True → W p l e R s m args below meth c H1 locs1 cells slots Q (F0 m (pc + 3) ls rest)) : W p l e R s m args below meth c H locs cells slots Q (F0 m pc ls (.int x1 :: .ref (Z.1 + 72) :: rest)) :=
  x_is hc hw (c_Arrays_fill_Sending_columnPrice hf) ys_Arrays_fill_I hl (RO.call hR (by decide)) hcs rfl hls hst hdg rfl kk
set_option maxRecDepth 10000 in
theorem w_Arrays_fill_Sending_rowAt_5 {N : Nat} (hc : Cxz p s m meth c args prog_29_method_103_code "java/util/Arrays" 4 Z) (hr : meth.sig.returnType = none) (hR : RO R 0) {σ' : St} (n : Nat) : ∀ {x1 : Int32} {x2 : Int32} {x3 : Int32} {σ : St} {H : Heap} {locs : List Loc} {ls : Array Slot}, Wd Z (cmb σ μ) s H locs → lv_has ls 4 [(0, .ref (Z.1 + 73)), (1, .int x1), (2, .int x2), (3, .int x3)] → fArrays_fill_Sending_rowAt_5 N n x1 x2 x3 σ = some σ' → W p l e R s m args below meth c H locs 0 0 (MQ below (Qr Z none True (cmb σ' μ)) args s 0 0 (fun q => Z.1 ≤ q)) (F0 m 5 ls []) := by
  have hx := hc.hx
  have hb := hc.hb
  induction n with
  | zero =>
    intro x1 x2 x3 σ H locs ls hw hl hf
    have hf : none = some _ := hf
    cases hf
  | succ n ih =>
    intro x1 x2 x3 σ H locs ls hw hl hf
    unfold fArrays_fill_Sending_rowAt_5 at hf
    refine lv_iload_n hx hb (dq tk_Arrays_fill_I 5 rfl) rfl (lv_at hl 2 rfl) ?_
    refine lv_iload_n hx hb (dq tk_Arrays_fill_I 6 rfl) rfl (lv_at hl 3 rfl) ?_
    refine lv_icmp_ge (tgt := 20) hx hb (dq tk_Arrays_fill_I 7 rfl) (by decide) (fun c1 => ?_) (fun c1 => ?_)
    · replace hf := if_t hf c1
      cases hf
      exact x_vret hc hw hr (dq tk_Arrays_fill_I 14 rfl)
    · replace hf := if_f hf c1
      refine lv_aload_n hx hb (dq tk_Arrays_fill_I 8 rfl) rfl (lv_at hl 0 rfl) ?_
      refine lv_iload_n hx hb (dq tk_Arrays_fill_I 9 rfl) rfl (lv_at hl 2 rfl) ?_
      refine lv_iload_n hx hb (dq tk_Arrays_fill_I 10 rfl) rfl (lv_at hl 1 rfl) ?_
      obtain ⟨c2, hf⟩ := chk_some hf
      obtain ⟨σ1, hσ1, hf⟩ := nm_some hf
      refine AS_Sending_rowAt hc hw c2 hσ1 (dq tk_Arrays_fill_I 11 rfl) (fun H locs hw => ?_)
      refine lv_iinc (v := (x2 + 1)) (lv' := [(2, .int (x2 + 1)), (0, .ref (Z.1 + 73)), (1, .int x1), (3, .int x3)]) hx hb (dq tk_Arrays_fill_I 12 rfl) hl (k := 2) rfl rfl (by decide) rfl (fun ls hl => ?_)
      refine lv_goto (tgt := 5) hx hb (dq tk_Arrays_fill_I 13 rfl) (by decide) ?_
      exact ih hw (lv_sub hl [1, 2, 0, 3] rfl) hf
set_option maxRecDepth 10000 in
theorem w_Arrays_fill_Sending_rowAt {N : Nat} (hc : Cxz p s m meth c args prog_29_method_103_code "java/util/Arrays" 4 Z) (hr : meth.sig.returnType = none) (hR : RO R 0) {σ' : St} : ∀ {x1 : Int32} {σ : St} {H : Heap} {locs : List Loc} {ls : Array Slot}, Wd Z (cmb σ μ) s H locs → lv_has ls 4 [(0, .ref (Z.1 + 73)), (1, .int x1)] → fArrays_fill_Sending_rowAt N x1 σ = some σ' → W p l e R s m args below meth c H locs 0 0 (MQ below (Qr Z none True (cmb σ' μ)) args s 0 0 (fun q => Z.1 ≤ q)) (F0 m 0 ls []) := by
  have hx := hc.hx
  have hb := hc.hb
  intro x1 σ H locs ls hw hl hf
  unfold fArrays_fill_Sending_rowAt at hf
  refine lv_iconst (v := 0) hx hb (dq tk_Arrays_fill_I 0 rfl) (by decide) ?_
  refine lv_istore_n (lv' := [(2, .int 0), (0, .ref (Z.1 + 73)), (1, .int x1)]) hx hb (dq tk_Arrays_fill_I 1 rfl) rfl hl (by decide) rfl (fun ls hl => ?_)
  refine lv_aload_n hx hb (dq tk_Arrays_fill_I 2 rfl) rfl (lv_at hl 1 rfl) ?_
  refine LN_Sending_rowAt hc hw (dq tk_Arrays_fill_I 3 rfl) ?_
  refine lv_istore_n (lv' := [(3, .int 45), (2, .int 0), (0, .ref (Z.1 + 73)), (1, .int x1)]) hx hb (dq tk_Arrays_fill_I 4 rfl) rfl hl (by decide) rfl (fun ls hl => ?_)
  exact w_Arrays_fill_Sending_rowAt_5 hc hr hR N hw (lv_sub hl [2, 3, 1, 0] rfl) hf
theorem c_Arrays_fill_Sending_rowAt {N : Nat}  {x1 : Int32} {σ' : St} {σ : St} (hf : fArrays_fill_Sending_rowAt N x1 σ = some σ') : Ct l Z y_Arrays_fill_I prog_29_method_103_code 4 none (rmo (0)) [.ref (Z.1 + 73), .int x1] (cmb σ μ) none True (cmb σ' μ) := by
  refine x_met (by decide) (Nat.le_of_ble_eq_true rfl) (fun p e s m args below meth c ls hc hr hw hl => ?_)
  exact w_Arrays_fill_Sending_rowAt hc hr RO.self hw hl hf
theorem K_Arrays_fill_Sending_rowAt {idx : Nat} {N : Nat}  {x1 : Int32} {σ' : St} {σ : St} (hc : Cxz p s m meth c args cc own nL Z) (hw : Wd Z (cmb σ μ) s H locs) (hl : Cond.methodLink own idx y_Arrays_fill_I ∈ TB) (hf : fArrays_fill_Sending_rowAt N x1 σ = some σ') (hR : RO R ((0) + 1)) (hcs : cells ≤ R.cells ∧ slots ≤ R.slots) (hls : ls.size = nL) (hst : (rest.map fun v => v.category).sum ≤ 8) (hdg : decode cc pc = .ok (.invokestatic idx, 3)) (kk : ∀ (H1 : Heap) (locs1 : List Loc), Wd Z (cmb σ' μ) s H1 locs1 → True → W p l e R s m args below meth c H1 locs1 cells slots Q (F0 m (pc + 3) ls rest)) : W p l e R s m args below meth c H locs cells slots Q (F0 m pc ls (.int x1 :: .ref (Z.1 + 73) :: rest)) :=
  x_is hc hw (c_Arrays_fill_Sending_rowAt hf) ys_Arrays_fill_I hl (RO.call hR (by decide)) hcs rfl hls hst hdg rfl kk
set_option maxRecDepth 10000 in
theorem w_Arrays_fill_Sending_least_5 {N : Nat} (hc : Cxz p s m meth c args prog_29_method_103_code "java/util/Arrays" 4 Z) (hr : meth.sig.returnType = none) (hR : RO R 0) {σ' : St} (n : Nat) : ∀ {x1 : Int32} {x2 : Int32} {x3 : Int32} {σ : St} {H : Heap} {locs : List Loc} {ls : Array Slot}, Wd Z (cmb σ μ) s H locs → lv_has ls 4 [(0, .ref (Z.1 + 76)), (1, .int x1), (2, .int x2), (3, .int x3)] → fArrays_fill_Sending_least_5 N n x1 x2 x3 σ = some σ' → W p l e R s m args below meth c H locs 0 0 (MQ below (Qr Z none True (cmb σ' μ)) args s 0 0 (fun q => Z.1 ≤ q)) (F0 m 5 ls []) := by
  have hx := hc.hx
  have hb := hc.hb
  induction n with
  | zero =>
    intro x1 x2 x3 σ H locs ls hw hl hf
    have hf : none = some _ := hf
    cases hf
  | succ n ih =>
    intro x1 x2 x3 σ H locs ls hw hl hf
    unfold fArrays_fill_Sending_least_5 at hf
    refine lv_iload_n hx hb (dq tk_Arrays_fill_I 5 rfl) rfl (lv_at hl 2 rfl) ?_
    refine lv_iload_n hx hb (dq tk_Arrays_fill_I 6 rfl) rfl (lv_at hl 3 rfl) ?_
    refine lv_icmp_ge (tgt := 20) hx hb (dq tk_Arrays_fill_I 7 rfl) (by decide) (fun c1 => ?_) (fun c1 => ?_)
    · replace hf := if_t hf c1
      cases hf
      exact x_vret hc hw hr (dq tk_Arrays_fill_I 14 rfl)
    · replace hf := if_f hf c1
      refine lv_aload_n hx hb (dq tk_Arrays_fill_I 8 rfl) rfl (lv_at hl 0 rfl) ?_
      refine lv_iload_n hx hb (dq tk_Arrays_fill_I 9 rfl) rfl (lv_at hl 2 rfl) ?_
      refine lv_iload_n hx hb (dq tk_Arrays_fill_I 10 rfl) rfl (lv_at hl 1 rfl) ?_
      obtain ⟨c2, hf⟩ := chk_some hf
      obtain ⟨σ1, hσ1, hf⟩ := nm_some hf
      refine AS_Sending_least hc hw c2 hσ1 (dq tk_Arrays_fill_I 11 rfl) (fun H locs hw => ?_)
      refine lv_iinc (v := (x2 + 1)) (lv' := [(2, .int (x2 + 1)), (0, .ref (Z.1 + 76)), (1, .int x1), (3, .int x3)]) hx hb (dq tk_Arrays_fill_I 12 rfl) hl (k := 2) rfl rfl (by decide) rfl (fun ls hl => ?_)
      refine lv_goto (tgt := 5) hx hb (dq tk_Arrays_fill_I 13 rfl) (by decide) ?_
      exact ih hw (lv_sub hl [1, 2, 0, 3] rfl) hf
set_option maxRecDepth 10000 in
theorem w_Arrays_fill_Sending_least {N : Nat} (hc : Cxz p s m meth c args prog_29_method_103_code "java/util/Arrays" 4 Z) (hr : meth.sig.returnType = none) (hR : RO R 0) {σ' : St} : ∀ {x1 : Int32} {σ : St} {H : Heap} {locs : List Loc} {ls : Array Slot}, Wd Z (cmb σ μ) s H locs → lv_has ls 4 [(0, .ref (Z.1 + 76)), (1, .int x1)] → fArrays_fill_Sending_least N x1 σ = some σ' → W p l e R s m args below meth c H locs 0 0 (MQ below (Qr Z none True (cmb σ' μ)) args s 0 0 (fun q => Z.1 ≤ q)) (F0 m 0 ls []) := by
  have hx := hc.hx
  have hb := hc.hb
  intro x1 σ H locs ls hw hl hf
  unfold fArrays_fill_Sending_least at hf
  refine lv_iconst (v := 0) hx hb (dq tk_Arrays_fill_I 0 rfl) (by decide) ?_
  refine lv_istore_n (lv' := [(2, .int 0), (0, .ref (Z.1 + 76)), (1, .int x1)]) hx hb (dq tk_Arrays_fill_I 1 rfl) rfl hl (by decide) rfl (fun ls hl => ?_)
  refine lv_aload_n hx hb (dq tk_Arrays_fill_I 2 rfl) rfl (lv_at hl 1 rfl) ?_
  refine LN_Sending_least hc hw (dq tk_Arrays_fill_I 3 rfl) ?_
  refine lv_istore_n (lv' := [(3, .int 45), (2, .int 0), (0, .ref (Z.1 + 76)), (1, .int x1)]) hx hb (dq tk_Arrays_fill_I 4 rfl) rfl hl (by decide) rfl (fun ls hl => ?_)
  exact w_Arrays_fill_Sending_least_5 hc hr hR N hw (lv_sub hl [2, 3, 1, 0] rfl) hf
theorem c_Arrays_fill_Sending_least {N : Nat}  {x1 : Int32} {σ' : St} {σ : St} (hf : fArrays_fill_Sending_least N x1 σ = some σ') : Ct l Z y_Arrays_fill_I prog_29_method_103_code 4 none (rmo (0)) [.ref (Z.1 + 76), .int x1] (cmb σ μ) none True (cmb σ' μ) := by
  refine x_met (by decide) (Nat.le_of_ble_eq_true rfl) (fun p e s m args below meth c ls hc hr hw hl => ?_)
  exact w_Arrays_fill_Sending_least hc hr RO.self hw hl hf
theorem K_Arrays_fill_Sending_least {idx : Nat} {N : Nat}  {x1 : Int32} {σ' : St} {σ : St} (hc : Cxz p s m meth c args cc own nL Z) (hw : Wd Z (cmb σ μ) s H locs) (hl : Cond.methodLink own idx y_Arrays_fill_I ∈ TB) (hf : fArrays_fill_Sending_least N x1 σ = some σ') (hR : RO R ((0) + 1)) (hcs : cells ≤ R.cells ∧ slots ≤ R.slots) (hls : ls.size = nL) (hst : (rest.map fun v => v.category).sum ≤ 8) (hdg : decode cc pc = .ok (.invokestatic idx, 3)) (kk : ∀ (H1 : Heap) (locs1 : List Loc), Wd Z (cmb σ' μ) s H1 locs1 → True → W p l e R s m args below meth c H1 locs1 cells slots Q (F0 m (pc + 3) ls rest)) : W p l e R s m args below meth c H locs cells slots Q (F0 m pc ls (.int x1 :: .ref (Z.1 + 76) :: rest)) :=
  x_is hc hw (c_Arrays_fill_Sending_least hf) ys_Arrays_fill_I hl (RO.call hR (by decide)) hcs rfl hls hst hdg rfl kk
set_option maxRecDepth 10000 in
theorem w_Arrays_fill_Sending_sentTo_5 {N : Nat} (hc : Cxz p s m meth c args prog_29_method_103_code "java/util/Arrays" 4 Z) (hr : meth.sig.returnType = none) (hR : RO R 0) {σ' : St} (n : Nat) : ∀ {x1 : Int32} {x2 : Int32} {x3 : Int32} {σ : St} {H : Heap} {locs : List Loc} {ls : Array Slot}, Wd Z (cmb σ μ) s H locs → lv_has ls 4 [(0, .ref (Z.1 + 68)), (1, .int x1), (2, .int x2), (3, .int x3)] → fArrays_fill_Sending_sentTo_5 N n x1 x2 x3 σ = some σ' → W p l e R s m args below meth c H locs 0 0 (MQ below (Qr Z none True (cmb σ' μ)) args s 0 0 (fun q => Z.1 ≤ q)) (F0 m 5 ls []) := by
  have hx := hc.hx
  have hb := hc.hb
  induction n with
  | zero =>
    intro x1 x2 x3 σ H locs ls hw hl hf
    have hf : none = some _ := hf
    cases hf
  | succ n ih =>
    intro x1 x2 x3 σ H locs ls hw hl hf
    unfold fArrays_fill_Sending_sentTo_5 at hf
    refine lv_iload_n hx hb (dq tk_Arrays_fill_I 5 rfl) rfl (lv_at hl 2 rfl) ?_
    refine lv_iload_n hx hb (dq tk_Arrays_fill_I 6 rfl) rfl (lv_at hl 3 rfl) ?_
    refine lv_icmp_ge (tgt := 20) hx hb (dq tk_Arrays_fill_I 7 rfl) (by decide) (fun c1 => ?_) (fun c1 => ?_)
    · replace hf := if_t hf c1
      cases hf
      exact x_vret hc hw hr (dq tk_Arrays_fill_I 14 rfl)
    · replace hf := if_f hf c1
      refine lv_aload_n hx hb (dq tk_Arrays_fill_I 8 rfl) rfl (lv_at hl 0 rfl) ?_
      refine lv_iload_n hx hb (dq tk_Arrays_fill_I 9 rfl) rfl (lv_at hl 2 rfl) ?_
      refine lv_iload_n hx hb (dq tk_Arrays_fill_I 10 rfl) rfl (lv_at hl 1 rfl) ?_
      obtain ⟨c2, hf⟩ := chk_some hf
      obtain ⟨σ1, hσ1, hf⟩ := nm_some hf
      refine AS_Sending_sentTo hc hw c2 hσ1 (dq tk_Arrays_fill_I 11 rfl) (fun H locs hw => ?_)
      refine lv_iinc (v := (x2 + 1)) (lv' := [(2, .int (x2 + 1)), (0, .ref (Z.1 + 68)), (1, .int x1), (3, .int x3)]) hx hb (dq tk_Arrays_fill_I 12 rfl) hl (k := 2) rfl rfl (by decide) rfl (fun ls hl => ?_)
      refine lv_goto (tgt := 5) hx hb (dq tk_Arrays_fill_I 13 rfl) (by decide) ?_
      exact ih hw (lv_sub hl [1, 2, 0, 3] rfl) hf
set_option maxRecDepth 10000 in
theorem w_Arrays_fill_Sending_sentTo {N : Nat} (hc : Cxz p s m meth c args prog_29_method_103_code "java/util/Arrays" 4 Z) (hr : meth.sig.returnType = none) (hR : RO R 0) {σ' : St} : ∀ {x1 : Int32} {σ : St} {H : Heap} {locs : List Loc} {ls : Array Slot}, Wd Z (cmb σ μ) s H locs → lv_has ls 4 [(0, .ref (Z.1 + 68)), (1, .int x1)] → fArrays_fill_Sending_sentTo N x1 σ = some σ' → W p l e R s m args below meth c H locs 0 0 (MQ below (Qr Z none True (cmb σ' μ)) args s 0 0 (fun q => Z.1 ≤ q)) (F0 m 0 ls []) := by
  have hx := hc.hx
  have hb := hc.hb
  intro x1 σ H locs ls hw hl hf
  unfold fArrays_fill_Sending_sentTo at hf
  refine lv_iconst (v := 0) hx hb (dq tk_Arrays_fill_I 0 rfl) (by decide) ?_
  refine lv_istore_n (lv' := [(2, .int 0), (0, .ref (Z.1 + 68)), (1, .int x1)]) hx hb (dq tk_Arrays_fill_I 1 rfl) rfl hl (by decide) rfl (fun ls hl => ?_)
  refine lv_aload_n hx hb (dq tk_Arrays_fill_I 2 rfl) rfl (lv_at hl 1 rfl) ?_
  refine LN_Sending_sentTo hc hw (dq tk_Arrays_fill_I 3 rfl) ?_
  refine lv_istore_n (lv' := [(3, .int 20), (2, .int 0), (0, .ref (Z.1 + 68)), (1, .int x1)]) hx hb (dq tk_Arrays_fill_I 4 rfl) rfl hl (by decide) rfl (fun ls hl => ?_)
  exact w_Arrays_fill_Sending_sentTo_5 hc hr hR N hw (lv_sub hl [2, 3, 1, 0] rfl) hf
theorem c_Arrays_fill_Sending_sentTo {N : Nat}  {x1 : Int32} {σ' : St} {σ : St} (hf : fArrays_fill_Sending_sentTo N x1 σ = some σ') : Ct l Z y_Arrays_fill_I prog_29_method_103_code 4 none (rmo (0)) [.ref (Z.1 + 68), .int x1] (cmb σ μ) none True (cmb σ' μ) := by
  refine x_met (by decide) (Nat.le_of_ble_eq_true rfl) (fun p e s m args below meth c ls hc hr hw hl => ?_)
  exact w_Arrays_fill_Sending_sentTo hc hr RO.self hw hl hf
theorem K_Arrays_fill_Sending_sentTo {idx : Nat} {N : Nat}  {x1 : Int32} {σ' : St} {σ : St} (hc : Cxz p s m meth c args cc own nL Z) (hw : Wd Z (cmb σ μ) s H locs) (hl : Cond.methodLink own idx y_Arrays_fill_I ∈ TB) (hf : fArrays_fill_Sending_sentTo N x1 σ = some σ') (hR : RO R ((0) + 1)) (hcs : cells ≤ R.cells ∧ slots ≤ R.slots) (hls : ls.size = nL) (hst : (rest.map fun v => v.category).sum ≤ 8) (hdg : decode cc pc = .ok (.invokestatic idx, 3)) (kk : ∀ (H1 : Heap) (locs1 : List Loc), Wd Z (cmb σ' μ) s H1 locs1 → True → W p l e R s m args below meth c H1 locs1 cells slots Q (F0 m (pc + 3) ls rest)) : W p l e R s m args below meth c H locs cells slots Q (F0 m pc ls (.int x1 :: .ref (Z.1 + 68) :: rest)) :=
  x_is hc hw (c_Arrays_fill_Sending_sentTo hf) ys_Arrays_fill_I hl (RO.call hR (by decide)) hcs rfl hls hst hdg rfl kk
set_option maxRecDepth 10000 in
theorem w_Courts_addJudge {N : Nat} (hc : Cxz p s m meth c args prog_4_method_2_code "LabourExchange$Courts" 3 Z) (hr : meth.sig.returnType = (some .int)) (hR : RO R 0) {rv : Int32} {σ' : St} : ∀ {x1 : Int32} {x2 : Int32} {σ : St} {H : Heap} {locs : List Loc} {ls : Array Slot}, Wd Z (cmb σ μ) s H locs → lv_has ls 3 [(0, .ref (Z.1 + 80)), (1, .int x1), (2, .int x2)] → fCourts_addJudge N x1 x2 σ = some (rv, σ') → W p l e R s m args below meth c H locs 0 0 (MQ below (Qr Z (some (.int rv)) True (cmb σ' μ)) args s 0 0 (fun q => Z.1 ≤ q)) (F0 m 0 ls []) := by
  have hx := hc.hx
  have hb := hc.hb
  intro x1 x2 σ H locs ls hw hl hf
  unfold fCourts_addJudge at hf
  refine lv_aload_n hx hb (dq tk_Courts_addJudge 0 rfl) rfl (lv_at hl 0 rfl) ?_
  refine G_Courts_listOf hc hw wd_372 (dq tk_Courts_addJudge 1 rfl) ?_
  refine lv_aload_n hx hb (dq tk_Courts_addJudge 2 rfl) rfl (lv_at hl 0 rfl) ?_
  refine G_Courts_judges hc hw wd_374 (dq tk_Courts_addJudge 3 rfl) ?_
  refine lv_iload_n hx hb (dq tk_Courts_addJudge 4 rfl) rfl (lv_at hl 1 rfl) ?_
  obtain ⟨c1, hf⟩ := chk_some hf
  obtain ⟨σ1, hσ1, hf⟩ := nm_some hf
  refine AS_Courts_listOf hc hw c1 hσ1 (dq tk_Courts_addJudge 5 rfl) (fun H locs hw => ?_)
  refine lv_aload_n hx hb (dq tk_Courts_addJudge 6 rfl) rfl (lv_at hl 0 rfl) ?_
  refine G_Courts_family hc hw wd_373 (dq tk_Courts_addJudge 7 rfl) ?_
  refine lv_aload_n hx hb (dq tk_Courts_addJudge 8 rfl) rfl (lv_at hl 0 rfl) ?_
  refine G_Courts_judges hc hw wd_374 (dq tk_Courts_addJudge 9 rfl) ?_
  refine lv_iload_n hx hb (dq tk_Courts_addJudge 10 rfl) rfl (lv_at hl 2 rfl) ?_
  obtain ⟨c2, hf⟩ := chk_some hf
  obtain ⟨σ2, hσ2, hf⟩ := nm_some hf
  refine AS_Courts_family hc hw c2 hσ2 (dq tk_Courts_addJudge 11 rfl) (fun H locs hw => ?_)
  refine lv_aload_n hx hb (dq tk_Courts_addJudge 12 rfl) rfl (lv_at hl 0 rfl) ?_
  refine lv_dup hx hb (dq tk_Courts_addJudge 13 rfl) rfl ?_
  refine G_Courts_judges hc hw wd_374 (dq tk_Courts_addJudge 14 rfl) ?_
  refine lv_iconst (v := 1) hx hb (dq tk_Courts_addJudge 15 rfl) (by decide) ?_
  refine lv_iadd hx hb (dq tk_Courts_addJudge 16 rfl) ?_
  obtain ⟨σ3, hσ3, hf⟩ := nm_some hf
  refine P_Courts_judges hc hw wd_374 hσ3 (dq tk_Courts_addJudge 17 rfl) (fun H locs hw => ?_)
  refine lv_aload_n hx hb (dq tk_Courts_addJudge 18 rfl) rfl (lv_at hl 0 rfl) ?_
  refine G_Courts_judges hc hw wd_374 (dq tk_Courts_addJudge 19 rfl) ?_
  refine lv_iconst (v := 1) hx hb (dq tk_Courts_addJudge 20 rfl) (by decide) ?_
  refine lv_isub hx hb (dq tk_Courts_addJudge 21 rfl) ?_
  cases hf
  exact x_iret hc hw hr (dq tk_Courts_addJudge 22 rfl)
theorem c_Courts_addJudge {N : Nat}  {x1 : Int32} {x2 : Int32} {rv : Int32} {σ' : St} {σ : St} (hf : fCourts_addJudge N x1 x2 σ = some (rv, σ')) : Ct l Z y_Courts_addJudge prog_4_method_2_code 3 (some .int) (rmo (0)) [.ref (Z.1 + 80), .int x1, .int x2] (cmb σ μ) (some (.int rv)) True (cmb σ' μ) := by
  refine x_met (by decide) (Nat.le_of_ble_eq_true rfl) (fun p e s m args below meth c ls hc hr hw hl => ?_)
  exact w_Courts_addJudge hc hr RO.self hw hl hf
theorem K_Courts_addJudge {idx : Nat} {N : Nat}  {x1 : Int32} {x2 : Int32} {rv : Int32} {σ' : St} {σ : St} (hc : Cxz p s m meth c args cc own nL Z) (hw : Wd Z (cmb σ μ) s H locs) (hl : Cond.methodLink own idx y_Courts_addJudge ∈ TB) (hf : fCourts_addJudge N x1 x2 σ = some (rv, σ')) (hR : RO R ((0) + 1)) (hcs : cells ≤ R.cells ∧ slots ≤ R.slots) (hls : ls.size = nL) (hst : (rest.map fun v => v.category).sum ≤ 8) (hdg : decode cc pc = .ok (.invokevirtual idx, 3)) (kk : ∀ (H1 : Heap) (locs1 : List Loc), Wd Z (cmb σ' μ) s H1 locs1 → True → W p l e R s m args below meth c H1 locs1 cells slots Q (F0 m (pc + 3) ls (.int rv :: rest))) : W p l e R s m args below meth c H locs cells slots Q (F0 m pc ls (.int x2 :: .int x1 :: .ref (Z.1 + 80) :: rest)) :=
  x_iv hc hw (c_Courts_addJudge hf) yv_Courts_addJudge (Nat.le_of_ble_eq_true rfl) rfl rfl hl (RO.call hR (by decide)) hcs rfl hls hst hdg rfl kk
end WALK
