section WALK
variable {p : Program} {l : Launch} {e : Env} {R : Room} {s : State} {m : MethodId} {args : Array Value} {below : List Frame} {meth : Method} {c : Code} {H : Heap} {locs : List Loc} {cells slots : Nat} {Q : State → Prop}
variable {cc : ByteArray} {own : String} {nL : Nat} {Z : ZT} {σ μ ν τ : St} {pc : Nat} {ls : Array Slot} {rest : List Value}
set_option maxRecDepth 10000 in
theorem w_View_settle_26 {N : Nat} {kv : Nat} (hc : Cxz p s m meth c args prog_12_method_2_code "LabourExchange$View" 4 Z) (hr : meth.sig.returnType = none) (hR : RO R 6) (hkv : kv < 2) {σ' : St} (n : Nat) : ∀ {x3 : Int32} {σ : St} {H : Heap} {locs : List Loc} {ls : Array Slot}, Wd Z (cmb σ μ) s H locs → lv_has ls 4 [(0, .ref (Z.1 + (192 + 187 * kv))), (3, .int x3)] → fView_settle_26 N kv n x3 σ = some σ' → W p l e R s m args below meth c H locs 0 0 (MQ below (Qr Z none True (cmb σ' μ)) args s 0 0 (fun q => Z.1 ≤ q)) (F0 m 26 ls []) := by
  have hx := hc.hx
  have hb := hc.hb
  induction n with
  | zero =>
    intro x3 σ H locs ls hw hl hf
    have hf : none = some _ := hf
    cases hf
  | succ n ih =>
    intro x3 σ H locs ls hw hl hf
    unfold fView_settle_26 at hf
    refine lv_iload_n hx hb (dq tk_View_settle 14 rfl) rfl (lv_at hl 1 rfl) ?_
    refine lv_bipush (v := 20) hx hb (dq tk_View_settle 15 rfl) (by decide) ?_
    refine lv_icmp_ge (tgt := 48) hx hb (dq tk_View_settle 16 rfl) (by decide) (fun c1 => ?_) (fun c1 => ?_)
    · replace hf := if_t hf c1
      cases hf
      exact x_vret hc hw hr (dq tk_View_settle 25 rfl)
    · replace hf := if_f hf c1
      refine lv_aload_n hx hb (dq tk_View_settle 17 rfl) rfl (lv_at hl 0 rfl) ?_
      refine G_View_lives hkv hc hw wd_624 (dq tk_View_settle 18 rfl) ?_
      refine lv_iload_n hx hb (dq tk_View_settle 19 rfl) rfl (lv_at hl 1 rfl) ?_
      obtain ⟨c2, hf⟩ := chk_some hf
      refine AL_View_lives hkv hc hw c2 (dq tk_View_settle 20 rfl) ?_
      refine lv_iconst (v := (-1)) hx hb (dq tk_View_settle 21 rfl) (by decide) ?_
      obtain ⟨σ1, hσ1, hf⟩ := nm_some hf
      refine P_Life_seen hkv (inb_lt c2) hc hw wd_559 hσ1 (dq tk_View_settle 22 rfl) (fun H locs hw => ?_)
      refine lv_iinc (v := (x3 + 1)) (lv' := [(3, .int (x3 + 1)), (0, .ref (Z.1 + (192 + 187 * kv)))]) hx hb (dq tk_View_settle 23 rfl) hl (k := 1) rfl rfl (by decide) rfl (fun ls hl => ?_)
      refine lv_goto (tgt := 26) hx hb (dq tk_View_settle 24 rfl) (by decide) ?_
      exact ih hw (lv_sub hl [1, 0] rfl) hf
set_option maxRecDepth 10000 in
theorem w_View_settle {N : Nat} {kv : Nat} (hc : Cxz p s m meth c args prog_12_method_2_code "LabourExchange$View" 4 Z) (hr : meth.sig.returnType = none) (hR : RO R 6) (hkv : kv < 2) {σ' : St} : ∀ {x1 : Int32} {x2 : Int32} {σ : St} {H : Heap} {locs : List Loc} {ls : Array Slot}, Wd Z (cmb σ μ) s H locs → lv_has ls 4 [(0, .ref (Z.1 + (192 + 187 * kv))), (1, .int x1), (2, .int x2)] → fView_settle N kv x1 x2 σ = some σ' → W p l e R s m args below meth c H locs 0 0 (MQ below (Qr Z none True (cmb σ' μ)) args s 0 0 (fun q => Z.1 ≤ q)) (F0 m 0 ls []) := by
  have hx := hc.hx
  have hb := hc.hb
  intro x1 x2 σ H locs ls hw hl hf
  unfold fView_settle at hf
  refine lv_aload_n hx hb (dq tk_View_settle 0 rfl) rfl (lv_at hl 0 rfl) ?_
  refine lv_iload_n hx hb (dq tk_View_settle 1 rfl) rfl (lv_at hl 1 rfl) ?_
  obtain ⟨σ1, hσ1, hf⟩ := nm_some hf
  refine P_View_on hkv hc hw wd_629 hσ1 (dq tk_View_settle 2 rfl) (fun H locs hw => ?_)
  refine lv_aload_n hx hb (dq tk_View_settle 3 rfl) rfl (lv_at hl 0 rfl) ?_
  refine G_View_law hkv hc hw wd_621 (dq tk_View_settle 4 rfl) ?_
  refine G_Law_size hkv hc hw wd_497 (dq tk_View_settle 5 rfl) ?_
  refine lv_iload_n hx hb (dq tk_View_settle 6 rfl) rfl (lv_at hl 2 rfl) ?_
  refine lv_icmp_eq (tgt := 48) hx hb (dq tk_View_settle 7 rfl) (by decide) (fun c1 => ?_) (fun c1 => ?_)
  · replace hf := if_t hf c1
    cases hf
    exact x_vret hc hw hr (dq tk_View_settle 25 rfl)
  · replace hf := if_f hf c1
    refine lv_aload_n hx hb (dq tk_View_settle 8 rfl) rfl (lv_at hl 0 rfl) ?_
    refine G_View_law hkv hc hw wd_621 (dq tk_View_settle 9 rfl) ?_
    refine lv_iload_n hx hb (dq tk_View_settle 10 rfl) rfl (lv_at hl 2 rfl) ?_
    obtain ⟨σ2, h11, hf⟩ := bn1_someZ hf
    refine K_Law_make hc hw hkv wd_752 h11 (hR.mono (by decide)) ⟨Nat.zero_le _, Nat.zero_le _⟩ hl.1 (Nat.le_of_ble_eq_true rfl) (dq tk_View_settle 11 rfl) (fun H locs hw _ => ?_)
    refine lv_iconst (v := 0) hx hb (dq tk_View_settle 12 rfl) (by decide) ?_
    refine lv_istore_n (lv' := [(3, .int 0), (0, .ref (Z.1 + (192 + 187 * kv))), (1, .int x1), (2, .int x2)]) hx hb (dq tk_View_settle 13 rfl) rfl hl (by decide) rfl (fun ls hl => ?_)
    exact w_View_settle_26 hc hr hR hkv N hw (lv_sub hl [1, 0] rfl) hf
theorem c_View_settle {N : Nat} {kv : Nat}  {x1 : Int32} {x2 : Int32} {σ' : St} {σ : St} (hkv : kv < 2) (hf : fView_settle N kv x1 x2 σ = some σ') : Ct l Z y_View_settle prog_12_method_2_code 4 none (rmo (6)) [.ref (Z.1 + (192 + 187 * kv)), .int x1, .int x2] (cmb σ μ) none True (cmb σ' μ) := by
  refine x_met (by decide) (Nat.le_of_ble_eq_true rfl) (fun p e s m args below meth c ls hc hr hw hl => ?_)
  exact w_View_settle hc hr RO.self hkv hw hl hf
theorem K_View_settle {idx : Nat} {N : Nat} {kv : Nat}  {x1 : Int32} {x2 : Int32} {σ' : St} {σ : St} (hc : Cxz p s m meth c args cc own nL Z) (hw : Wd Z (cmb σ μ) s H locs) (hkv : kv < 2) (hl : Cond.methodLink own idx y_View_settle ∈ TB) (hf : fView_settle N kv x1 x2 σ = some σ') (hR : RO R ((6) + 1)) (hcs : cells ≤ R.cells ∧ slots ≤ R.slots) (hls : ls.size = nL) (hst : (rest.map fun v => v.category).sum ≤ 8) (hdg : decode cc pc = .ok (.invokevirtual idx, 3)) (kk : ∀ (H1 : Heap) (locs1 : List Loc), Wd Z (cmb σ' μ) s H1 locs1 → True → W p l e R s m args below meth c H1 locs1 cells slots Q (F0 m (pc + 3) ls rest)) : W p l e R s m args below meth c H locs cells slots Q (F0 m pc ls (.int x2 :: .int x1 :: .ref (Z.1 + (192 + 187 * kv)) :: rest)) :=
  x_iv hc hw (c_View_settle hkv hf) yv_View_settle (wd_view (r := 0) hkv (by decide) (by omega)).1 (wd_view (r := 0) hkv (by decide) (by omega)).2 rfl hl (RO.call hR (by decide)) hcs rfl hls hst hdg rfl kk
set_option maxRecDepth 10000 in
theorem w_View_insert_54 {N : Nat} {kv : Nat} (hc : Cxz p s m meth c args prog_12_method_5_code "LabourExchange$View" 4 Z) (hr : meth.sig.returnType = none) (hR : RO R 0) (hkv : kv < 2) {σ' : St} : ∀ {x1 : Int32} {x3 : Int32} {σ : St} {H : Heap} {locs : List Loc} {ls : Array Slot}, Wd Z (cmb σ μ) s H locs → lv_has ls 4 [(0, .ref (Z.1 + (192 + 187 * kv))), (1, .int x1), (3, .int x3)] → fView_insert_54 N kv x1 x3 σ = some σ' → W p l e R s m args below meth c H locs 0 0 (MQ below (Qr Z none True (cmb σ' μ)) args s 0 0 (fun q => Z.1 ≤ q)) (F0 m 54 ls []) := by
  have hx := hc.hx
  have hb := hc.hb
  intro x1 x3 σ H locs ls hw hl hf
  unfold fView_insert_54 at hf
  refine lv_aload_n hx hb (dq tk_View_insert 32 rfl) rfl (lv_at hl 0 rfl) ?_
  refine G_View_list hkv hc hw wd_628 (dq tk_View_insert 33 rfl) ?_
  refine lv_iload_n hx hb (dq tk_View_insert 34 rfl) rfl (lv_at hl 2 rfl) ?_
  refine lv_iload_n hx hb (dq tk_View_insert 35 rfl) rfl (lv_at hl 1 rfl) ?_
  obtain ⟨c1, hf⟩ := chk_some hf
  obtain ⟨σ1, hσ1, hf⟩ := nm_some hf
  refine AS_View_list hkv hc hw c1 hσ1 (dq tk_View_insert 36 rfl) (fun H locs hw => ?_)
  cases hf
  exact x_vret hc hw hr (dq tk_View_insert 37 rfl)
set_option maxRecDepth 10000 in
theorem w_View_insert_2 {N : Nat} {kv : Nat} (hc : Cxz p s m meth c args prog_12_method_5_code "LabourExchange$View" 4 Z) (hr : meth.sig.returnType = none) (hR : RO R 0) (hkv : kv < 2) {σ' : St} (n : Nat) : ∀ {x1 : Int32} {x3 : Int32} {σ : St} {H : Heap} {locs : List Loc} {ls : Array Slot}, Wd Z (cmb σ μ) s H locs → lv_has ls 4 [(0, .ref (Z.1 + (192 + 187 * kv))), (1, .int x1), (3, .int x3)] → fView_insert_2 N kv n x1 x3 σ = some σ' → W p l e R s m args below meth c H locs 0 0 (MQ below (Qr Z none True (cmb σ' μ)) args s 0 0 (fun q => Z.1 ≤ q)) (F0 m 2 ls []) := by
  have hx := hc.hx
  have hb := hc.hb
  induction n with
  | zero =>
    intro x1 x3 σ H locs ls hw hl hf
    have hf : none = some _ := hf
    cases hf
  | succ n ih =>
    intro x1 x3 σ H locs ls hw hl hf
    unfold fView_insert_2 at hf
    refine lv_iload_n hx hb (dq tk_View_insert 2 rfl) rfl (lv_at hl 2 rfl) ?_
    refine lv_if_le (tgt := 54) hx hb (dq tk_View_insert 3 rfl) (by decide) (fun c1 => ?_) (fun c1 => ?_)
    · replace hf := if_t hf c1
      exact w_View_insert_54 hc hr hR hkv hw (lv_sub hl [0, 1, 2] rfl) hf
    · replace hf := if_f hf c1
      refine lv_aload_n hx hb (dq tk_View_insert 4 rfl) rfl (lv_at hl 0 rfl) ?_
      refine G_View_events hkv hc hw wd_620 (dq tk_View_insert 5 rfl) ?_
      refine G_Events_from hc hw wd_213 (dq tk_View_insert 6 rfl) ?_
      refine lv_aload_n hx hb (dq tk_View_insert 7 rfl) rfl (lv_at hl 0 rfl) ?_
      refine G_View_list hkv hc hw wd_628 (dq tk_View_insert 8 rfl) ?_
      refine lv_iload_n hx hb (dq tk_View_insert 9 rfl) rfl (lv_at hl 2 rfl) ?_
      refine lv_iconst (v := 1) hx hb (dq tk_View_insert 10 rfl) (by decide) ?_
      refine lv_isub hx hb (dq tk_View_insert 11 rfl) ?_
      obtain ⟨c2, hf⟩ := chk_some hf
      refine AL_View_list hkv hc hw c2 (dq tk_View_insert 12 rfl) ?_
      obtain ⟨c3, hf⟩ := chk_some hf
      refine AL_Events_from hc hw c3 (dq tk_View_insert 13 rfl) ?_
      refine lv_aload_n hx hb (dq tk_View_insert 14 rfl) rfl (lv_at hl 0 rfl) ?_
      refine G_View_events hkv hc hw wd_620 (dq tk_View_insert 15 rfl) ?_
      refine G_Events_from hc hw wd_213 (dq tk_View_insert 16 rfl) ?_
      refine lv_iload_n hx hb (dq tk_View_insert 17 rfl) rfl (lv_at hl 1 rfl) ?_
      obtain ⟨c4, hf⟩ := chk_some hf
      refine AL_Events_from hc hw c4 (dq tk_View_insert 18 rfl) ?_
      refine lv_icmp_le (tgt := 54) hx hb (dq tk_View_insert 19 rfl) (by decide) (fun c5 => ?_) (fun c5 => ?_)
      · replace hf := if_t hf c5
        exact w_View_insert_54 hc hr hR hkv hw (lv_sub hl [0, 1, 2] rfl) hf
      · replace hf := if_f hf c5
        refine lv_aload_n hx hb (dq tk_View_insert 20 rfl) rfl (lv_at hl 0 rfl) ?_
        refine G_View_list hkv hc hw wd_628 (dq tk_View_insert 21 rfl) ?_
        refine lv_iload_n hx hb (dq tk_View_insert 22 rfl) rfl (lv_at hl 2 rfl) ?_
        refine lv_aload_n hx hb (dq tk_View_insert 23 rfl) rfl (lv_at hl 0 rfl) ?_
        refine G_View_list hkv hc hw wd_628 (dq tk_View_insert 24 rfl) ?_
        refine lv_iload_n hx hb (dq tk_View_insert 25 rfl) rfl (lv_at hl 2 rfl) ?_
        refine lv_iconst (v := 1) hx hb (dq tk_View_insert 26 rfl) (by decide) ?_
        refine lv_isub hx hb (dq tk_View_insert 27 rfl) ?_
        refine AL_View_list hkv hc hw c2 (dq tk_View_insert 28 rfl) ?_
        obtain ⟨c6, hf⟩ := chk_some hf
        obtain ⟨σ1, hσ1, hf⟩ := nm_some hf
        refine AS_View_list hkv hc hw c6 hσ1 (dq tk_View_insert 29 rfl) (fun H locs hw => ?_)
        refine lv_iinc (v := (x3 + (-1))) (lv' := [(3, .int (x3 + (-1))), (0, .ref (Z.1 + (192 + 187 * kv))), (1, .int x1)]) hx hb (dq tk_View_insert 30 rfl) hl (k := 2) rfl rfl (by decide) rfl (fun ls hl => ?_)
        refine lv_goto (tgt := 2) hx hb (dq tk_View_insert 31 rfl) (by decide) ?_
        exact ih hw (lv_sub hl [1, 2, 0] rfl) hf
set_option maxRecDepth 10000 in
theorem w_View_insert {N : Nat} {kv : Nat} (hc : Cxz p s m meth c args prog_12_method_5_code "LabourExchange$View" 4 Z) (hr : meth.sig.returnType = none) (hR : RO R 0) (hkv : kv < 2) {σ' : St} : ∀ {x1 : Int32} {x2 : Int32} {σ : St} {H : Heap} {locs : List Loc} {ls : Array Slot}, Wd Z (cmb σ μ) s H locs → lv_has ls 4 [(0, .ref (Z.1 + (192 + 187 * kv))), (1, .int x1), (2, .int x2)] → fView_insert N kv x1 x2 σ = some σ' → W p l e R s m args below meth c H locs 0 0 (MQ below (Qr Z none True (cmb σ' μ)) args s 0 0 (fun q => Z.1 ≤ q)) (F0 m 0 ls []) := by
  have hx := hc.hx
  have hb := hc.hb
  intro x1 x2 σ H locs ls hw hl hf
  unfold fView_insert at hf
  refine lv_iload_n hx hb (dq tk_View_insert 0 rfl) rfl (lv_at hl 2 rfl) ?_
  refine lv_istore_n (lv' := [(3, .int x2), (0, .ref (Z.1 + (192 + 187 * kv))), (1, .int x1), (2, .int x2)]) hx hb (dq tk_View_insert 1 rfl) rfl hl (by decide) rfl (fun ls hl => ?_)
  exact w_View_insert_2 hc hr hR hkv N hw (lv_sub hl [1, 2, 0] rfl) hf
theorem c_View_insert {N : Nat} {kv : Nat}  {x1 : Int32} {x2 : Int32} {σ' : St} {σ : St} (hkv : kv < 2) (hf : fView_insert N kv x1 x2 σ = some σ') : Ct l Z y_View_insert prog_12_method_5_code 4 none (rmo (0)) [.ref (Z.1 + (192 + 187 * kv)), .int x1, .int x2] (cmb σ μ) none True (cmb σ' μ) := by
  refine x_met (by decide) (Nat.le_of_ble_eq_true rfl) (fun p e s m args below meth c ls hc hr hw hl => ?_)
  exact w_View_insert hc hr RO.self hkv hw hl hf
theorem K_View_insert {idx : Nat} {N : Nat} {kv : Nat}  {x1 : Int32} {x2 : Int32} {σ' : St} {σ : St} (hc : Cxz p s m meth c args cc own nL Z) (hw : Wd Z (cmb σ μ) s H locs) (hkv : kv < 2) (hl : Cond.methodLink own idx y_View_insert ∈ TB) (hf : fView_insert N kv x1 x2 σ = some σ') (hR : RO R ((0) + 1)) (hcs : cells ≤ R.cells ∧ slots ≤ R.slots) (hls : ls.size = nL) (hst : (rest.map fun v => v.category).sum ≤ 8) (hdg : decode cc pc = .ok (.invokevirtual idx, 3)) (kk : ∀ (H1 : Heap) (locs1 : List Loc), Wd Z (cmb σ' μ) s H1 locs1 → True → W p l e R s m args below meth c H1 locs1 cells slots Q (F0 m (pc + 3) ls rest)) : W p l e R s m args below meth c H locs cells slots Q (F0 m pc ls (.int x2 :: .int x1 :: .ref (Z.1 + (192 + 187 * kv)) :: rest)) :=
  x_iv hc hw (c_View_insert hkv hf) yv_View_insert (wd_view (r := 0) hkv (by decide) (by omega)).1 (wd_view (r := 0) hkv (by decide) (by omega)).2 rfl hl (RO.call hR (by decide)) hcs rfl hls hst hdg rfl kk
set_option maxRecDepth 10000 in
theorem w_View_listEvents_4 {N : Nat} {kv : Nat} (hc : Cxz p s m meth c args prog_12_method_4_code "LabourExchange$View" 4 Z) (hr : meth.sig.returnType = (some .int)) (hR : RO R 1) (hkv : kv < 2) {rv : Int32} {σ' : St} (n : Nat) : ∀ {x1 : Int32} {x2 : Int32} {x3 : Int32} {σ : St} {H : Heap} {locs : List Loc} {ls : Array Slot}, Wd Z (cmb σ μ) s H locs → lv_has ls 4 [(0, .ref (Z.1 + (192 + 187 * kv))), (1, .int x1), (2, .int x2), (3, .int x3)] → fView_listEvents_4 N kv n x1 x2 x3 σ = some (rv, σ') → W p l e R s m args below meth c H locs 0 0 (MQ below (Qr Z (some (.int rv)) True (cmb σ' μ)) args s 0 0 (fun q => Z.1 ≤ q)) (F0 m 4 ls []) := by
  have hx := hc.hx
  have hb := hc.hb
  induction n with
  | zero =>
    intro x1 x2 x3 σ H locs ls hw hl hf
    have hf : none = some _ := hf
    cases hf
  | succ n ih =>
    intro x1 x2 x3 σ H locs ls hw hl hf
    unfold fView_listEvents_4 at hf
    refine lv_iload_n hx hb (dq tk_View_listEvents 4 rfl) rfl (lv_at hl 3 rfl) ?_
    refine lv_aload_n hx hb (dq tk_View_listEvents 5 rfl) rfl (lv_at hl 0 rfl) ?_
    refine G_View_events hkv hc hw wd_620 (dq tk_View_listEvents 6 rfl) ?_
    refine G_Events_count hc hw wd_220 (dq tk_View_listEvents 7 rfl) ?_
    refine lv_icmp_ge (tgt := 110) hx hb (dq tk_View_listEvents 8 rfl) (by decide) (fun c1 => ?_) (fun c1 => ?_)
    · replace hf := if_t hf c1
      refine lv_iload_n hx hb (dq tk_View_listEvents 59 rfl) rfl (lv_at hl 2 rfl) ?_
      cases hf
      exact x_iret hc hw hr (dq tk_View_listEvents 60 rfl)
    · replace hf := if_f hf c1
      refine lv_aload_n hx hb (dq tk_View_listEvents 9 rfl) rfl (lv_at hl 0 rfl) ?_
      refine G_View_events hkv hc hw wd_620 (dq tk_View_listEvents 10 rfl) ?_
      refine G_Events_person hc hw wd_207 (dq tk_View_listEvents 11 rfl) ?_
      refine lv_iload_n hx hb (dq tk_View_listEvents 12 rfl) rfl (lv_at hl 3 rfl) ?_
      obtain ⟨c2, hf⟩ := chk_some hf
      refine AL_Events_person hc hw c2 (dq tk_View_listEvents 13 rfl) ?_
      refine lv_iload_n hx hb (dq tk_View_listEvents 14 rfl) rfl (lv_at hl 1 rfl) ?_
      refine lv_icmp_eq (tgt := 31) hx hb (dq tk_View_listEvents 15 rfl) (by decide) (fun c3 => ?_) (fun c3 => ?_)
      · replace hf := if_t hf c3
        refine lv_aload_n hx hb (dq tk_View_listEvents 17 rfl) rfl (lv_at hl 0 rfl) ?_
        refine G_View_does hkv hc hw wd_625 (dq tk_View_listEvents 18 rfl) ?_
        refine lv_iload_n hx hb (dq tk_View_listEvents 19 rfl) rfl (lv_at hl 3 rfl) ?_
        refine lv_iconst (v := 0) hx hb (dq tk_View_listEvents 20 rfl) (by decide) ?_
        obtain ⟨σ1, hσ1, hf⟩ := nm_some hf
        refine AS_View_does hkv hc hw c2 hσ1 (dq tk_View_listEvents 21 rfl) (fun H locs hw => ?_)
        refine lv_aload_n hx hb (dq tk_View_listEvents 22 rfl) rfl (lv_at hl 0 rfl) ?_
        refine G_View_cleared hkv hc hw wd_627 (dq tk_View_listEvents 23 rfl) ?_
        refine lv_iload_n hx hb (dq tk_View_listEvents 24 rfl) rfl (lv_at hl 3 rfl) ?_
        refine lv_iconst (v := 0) hx hb (dq tk_View_listEvents 25 rfl) (by decide) ?_
        obtain ⟨σ2, hσ2, hf⟩ := nm_some hf
        refine AS_View_cleared hkv hc hw c2 hσ2 (dq tk_View_listEvents 26 rfl) (fun H locs hw => ?_)
        refine lv_aload_n hx hb (dq tk_View_listEvents 27 rfl) rfl (lv_at hl 0 rfl) ?_
        refine G_View_events hkv hc hw wd_620 (dq tk_View_listEvents 28 rfl) ?_
        refine lv_iload_n hx hb (dq tk_View_listEvents 29 rfl) rfl (lv_at hl 3 rfl) ?_
        refine lv_aload_n hx hb (dq tk_View_listEvents 30 rfl) rfl (lv_at hl 0 rfl) ?_
        refine G_View_on hkv hc hw wd_629 (dq tk_View_listEvents 31 rfl) ?_
        obtain ⟨r3, h32, hf⟩ := bn1_someZ hf
        refine K_Events_isKnown hc hw wd_801 h32 (hR.mono (by decide)) ⟨Nat.zero_le _, Nat.zero_le _⟩ hl.1 (Nat.le_of_ble_eq_true rfl) (dq tk_View_listEvents 32 rfl) (fun H locs hw _ => ?_)
        refine lv_if_ne (tgt := 63) hx hb (dq tk_View_listEvents 33 rfl) (by decide) (fun c4 => ?_) (fun c4 => ?_)
        · replace hf := if_f hf c4
          refine lv_aload_n hx hb (dq tk_View_listEvents 35 rfl) rfl (lv_at hl 0 rfl) ?_
          refine G_View_events hkv hc hw wd_620 (dq tk_View_listEvents 36 rfl) ?_
          refine G_Events_kind hc hw wd_204 (dq tk_View_listEvents 37 rfl) ?_
          refine lv_iload_n hx hb (dq tk_View_listEvents 38 rfl) rfl (lv_at hl 3 rfl) ?_
          refine AL_Events_kind hc hw c2 (dq tk_View_listEvents 39 rfl) ?_
          refine lv_bipush (v := 8) hx hb (dq tk_View_listEvents 40 rfl) (by decide) ?_
          refine lv_icmp_ne (tgt := 95) hx hb (dq tk_View_listEvents 41 rfl) (by decide) (fun c5 => ?_) (fun c5 => ?_)
          · replace hf := if_f hf c5
            refine lv_aload_n hx hb (dq tk_View_listEvents 52 rfl) rfl (lv_at hl 0 rfl) ?_
            refine lv_iload_n hx hb (dq tk_View_listEvents 53 rfl) rfl (lv_at hl 3 rfl) ?_
            refine lv_iload_n hx hb (dq tk_View_listEvents 54 rfl) rfl (lv_at hl 2 rfl) ?_
            obtain ⟨σ4, h55, hf⟩ := bn1_someZ hf
            refine K_View_insert hc hw hkv wd_805 h55 (hR.mono (by decide)) ⟨Nat.zero_le _, Nat.zero_le _⟩ hl.1 (Nat.le_of_ble_eq_true rfl) (dq tk_View_listEvents 55 rfl) (fun H locs hw _ => ?_)
            refine lv_iinc (v := (x2 + 1)) (lv' := [(2, .int (x2 + 1)), (0, .ref (Z.1 + (192 + 187 * kv))), (1, .int x1), (3, .int x3)]) hx hb (dq tk_View_listEvents 56 rfl) hl (k := 2) rfl rfl (by decide) rfl (fun ls hl => ?_)
            refine lv_iinc (v := (x3 + 1)) (lv' := [(3, .int (x3 + 1)), (2, .int (x2 + 1)), (0, .ref (Z.1 + (192 + 187 * kv))), (1, .int x1)]) hx hb (dq tk_View_listEvents 57 rfl) hl (k := 3) rfl rfl (by decide) rfl (fun ls hl => ?_)
            refine lv_goto (tgt := 4) hx hb (dq tk_View_listEvents 58 rfl) (by decide) ?_
            exact ih hw (lv_sub hl [2, 3, 1, 0] rfl) hf
          · replace hf := if_t hf c5
            refine lv_aload_n hx hb (dq tk_View_listEvents 42 rfl) rfl (lv_at hl 0 rfl) ?_
            refine G_View_cleared hkv hc hw wd_627 (dq tk_View_listEvents 43 rfl) ?_
            refine lv_aload_n hx hb (dq tk_View_listEvents 44 rfl) rfl (lv_at hl 0 rfl) ?_
            refine G_View_events hkv hc hw wd_620 (dq tk_View_listEvents 45 rfl) ?_
            refine G_Events_number hc hw wd_210 (dq tk_View_listEvents 46 rfl) ?_
            refine lv_iload_n hx hb (dq tk_View_listEvents 47 rfl) rfl (lv_at hl 3 rfl) ?_
            refine AL_Events_number hc hw c2 (dq tk_View_listEvents 48 rfl) ?_
            refine lv_iconst (v := 1) hx hb (dq tk_View_listEvents 49 rfl) (by decide) ?_
            obtain ⟨c6, hf⟩ := chk_some hf
            obtain ⟨σ5, hσ5, hf⟩ := nm_some hf
            refine AS_View_cleared hkv hc hw c6 hσ5 (dq tk_View_listEvents 50 rfl) (fun H locs hw => ?_)
            refine lv_goto (tgt := 104) hx hb (dq tk_View_listEvents 51 rfl) (by decide) ?_
            refine lv_iinc (v := (x3 + 1)) (lv' := [(3, .int (x3 + 1)), (0, .ref (Z.1 + (192 + 187 * kv))), (1, .int x1), (2, .int x2)]) hx hb (dq tk_View_listEvents 57 rfl) hl (k := 3) rfl rfl (by decide) rfl (fun ls hl => ?_)
            refine lv_goto (tgt := 4) hx hb (dq tk_View_listEvents 58 rfl) (by decide) ?_
            exact ih hw (lv_sub hl [1, 2, 3, 0] rfl) hf
        · replace hf := if_t hf c4
          refine lv_goto (tgt := 104) hx hb (dq tk_View_listEvents 34 rfl) (by decide) ?_
          refine lv_iinc (v := (x3 + 1)) (lv' := [(3, .int (x3 + 1)), (0, .ref (Z.1 + (192 + 187 * kv))), (1, .int x1), (2, .int x2)]) hx hb (dq tk_View_listEvents 57 rfl) hl (k := 3) rfl rfl (by decide) rfl (fun ls hl => ?_)
          refine lv_goto (tgt := 4) hx hb (dq tk_View_listEvents 58 rfl) (by decide) ?_
          exact ih hw (lv_sub hl [1, 2, 3, 0] rfl) hf
      · replace hf := if_f hf c3
        refine lv_goto (tgt := 104) hx hb (dq tk_View_listEvents 16 rfl) (by decide) ?_
        refine lv_iinc (v := (x3 + 1)) (lv' := [(3, .int (x3 + 1)), (0, .ref (Z.1 + (192 + 187 * kv))), (1, .int x1), (2, .int x2)]) hx hb (dq tk_View_listEvents 57 rfl) hl (k := 3) rfl rfl (by decide) rfl (fun ls hl => ?_)
        refine lv_goto (tgt := 4) hx hb (dq tk_View_listEvents 58 rfl) (by decide) ?_
        exact ih hw (lv_sub hl [1, 2, 3, 0] rfl) hf
set_option maxRecDepth 10000 in
theorem w_View_listEvents {N : Nat} {kv : Nat} (hc : Cxz p s m meth c args prog_12_method_4_code "LabourExchange$View" 4 Z) (hr : meth.sig.returnType = (some .int)) (hR : RO R 1) (hkv : kv < 2) {rv : Int32} {σ' : St} : ∀ {x1 : Int32} {σ : St} {H : Heap} {locs : List Loc} {ls : Array Slot}, Wd Z (cmb σ μ) s H locs → lv_has ls 4 [(0, .ref (Z.1 + (192 + 187 * kv))), (1, .int x1)] → fView_listEvents N kv x1 σ = some (rv, σ') → W p l e R s m args below meth c H locs 0 0 (MQ below (Qr Z (some (.int rv)) True (cmb σ' μ)) args s 0 0 (fun q => Z.1 ≤ q)) (F0 m 0 ls []) := by
  have hx := hc.hx
  have hb := hc.hb
  intro x1 σ H locs ls hw hl hf
  unfold fView_listEvents at hf
  refine lv_iconst (v := 0) hx hb (dq tk_View_listEvents 0 rfl) (by decide) ?_
  refine lv_istore_n (lv' := [(2, .int 0), (0, .ref (Z.1 + (192 + 187 * kv))), (1, .int x1)]) hx hb (dq tk_View_listEvents 1 rfl) rfl hl (by decide) rfl (fun ls hl => ?_)
  refine lv_iconst (v := 0) hx hb (dq tk_View_listEvents 2 rfl) (by decide) ?_
  refine lv_istore_n (lv' := [(3, .int 0), (2, .int 0), (0, .ref (Z.1 + (192 + 187 * kv))), (1, .int x1)]) hx hb (dq tk_View_listEvents 3 rfl) rfl hl (by decide) rfl (fun ls hl => ?_)
  exact w_View_listEvents_4 hc hr hR hkv N hw (lv_sub hl [2, 3, 1, 0] rfl) hf
theorem c_View_listEvents {N : Nat} {kv : Nat}  {x1 : Int32} {rv : Int32} {σ' : St} {σ : St} (hkv : kv < 2) (hf : fView_listEvents N kv x1 σ = some (rv, σ')) : Ct l Z y_View_listEvents prog_12_method_4_code 4 (some .int) (rmo (1)) [.ref (Z.1 + (192 + 187 * kv)), .int x1] (cmb σ μ) (some (.int rv)) True (cmb σ' μ) := by
  refine x_met (by decide) (Nat.le_of_ble_eq_true rfl) (fun p e s m args below meth c ls hc hr hw hl => ?_)
  exact w_View_listEvents hc hr RO.self hkv hw hl hf
theorem K_View_listEvents {idx : Nat} {N : Nat} {kv : Nat}  {x1 : Int32} {rv : Int32} {σ' : St} {σ : St} (hc : Cxz p s m meth c args cc own nL Z) (hw : Wd Z (cmb σ μ) s H locs) (hkv : kv < 2) (hl : Cond.methodLink own idx y_View_listEvents ∈ TB) (hf : fView_listEvents N kv x1 σ = some (rv, σ')) (hR : RO R ((1) + 1)) (hcs : cells ≤ R.cells ∧ slots ≤ R.slots) (hls : ls.size = nL) (hst : (rest.map fun v => v.category).sum ≤ 8) (hdg : decode cc pc = .ok (.invokevirtual idx, 3)) (kk : ∀ (H1 : Heap) (locs1 : List Loc), Wd Z (cmb σ' μ) s H1 locs1 → True → W p l e R s m args below meth c H1 locs1 cells slots Q (F0 m (pc + 3) ls (.int rv :: rest))) : W p l e R s m args below meth c H locs cells slots Q (F0 m pc ls (.int x1 :: .ref (Z.1 + (192 + 187 * kv)) :: rest)) :=
  x_iv hc hw (c_View_listEvents hkv hf) yv_View_listEvents (wd_view (r := 0) hkv (by decide) (by omega)).1 (wd_view (r := 0) hkv (by decide) (by omega)).2 rfl hl (RO.call hR (by decide)) hcs rfl hls hst hdg rfl kk
set_option maxRecDepth 10000 in
theorem w_View_lifeOf_183 {N : Nat} {kv : Nat} (hc : Cxz p s m meth c args prog_12_method_3_code "LabourExchange$View" 7 Z) (hr : meth.sig.returnType = (some (.object "LabourExchange$Life"))) (hR : RO R 5) (hkv : kv < 2) {rv : (Nat × Nat)} {σ' : St} {go93 : Nat → Int32 → Int32 → Int32 → St → Option ((Nat × Nat) × St)} (hgo93 : ∀ {k2_1 : Nat} {x3 : Int32} {x4 : Int32} {x5 : Int32} {σ : St} {H : Heap} {locs : List Loc} {ls : Array Slot} (hk2_1 : k2_1 < 20), Wd Z (cmb σ μ) s H locs → lv_has ls 7 [(0, .ref (Z.1 + (192 + 187 * kv))), (2, .ref (Z.1 + (279 + 187 * kv + 5 * k2_1))), (3, .int x3), (4, .int x4), (5, .int x5)] → go93 k2_1 x3 x4 x5 σ = some (rv, σ') → W p l e R s m args below meth c H locs 0 0 (MQ below (Qr Z (some (.ref (Z.1 + (279 + 187 * rv.1 + 5 * rv.2)))) (rv.1 < 2 ∧ rv.2 < 20) (cmb σ' μ)) args s 0 0 (fun q => Z.1 ≤ q)) (F0 m 93 ls [])) : ∀ {k2_1 : Nat} {x3 : Int32} {x4 : Int32} {x5 : Int32} {σ : St} {H : Heap} {locs : List Loc} {ls : Array Slot} (hk2_1 : k2_1 < 20), Wd Z (cmb σ μ) s H locs → lv_has ls 7 [(0, .ref (Z.1 + (192 + 187 * kv))), (2, .ref (Z.1 + (279 + 187 * kv + 5 * k2_1))), (3, .int x3), (4, .int x4), (5, .int x5)] → fView_lifeOf_183 N kv go93 k2_1 x3 x4 x5 σ = some (rv, σ') → W p l e R s m args below meth c H locs 0 0 (MQ below (Qr Z (some (.ref (Z.1 + (279 + 187 * rv.1 + 5 * rv.2)))) (rv.1 < 2 ∧ rv.2 < 20) (cmb σ' μ)) args s 0 0 (fun q => Z.1 ≤ q)) (F0 m 183 ls []) := by
  have hx := hc.hx
  have hb := hc.hb
  intro k2_1 x3 x4 x5 σ H locs ls hk2_1 hw hl hf
  unfold fView_lifeOf_183 at hf
  refine lv_aload_n hx hb (dq tk_View_lifeOf 96 rfl) rfl (lv_at hl 1 rfl) ?_
  refine lv_iload hx hb (dq tk_View_lifeOf 97 rfl) (lv_at hl 4 rfl) ?_
  obtain ⟨σ1, h98, hf⟩ := bn1_someZ hf
  refine K_Life_pass hc hw hkv hk2_1 wd_916 h98 (hR.mono (by decide)) ⟨Nat.zero_le _, Nat.zero_le _⟩ hl.1 (Nat.le_of_ble_eq_true rfl) (dq tk_View_lifeOf 98 rfl) (fun H locs hw _ => ?_)
  refine lv_iinc (v := (x5 + 1)) (lv' := [(5, .int (x5 + 1)), (0, .ref (Z.1 + (192 + 187 * kv))), (2, .ref (Z.1 + (279 + 187 * kv + 5 * k2_1))), (3, .int x3), (4, .int x4)]) hx hb (dq tk_View_lifeOf 99 rfl) hl (k := 4) rfl rfl (by decide) rfl (fun ls hl => ?_)
  refine lv_goto (tgt := 93) hx hb (dq tk_View_lifeOf 100 rfl) (by decide) ?_
  exact hgo93 hk2_1 hw (lv_sub hl [1, 2, 3, 4, 0] rfl) hf
set_option maxRecDepth 10000 in
theorem w_View_lifeOf_102 {N : Nat} {kv : Nat} (hc : Cxz p s m meth c args prog_12_method_3_code "LabourExchange$View" 7 Z) (hr : meth.sig.returnType = (some (.object "LabourExchange$Life"))) (hR : RO R 5) (hkv : kv < 2) {rv : (Nat × Nat)} {σ' : St} {go93 : Nat → Int32 → Int32 → Int32 → St → Option ((Nat × Nat) × St)} (hgo93 : ∀ {k2_1 : Nat} {x3 : Int32} {x4 : Int32} {x5 : Int32} {σ : St} {H : Heap} {locs : List Loc} {ls : Array Slot} (hk2_1 : k2_1 < 20), Wd Z (cmb σ μ) s H locs → lv_has ls 7 [(0, .ref (Z.1 + (192 + 187 * kv))), (2, .ref (Z.1 + (279 + 187 * kv + 5 * k2_1))), (3, .int x3), (4, .int x4), (5, .int x5)] → go93 k2_1 x3 x4 x5 σ = some (rv, σ') → W p l e R s m args below meth c H locs 0 0 (MQ below (Qr Z (some (.ref (Z.1 + (279 + 187 * rv.1 + 5 * rv.2)))) (rv.1 < 2 ∧ rv.2 < 20) (cmb σ' μ)) args s 0 0 (fun q => Z.1 ≤ q)) (F0 m 93 ls [])) (n : Nat) : ∀ {k2_1 : Nat} {x3 : Int32} {x4 : Int32} {x5 : Int32} {σ : St} {H : Heap} {locs : List Loc} {ls : Array Slot} (hk2_1 : k2_1 < 20), Wd Z (cmb σ μ) s H locs → lv_has ls 7 [(0, .ref (Z.1 + (192 + 187 * kv))), (2, .ref (Z.1 + (279 + 187 * kv + 5 * k2_1))), (3, .int x3), (4, .int x4), (5, .int x5)] → fView_lifeOf_102 N kv go93 n k2_1 x3 x4 x5 σ = some (rv, σ') → W p l e R s m args below meth c H locs 0 0 (MQ below (Qr Z (some (.ref (Z.1 + (279 + 187 * rv.1 + 5 * rv.2)))) (rv.1 < 2 ∧ rv.2 < 20) (cmb σ' μ)) args s 0 0 (fun q => Z.1 ≤ q)) (F0 m 102 ls []) := by
  have hx := hc.hx
  have hb := hc.hb
  induction n with
  | zero =>
    intro k2_1 x3 x4 x5 σ H locs ls hk2_1 hw hl hf
    have hf : none = some _ := hf
    cases hf
  | succ n ih =>
    intro k2_1 x3 x4 x5 σ H locs ls hk2_1 hw hl hf
    unfold fView_lifeOf_102 at hf
    refine lv_iload hx hb (dq tk_View_lifeOf 55 rfl) (lv_at hl 3 rfl) ?_
    refine lv_iload_n hx hb (dq tk_View_lifeOf 56 rfl) rfl (lv_at hl 2 rfl) ?_
    refine lv_icmp_ge (tgt := 183) hx hb (dq tk_View_lifeOf 57 rfl) (by decide) (fun c1 => ?_) (fun c1 => ?_)
    · replace hf := if_t hf c1
      exact w_View_lifeOf_183 hc hr hR hkv hgo93 hk2_1 hw (lv_sub hl [0, 1, 2, 3, 4] rfl) hf
    · replace hf := if_f hf c1
      refine lv_aload_n hx hb (dq tk_View_lifeOf 58 rfl) rfl (lv_at hl 0 rfl) ?_
      refine G_View_events hkv hc hw wd_620 (dq tk_View_lifeOf 59 rfl) ?_
      refine G_Events_from hc hw wd_213 (dq tk_View_lifeOf 60 rfl) ?_
      refine lv_aload_n hx hb (dq tk_View_lifeOf 61 rfl) rfl (lv_at hl 0 rfl) ?_
      refine G_View_list hkv hc hw wd_628 (dq tk_View_lifeOf 62 rfl) ?_
      refine lv_iload hx hb (dq tk_View_lifeOf 63 rfl) (lv_at hl 3 rfl) ?_
      obtain ⟨c2, hf⟩ := chk_some hf
      refine AL_View_list hkv hc hw c2 (dq tk_View_lifeOf 64 rfl) ?_
      obtain ⟨c3, hf⟩ := chk_some hf
      refine AL_Events_from hc hw c3 (dq tk_View_lifeOf 65 rfl) ?_
      refine lv_iload hx hb (dq tk_View_lifeOf 66 rfl) (lv_at hl 4 rfl) ?_
      refine lv_icmp_ne (tgt := 183) hx hb (dq tk_View_lifeOf 67 rfl) (by decide) (fun c4 => ?_) (fun c4 => ?_)
      · replace hf := if_f hf c4
        exact w_View_lifeOf_183 hc hr hR hkv hgo93 hk2_1 hw (lv_sub hl [0, 1, 2, 3, 4] rfl) hf
      · replace hf := if_t hf c4
        refine lv_aload_n hx hb (dq tk_View_lifeOf 68 rfl) rfl (lv_at hl 0 rfl) ?_
        refine G_View_list hkv hc hw wd_628 (dq tk_View_lifeOf 69 rfl) ?_
        refine lv_iload hx hb (dq tk_View_lifeOf 70 rfl) (lv_at hl 3 rfl) ?_
        refine AL_View_list hkv hc hw c2 (dq tk_View_lifeOf 71 rfl) ?_
        obtain ⟨y1, hy1, hf⟩ := nm_some hf
        refine tst (congrArg Value.int hy1) ?_
        refine lv_istore (lv' := [(6, .int y1), (0, .ref (Z.1 + (192 + 187 * kv))), (2, .ref (Z.1 + (279 + 187 * kv + 5 * k2_1))), (3, .int x3), (4, .int x4), (5, .int x5)]) hx hb (dq tk_View_lifeOf 72 rfl) hl (by decide) rfl (fun ls hl => ?_)
        refine lv_aload_n hx hb (dq tk_View_lifeOf 73 rfl) rfl (lv_at hl 1 rfl) ?_
        refine G_View_does hkv hc hw wd_625 (dq tk_View_lifeOf 74 rfl) ?_
        refine lv_iload hx hb (dq tk_View_lifeOf 75 rfl) (lv_at hl 0 rfl) ?_
        refine lv_aload_n hx hb (dq tk_View_lifeOf 76 rfl) rfl (lv_at hl 2 rfl) ?_
        refine lv_aload_n hx hb (dq tk_View_lifeOf 77 rfl) rfl (lv_at hl 1 rfl) ?_
        refine G_View_events hkv hc hw wd_620 (dq tk_View_lifeOf 78 rfl) ?_
        refine G_Events_kind hc hw wd_204 (dq tk_View_lifeOf 79 rfl) ?_
        refine lv_iload hx hb (dq tk_View_lifeOf 80 rfl) (lv_at hl 0 rfl) ?_
        obtain ⟨c5, hf⟩ := chk_some hf
        refine AL_Events_kind hc hw c5 (dq tk_View_lifeOf 81 rfl) ?_
        refine lv_aload_n hx hb (dq tk_View_lifeOf 82 rfl) rfl (lv_at hl 1 rfl) ?_
        refine G_View_events hkv hc hw wd_620 (dq tk_View_lifeOf 83 rfl) ?_
        refine G_Events_number hc hw wd_210 (dq tk_View_lifeOf 84 rfl) ?_
        refine lv_iload hx hb (dq tk_View_lifeOf 85 rfl) (lv_at hl 0 rfl) ?_
        refine AL_Events_number hc hw c5 (dq tk_View_lifeOf 86 rfl) ?_
        refine lv_iload hx hb (dq tk_View_lifeOf 87 rfl) (lv_at hl 5 rfl) ?_
        refine lv_aload_n hx hb (dq tk_View_lifeOf 88 rfl) rfl (lv_at hl 1 rfl) ?_
        refine G_View_cleared hkv hc hw wd_627 (dq tk_View_lifeOf 89 rfl) ?_
        refine lv_iload hx hb (dq tk_View_lifeOf 90 rfl) (lv_at hl 0 rfl) ?_
        refine AL_View_cleared hkv hc hw c5 (dq tk_View_lifeOf 91 rfl) ?_
        obtain ⟨r2, σ3, h92, hf⟩ := bnd_some hf
        refine K_Life_meets hc hw hkv hk2_1 wd_809 h92 (hR.mono (by decide)) ⟨Nat.zero_le _, Nat.zero_le _⟩ hl.1 (Nat.le_of_ble_eq_true rfl) (dq tk_View_lifeOf 92 rfl) (fun H locs hw _ => ?_)
        obtain ⟨σ4, hσ4, hf⟩ := nm_some hf
        refine AS_View_does hkv hc hw c5 hσ4 (dq tk_View_lifeOf 93 rfl) (fun H locs hw => ?_)
        refine lv_iinc (v := (x4 + 1)) (lv' := [(4, .int (x4 + 1)), (6, .int y1), (0, .ref (Z.1 + (192 + 187 * kv))), (2, .ref (Z.1 + (279 + 187 * kv + 5 * k2_1))), (3, .int x3), (5, .int x5)]) hx hb (dq tk_View_lifeOf 94 rfl) hl (k := 4) rfl rfl (by decide) rfl (fun ls hl => ?_)
        refine lv_goto (tgt := 102) hx hb (dq tk_View_lifeOf 95 rfl) (by decide) ?_
        exact ih hk2_1 hw (lv_sub hl [2, 3, 4, 0, 5] rfl) hf
set_option maxRecDepth 10000 in
theorem w_View_lifeOf_93 {N : Nat} {kv : Nat} (hc : Cxz p s m meth c args prog_12_method_3_code "LabourExchange$View" 7 Z) (hr : meth.sig.returnType = (some (.object "LabourExchange$Life"))) (hR : RO R 5) (hkv : kv < 2) {rv : (Nat × Nat)} {σ' : St} (n : Nat) : ∀ {k2_1 : Nat} {x3 : Int32} {x4 : Int32} {x5 : Int32} {σ : St} {H : Heap} {locs : List Loc} {ls : Array Slot} (hk2_1 : k2_1 < 20), Wd Z (cmb σ μ) s H locs → lv_has ls 7 [(0, .ref (Z.1 + (192 + 187 * kv))), (2, .ref (Z.1 + (279 + 187 * kv + 5 * k2_1))), (3, .int x3), (4, .int x4), (5, .int x5)] → fView_lifeOf_93 N kv n k2_1 x3 x4 x5 σ = some (rv, σ') → W p l e R s m args below meth c H locs 0 0 (MQ below (Qr Z (some (.ref (Z.1 + (279 + 187 * rv.1 + 5 * rv.2)))) (rv.1 < 2 ∧ rv.2 < 20) (cmb σ' μ)) args s 0 0 (fun q => Z.1 ≤ q)) (F0 m 93 ls []) := by
  have hx := hc.hx
  have hb := hc.hb
  induction n with
  | zero =>
    intro k2_1 x3 x4 x5 σ H locs ls hk2_1 hw hl hf
    have hf : none = some _ := hf
    cases hf
  | succ n ih =>
    intro k2_1 x3 x4 x5 σ H locs ls hk2_1 hw hl hf
    unfold fView_lifeOf_93 at hf
    refine lv_iload hx hb (dq tk_View_lifeOf 51 rfl) (lv_at hl 4 rfl) ?_
    refine lv_aload_n hx hb (dq tk_View_lifeOf 52 rfl) rfl (lv_at hl 0 rfl) ?_
    refine G_View_on hkv hc hw wd_629 (dq tk_View_lifeOf 53 rfl) ?_
    refine lv_icmp_gt (tgt := 195) hx hb (dq tk_View_lifeOf 54 rfl) (by decide) (fun c1 => ?_) (fun c1 => ?_)
    · replace hf := if_t hf c1
      refine lv_aload_n hx hb (dq tk_View_lifeOf 101 rfl) rfl (lv_at hl 1 rfl) ?_
      cases hf
      exact x_aret ⟨hkv, hk2_1⟩ hc hw hr (dq tk_View_lifeOf 102 rfl)
    · replace hf := if_f hf c1
      exact w_View_lifeOf_102 hc hr hR hkv ih N hk2_1 hw (lv_sub hl [0, 1, 2, 3, 4] rfl) hf
set_option maxRecDepth 10000 in
theorem w_View_lifeOf_82 {N : Nat} {kv : Nat} (hc : Cxz p s m meth c args prog_12_method_3_code "LabourExchange$View" 7 Z) (hr : meth.sig.returnType = (some (.object "LabourExchange$Life"))) (hR : RO R 5) (hkv : kv < 2) {rv : (Nat × Nat)} {σ' : St} : ∀ {k2_1 : Nat} {x3 : Int32} {σ : St} {H : Heap} {locs : List Loc} {ls : Array Slot} (hk2_1 : k2_1 < 20), Wd Z (cmb σ μ) s H locs → lv_has ls 7 [(0, .ref (Z.1 + (192 + 187 * kv))), (2, .ref (Z.1 + (279 + 187 * kv + 5 * k2_1))), (3, .int x3)] → fView_lifeOf_82 N kv k2_1 x3 σ = some (rv, σ') → W p l e R s m args below meth c H locs 0 0 (MQ below (Qr Z (some (.ref (Z.1 + (279 + 187 * rv.1 + 5 * rv.2)))) (rv.1 < 2 ∧ rv.2 < 20) (cmb σ' μ)) args s 0 0 (fun q => Z.1 ≤ q)) (F0 m 82 ls []) := by
  have hx := hc.hx
  have hb := hc.hb
  intro k2_1 x3 σ H locs ls hk2_1 hw hl hf
  unfold fView_lifeOf_82 at hf
  refine lv_iconst (v := 0) hx hb (dq tk_View_lifeOf 44 rfl) (by decide) ?_
  refine lv_istore (lv' := [(4, .int 0), (0, .ref (Z.1 + (192 + 187 * kv))), (2, .ref (Z.1 + (279 + 187 * kv + 5 * k2_1))), (3, .int x3)]) hx hb (dq tk_View_lifeOf 45 rfl) hl (by decide) rfl (fun ls hl => ?_)
  refine lv_aload_n hx hb (dq tk_View_lifeOf 46 rfl) rfl (lv_at hl 2 rfl) ?_
  refine G_Life_upTo hkv hk2_1 hc hw wd_561 (dq tk_View_lifeOf 47 rfl) ?_
  refine lv_iconst (v := 1) hx hb (dq tk_View_lifeOf 48 rfl) (by decide) ?_
  refine lv_iadd hx hb (dq tk_View_lifeOf 49 rfl) ?_
  obtain ⟨y1, hy1, hf⟩ := nm_some hf
  refine tst (congrArg Value.int hy1) ?_
  refine lv_istore (lv' := [(5, .int y1), (4, .int 0), (0, .ref (Z.1 + (192 + 187 * kv))), (2, .ref (Z.1 + (279 + 187 * kv + 5 * k2_1))), (3, .int x3)]) hx hb (dq tk_View_lifeOf 50 rfl) hl (by decide) rfl (fun ls hl => ?_)
  exact w_View_lifeOf_93 hc hr hR hkv N hk2_1 hw (lv_sub hl [2, 3, 4, 1, 0] rfl) hf
set_option maxRecDepth 10000 in
theorem w_View_lifeOf_43 {N : Nat} {kv : Nat} (hc : Cxz p s m meth c args prog_12_method_3_code "LabourExchange$View" 7 Z) (hr : meth.sig.returnType = (some (.object "LabourExchange$Life"))) (hR : RO R 5) (hkv : kv < 2) {rv : (Nat × Nat)} {σ' : St} : ∀ {x1 : Int32} {k2_1 : Nat} {σ : St} {H : Heap} {locs : List Loc} {ls : Array Slot} (hk2_1 : k2_1 < 20), Wd Z (cmb σ μ) s H locs → lv_has ls 7 [(0, .ref (Z.1 + (192 + 187 * kv))), (1, .int x1), (2, .ref (Z.1 + (279 + 187 * kv + 5 * k2_1)))] → fView_lifeOf_43 N kv x1 k2_1 σ = some (rv, σ') → W p l e R s m args below meth c H locs 0 0 (MQ below (Qr Z (some (.ref (Z.1 + (279 + 187 * rv.1 + 5 * rv.2)))) (rv.1 < 2 ∧ rv.2 < 20) (cmb σ' μ)) args s 0 0 (fun q => Z.1 ≤ q)) (F0 m 43 ls []) := by
  have hx := hc.hx
  have hb := hc.hb
  intro x1 k2_1 σ H locs ls hk2_1 hw hl hf
  unfold fView_lifeOf_43 at hf
  refine lv_aload_n hx hb (dq tk_View_lifeOf 23 rfl) rfl (lv_at hl 2 rfl) ?_
  obtain ⟨σ1, h24, hf⟩ := bn1_someZ hf
  refine K_Life_begin hc hw hkv hk2_1 wd_783 h24 (hR.mono (by decide)) ⟨Nat.zero_le _, Nat.zero_le _⟩ hl.1 (Nat.le_of_ble_eq_true rfl) (dq tk_View_lifeOf 24 rfl) (fun H locs hw _ => ?_)
  refine lv_aload_n hx hb (dq tk_View_lifeOf 25 rfl) rfl (lv_at hl 2 rfl) ?_
  refine lv_aload_n hx hb (dq tk_View_lifeOf 26 rfl) rfl (lv_at hl 0 rfl) ?_
  refine G_View_land hkv hc hw wd_618 (dq tk_View_lifeOf 27 rfl) ?_
  refine G_Land_changes hc hw wd_106 (dq tk_View_lifeOf 28 rfl) ?_
  refine lv_iload_n hx hb (dq tk_View_lifeOf 29 rfl) rfl (lv_at hl 1 rfl) ?_
  obtain ⟨c1, hf⟩ := chk_some hf
  refine AL_Land_changes hc hw c1 (dq tk_View_lifeOf 30 rfl) ?_
  obtain ⟨σ2, hσ2, hf⟩ := nm_some hf
  refine P_Life_seen hkv hk2_1 hc hw wd_559 hσ2 (dq tk_View_lifeOf 31 rfl) (fun H locs hw => ?_)
  refine lv_aload_n hx hb (dq tk_View_lifeOf 32 rfl) rfl (lv_at hl 0 rfl) ?_
  refine G_View_books hkv hc hw wd_619 (dq tk_View_lifeOf 33 rfl) ?_
  refine lv_iload_n hx hb (dq tk_View_lifeOf 34 rfl) rfl (lv_at hl 1 rfl) ?_
  refine lv_aload_n hx hb (dq tk_View_lifeOf 35 rfl) rfl (lv_at hl 0 rfl) ?_
  refine G_View_on hkv hc hw wd_629 (dq tk_View_lifeOf 36 rfl) ?_
  refine lv_aload_n hx hb (dq tk_View_lifeOf 37 rfl) rfl (lv_at hl 2 rfl) ?_
  refine G_Life_stamps hkv hk2_1 hc hw wd_555 (dq tk_View_lifeOf 38 rfl) ?_
  obtain ⟨σ3, h39, hf⟩ := bn1_someZ hf
  refine K_Books_copyStamps hc hw hkv hk2_1 wd_788 h39 (hR.mono (by decide)) ⟨Nat.zero_le _, Nat.zero_le _⟩ hl.1 (Nat.le_of_ble_eq_true rfl) (dq tk_View_lifeOf 39 rfl) (fun H locs hw _ => ?_)
  refine lv_aload_n hx hb (dq tk_View_lifeOf 40 rfl) rfl (lv_at hl 0 rfl) ?_
  refine lv_iload_n hx hb (dq tk_View_lifeOf 41 rfl) rfl (lv_at hl 1 rfl) ?_
  obtain ⟨r4, σ5, h42, hf⟩ := bnd_some hf
  refine K_View_listEvents hc hw hkv wd_797 h42 (hR.mono (by decide)) ⟨Nat.zero_le _, Nat.zero_le _⟩ hl.1 (Nat.le_of_ble_eq_true rfl) (dq tk_View_lifeOf 42 rfl) (fun H locs hw _ => ?_)
  refine lv_istore_n (lv' := [(3, .int r4), (0, .ref (Z.1 + (192 + 187 * kv))), (1, .int x1), (2, .ref (Z.1 + (279 + 187 * kv + 5 * k2_1)))]) hx hb (dq tk_View_lifeOf 43 rfl) rfl hl (by decide) rfl (fun ls hl => ?_)
  exact w_View_lifeOf_82 hc hr hR hkv hk2_1 hw (lv_sub hl [1, 3, 0] rfl) hf
set_option maxRecDepth 10000 in
theorem w_View_lifeOf {N : Nat} {kv : Nat} (hc : Cxz p s m meth c args prog_12_method_3_code "LabourExchange$View" 7 Z) (hr : meth.sig.returnType = (some (.object "LabourExchange$Life"))) (hR : RO R 5) (hkv : kv < 2) {rv : (Nat × Nat)} {σ' : St} : ∀ {x1 : Int32} {σ : St} {H : Heap} {locs : List Loc} {ls : Array Slot}, Wd Z (cmb σ μ) s H locs → lv_has ls 7 [(0, .ref (Z.1 + (192 + 187 * kv))), (1, .int x1)] → fView_lifeOf N kv x1 σ = some (rv, σ') → W p l e R s m args below meth c H locs 0 0 (MQ below (Qr Z (some (.ref (Z.1 + (279 + 187 * rv.1 + 5 * rv.2)))) (rv.1 < 2 ∧ rv.2 < 20) (cmb σ' μ)) args s 0 0 (fun q => Z.1 ≤ q)) (F0 m 0 ls []) := by
  have hx := hc.hx
  have hb := hc.hb
  intro x1 σ H locs ls hw hl hf
  unfold fView_lifeOf at hf
  refine lv_aload_n hx hb (dq tk_View_lifeOf 0 rfl) rfl (lv_at hl 0 rfl) ?_
  refine G_View_lives hkv hc hw wd_624 (dq tk_View_lifeOf 1 rfl) ?_
  refine lv_iload_n hx hb (dq tk_View_lifeOf 2 rfl) rfl (lv_at hl 1 rfl) ?_
  obtain ⟨c1, hf⟩ := chk_some hf
  refine AL_View_lives hkv hc hw c1 (dq tk_View_lifeOf 3 rfl) ?_
  refine lv_astore_n (lv' := [(2, .ref (Z.1 + (279 + 187 * kv + 5 * x1.toNatClampNeg))), (0, .ref (Z.1 + (192 + 187 * kv))), (1, .int x1)]) hx hb (dq tk_View_lifeOf 4 rfl) rfl hl (by decide) rfl (fun ls hl => ?_)
  refine lv_iconst (v := 0) hx hb (dq tk_View_lifeOf 5 rfl) (by decide) ?_
  refine lv_istore_n (lv' := [(3, .int 0), (2, .ref (Z.1 + (279 + 187 * kv + 5 * x1.toNatClampNeg))), (0, .ref (Z.1 + (192 + 187 * kv))), (1, .int x1)]) hx hb (dq tk_View_lifeOf 6 rfl) rfl hl (by decide) rfl (fun ls hl => ?_)
  refine lv_aload_n hx hb (dq tk_View_lifeOf 7 rfl) rfl (lv_at hl 1 rfl) ?_
  refine G_Life_seen hkv (inb_lt c1) hc hw wd_559 (dq tk_View_lifeOf 8 rfl) ?_
  refine lv_aload_n hx hb (dq tk_View_lifeOf 9 rfl) rfl (lv_at hl 2 rfl) ?_
  refine G_View_land hkv hc hw wd_618 (dq tk_View_lifeOf 10 rfl) ?_
  refine G_Land_changes hc hw wd_106 (dq tk_View_lifeOf 11 rfl) ?_
  refine lv_iload_n hx hb (dq tk_View_lifeOf 12 rfl) rfl (lv_at hl 3 rfl) ?_
  refine AL_Land_changes hc hw c1 (dq tk_View_lifeOf 13 rfl) ?_
  refine lv_icmp_ne (tgt := 43) hx hb (dq tk_View_lifeOf 14 rfl) (by decide) (fun c2 => ?_) (fun c2 => ?_)
  · replace hf := if_f hf c2
    exact w_View_lifeOf_43 hc hr hR hkv (inb_lt c1) hw (lv_sub hl [2, 3, 1] rfl) hf
  · replace hf := if_t hf c2
    refine lv_aload_n hx hb (dq tk_View_lifeOf 15 rfl) rfl (lv_at hl 1 rfl) ?_
    refine G_Life_upTo hkv (inb_lt c1) hc hw wd_561 (dq tk_View_lifeOf 16 rfl) ?_
    refine lv_aload_n hx hb (dq tk_View_lifeOf 17 rfl) rfl (lv_at hl 2 rfl) ?_
    refine G_View_on hkv hc hw wd_629 (dq tk_View_lifeOf 18 rfl) ?_
    refine lv_icmp_eq (tgt := 82) hx hb (dq tk_View_lifeOf 19 rfl) (by decide) (fun c3 => ?_) (fun c3 => ?_)
    · replace hf := if_t hf c3
      exact w_View_lifeOf_82 hc hr hR hkv (inb_lt c1) hw (lv_sub hl [2, 1, 0] rfl) hf
    · replace hf := if_f hf c3
      refine lv_aload_n hx hb (dq tk_View_lifeOf 20 rfl) rfl (lv_at hl 2 rfl) ?_
      refine G_View_ofToday hkv hc hw wd_623 (dq tk_View_lifeOf 21 rfl) ?_
      refine lv_if_ne (tgt := 82) hx hb (dq tk_View_lifeOf 22 rfl) (by decide) (fun c4 => ?_) (fun c4 => ?_)
      · replace hf := if_f hf c4
        exact w_View_lifeOf_82 hc hr hR hkv (inb_lt c1) hw (lv_sub hl [2, 1, 0] rfl) hf
      · replace hf := if_t hf c4
        exact w_View_lifeOf_43 hc hr hR hkv (inb_lt c1) hw (lv_sub hl [2, 3, 1] rfl) hf
theorem c_View_lifeOf {N : Nat} {kv : Nat}  {x1 : Int32} {rv : (Nat × Nat)} {σ' : St} {σ : St} (hkv : kv < 2) (hf : fView_lifeOf N kv x1 σ = some (rv, σ')) : Ct l Z y_View_lifeOf prog_12_method_3_code 7 (some (.object "LabourExchange$Life")) (rmo (5)) [.ref (Z.1 + (192 + 187 * kv)), .int x1] (cmb σ μ) (some (.ref (Z.1 + (279 + 187 * rv.1 + 5 * rv.2)))) (rv.1 < 2 ∧ rv.2 < 20) (cmb σ' μ) := by
  refine x_met (by decide) (Nat.le_of_ble_eq_true rfl) (fun p e s m args below meth c ls hc hr hw hl => ?_)
  exact w_View_lifeOf hc hr RO.self hkv hw hl hf
theorem K_View_lifeOf {idx : Nat} {N : Nat} {kv : Nat}  {x1 : Int32} {rv : (Nat × Nat)} {σ' : St} {σ : St} (hc : Cxz p s m meth c args cc own nL Z) (hw : Wd Z (cmb σ μ) s H locs) (hkv : kv < 2) (hl : Cond.methodLink own idx y_View_lifeOf ∈ TB) (hf : fView_lifeOf N kv x1 σ = some (rv, σ')) (hR : RO R ((5) + 1)) (hcs : cells ≤ R.cells ∧ slots ≤ R.slots) (hls : ls.size = nL) (hst : (rest.map fun v => v.category).sum ≤ 8) (hdg : decode cc pc = .ok (.invokevirtual idx, 3)) (kk : ∀ (H1 : Heap) (locs1 : List Loc), Wd Z (cmb σ' μ) s H1 locs1 → (rv.1 < 2 ∧ rv.2 < 20) → W p l e R s m args below meth c H1 locs1 cells slots Q (F0 m (pc + 3) ls (.ref (Z.1 + (279 + 187 * rv.1 + 5 * rv.2)) :: rest))) : W p l e R s m args below meth c H locs cells slots Q (F0 m pc ls (.int x1 :: .ref (Z.1 + (192 + 187 * kv)) :: rest)) :=
  x_iv hc hw (c_View_lifeOf hkv hf) yv_View_lifeOf (wd_view (r := 0) hkv (by decide) (by omega)).1 (wd_view (r := 0) hkv (by decide) (by omega)).2 rfl hl (RO.call hR (by decide)) hcs rfl hls hst hdg rfl kk
end WALK
