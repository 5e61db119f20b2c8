section LHELP
variable {p : Program} {l : Launch} {e : Env} {R : Room} {s : State} {m : MethodId} {args : Array Value} {below : List Frame} {meth : Method} {c : Code} {H : Heap} {locs : List Loc} {cells slots : Nat} {Q : State → Prop}
variable {Z : ZT} {σ μ : St}
theorem cl_book_n (hst : l.stackTraces = false) {N : Nat} {x1 : Int32} {x2 : Int32} {x3 : Int32} {σ' : St} (hf : fX_book N x1 x2 x3 σ = some (none, σ')) : Clz l Z y_L_book method_3_code 6 hh_L_book { frames := 9, cells := 1, slots := 6, locals := 540 } [.ref (Z.1 + 0), .int x1, .int x2, .int x3, .ref (Z.1 + 674)] (cmb σ μ) 1 (cmb σ' μ) := by
  refine l_met (by decide) (Nat.le_of_ble_eq_true rfl) (fun p e s m args below meth c ls hc htb hr hw hl => ?_)
  have hx := hc.hx
  have hb := hc.hb
  refine lv_aload hx hb (dq tk_L_book_0 0 rfl) (lv_at hl 4 rfl) ?_
  refine lv_iconst (v := 0) hx hb (dq tk_L_book_0 1 rfl) (by decide) ?_
  refine lv_aload_n hx hb (dq tk_L_book_0 2 rfl) rfl (lv_at hl 0 rfl) ?_
  refine lv_iload_n hx hb (dq tk_L_book_0 3 rfl) rfl (lv_at hl 1 rfl) ?_
  refine lv_iload_n hx hb (dq tk_L_book_0 4 rfl) rfl (lv_at hl 2 rfl) ?_
  refine lv_iload_n hx hb (dq tk_L_book_0 5 rfl) rfl (lv_at hl 3 rfl) ?_
  refine KZ_X_book hst hc hw lk_1024 hf ⟨Nat.le_of_ble_eq_true rfl, Nat.le_of_ble_eq_true rfl⟩ ⟨Nat.le_of_ble_eq_true rfl, Nat.le_of_ble_eq_true rfl⟩ hl.1 (Nat.le_of_ble_eq_true rfl) (dq tk_L_book_0 6 rfl) (fun hn ce q H locs hw hce hcv hcl => ?_) (fun r1 hr1 H locs hw => ?_)
  · refine l_catch hc htb (by intro x hx; cases hx; exact ⟨by decide, rfl, rfl⟩) (by decide) lk_1023 (va_Nw.use rfl hc.2.2.2.a9) hce hcv hcl ?_
    refine lv_astore (lv' := [(5, .ref q), (0, .ref (Z.1 + 0)), (1, .int x1), (2, .int x2), (3, .int x3), (4, .ref (Z.1 + 674))]) hx hb (dq tk_L_book_0 13 rfl) hl (by decide) rfl (fun ls hl => ?_)
    refine lv_iconst (v := 1) hx hb (dq tk_L_book_0 14 rfl) (by decide) ?_
    exact x_iret hc hw hr (dq tk_L_book_0 15 rfl)
  · cases hr1
theorem KL_book_n (hst0 : l.stackTraces = false) {cc : ByteArray} {own : String} {nL pc idx : Nat} {ls : Array Slot} {rest : List Value} {N : Nat} {x1 : Int32} {x2 : Int32} {x3 : Int32} {σ' : St} (hc : Cxz p s m meth c args cc own nL Z) (hw : Wd Z (cmb σ μ) s H locs) (hl : Cond.methodLink own idx y_L_book ∈ TB) (hf : fX_book N x1 x2 x3 σ = some (none, σ')) (hR : RO R (9 + 1)) (hcs : cells + 1 ≤ R.cells ∧ slots + 6 ≤ R.slots) (hls : ls.size = nL) (hst : (rest.map fun v => v.category).sum ≤ 8) (hdg : decode cc pc = .ok (.invokestatic idx, 3)) (kk : ∀ (H1 : Heap) (locs1 : List Loc), Wd Z (cmb σ' μ) s H1 locs1 → W p l e R s m args below meth c H1 locs1 (cells + 1) (slots + 6) Q (F0 m (pc + 3) ls (.int 1 :: rest))) : W p l e R s m args below meth c H locs cells slots Q (F0 m pc ls (.ref (Z.1 + 674) :: .int x3 :: .int x2 :: .int x1 :: .ref (Z.1 + 0) :: rest)) :=
  l_is hc hw (cl_book_n hst0 hf) yw_L_book hl (RO.call hR (by decide)) hcs rfl hls hst hdg rfl kk
theorem cl_book_s (hst : l.stackTraces = false) {N : Nat} {x1 : Int32} {x2 : Int32} {x3 : Int32} {r : Int32} {σ' : St} (hf : fX_book N x1 x2 x3 σ = some (some r, σ')) : Clz l Z y_L_book method_3_code 6 hh_L_book { frames := 9, cells := 1, slots := 6, locals := 540 } [.ref (Z.1 + 0), .int x1, .int x2, .int x3, .ref (Z.1 + 674)] (cmb σ μ) 0 (cmb (sJ σ' 164 0 0 0 (if r = 0 then 0 else 1)) μ) := by
  refine l_met (by decide) (Nat.le_of_ble_eq_true rfl) (fun p e s m args below meth c ls hc htb hr hw hl => ?_)
  have hx := hc.hx
  have hb := hc.hb
  refine lv_aload hx hb (dq tk_L_book_0 0 rfl) (lv_at hl 4 rfl) ?_
  refine lv_iconst (v := 0) hx hb (dq tk_L_book_0 1 rfl) (by decide) ?_
  refine lv_aload_n hx hb (dq tk_L_book_0 2 rfl) rfl (lv_at hl 0 rfl) ?_
  refine lv_iload_n hx hb (dq tk_L_book_0 3 rfl) rfl (lv_at hl 1 rfl) ?_
  refine lv_iload_n hx hb (dq tk_L_book_0 4 rfl) rfl (lv_at hl 2 rfl) ?_
  refine lv_iload_n hx hb (dq tk_L_book_0 5 rfl) rfl (lv_at hl 3 rfl) ?_
  refine KZ_X_book hst hc hw lk_1024 hf ⟨Nat.le_of_ble_eq_true rfl, Nat.le_of_ble_eq_true rfl⟩ ⟨Nat.le_of_ble_eq_true rfl, Nat.le_of_ble_eq_true rfl⟩ hl.1 (Nat.le_of_ble_eq_true rfl) (dq tk_L_book_0 6 rfl) (fun hn ce q H locs hw hce hcv hcl => ?_) (fun r1 hr1 H locs hw => ?_)
  · cases hn
  · cases hr1
    refine lv_if_eq (tgt := 17) hx hb (dq tk_L_book_0 7 rfl) (by decide) (fun c1 => ?_) (fun c1 => ?_)
    · rw [if_pos c1]
      refine lv_lconst (v := 0) hx hb (dq tk_L_book_0 10 rfl) (by decide) ?_
      refine l_last hc hw (dq tk_L_book_0 11 rfl) (fun H locs hw => ?_)
      refine lv_goto (tgt := 26) hx hb (dq tk_L_book_0 12 rfl) (by decide) ?_
      refine lv_iconst (v := 0) hx hb (dq tk_L_book_0 16 rfl) (by decide) ?_
      exact x_iret hc hw hr (dq tk_L_book_0 17 rfl)
    · rw [if_neg c1]
      refine lv_lconst (v := 1) hx hb (dq tk_L_book_0 8 rfl) (by decide) ?_
      refine lv_goto (tgt := 18) hx hb (dq tk_L_book_0 9 rfl) (by decide) ?_
      refine l_last hc hw (dq tk_L_book_0 11 rfl) (fun H locs hw => ?_)
      refine lv_goto (tgt := 26) hx hb (dq tk_L_book_0 12 rfl) (by decide) ?_
      refine lv_iconst (v := 0) hx hb (dq tk_L_book_0 16 rfl) (by decide) ?_
      exact x_iret hc hw hr (dq tk_L_book_0 17 rfl)
theorem KL_book_s (hst0 : l.stackTraces = false) {cc : ByteArray} {own : String} {nL pc idx : Nat} {ls : Array Slot} {rest : List Value} {N : Nat} {x1 : Int32} {x2 : Int32} {x3 : Int32} {r : Int32} {σ' : St} (hc : Cxz p s m meth c args cc own nL Z) (hw : Wd Z (cmb σ μ) s H locs) (hl : Cond.methodLink own idx y_L_book ∈ TB) (hf : fX_book N x1 x2 x3 σ = some (some r, σ')) (hR : RO R (9 + 1)) (hcs : cells + 1 ≤ R.cells ∧ slots + 6 ≤ R.slots) (hls : ls.size = nL) (hst : (rest.map fun v => v.category).sum ≤ 8) (hdg : decode cc pc = .ok (.invokestatic idx, 3)) (kk : ∀ (H1 : Heap) (locs1 : List Loc), Wd Z (cmb (sJ σ' 164 0 0 0 (if r = 0 then 0 else 1)) μ) s H1 locs1 → W p l e R s m args below meth c H1 locs1 (cells + 1) (slots + 6) Q (F0 m (pc + 3) ls (.int 0 :: rest))) : W p l e R s m args below meth c H locs cells slots Q (F0 m pc ls (.ref (Z.1 + 674) :: .int x3 :: .int x2 :: .int x1 :: .ref (Z.1 + 0) :: rest)) :=
  l_is hc hw (cl_book_s hst0 hf) yw_L_book hl (RO.call hR (by decide)) hcs rfl hls hst hdg rfl kk
theorem cl_returns_n (hst : l.stackTraces = false) {N : Nat} {x1 : Int32} {x2 : Int32} {x3 : Int32} {σ' : St} (hf : fX_returns N x1 x2 x3 σ = some (none, σ')) : Clz l Z y_L_returns method_4_code 6 hh_L_returns { frames := 9, cells := 1, slots := 6, locals := 540 } [.ref (Z.1 + 0), .int x1, .int x2, .int x3, .ref (Z.1 + 674)] (cmb σ μ) 1 (cmb σ' μ) := by
  refine l_met (by decide) (Nat.le_of_ble_eq_true rfl) (fun p e s m args below meth c ls hc htb hr hw hl => ?_)
  have hx := hc.hx
  have hb := hc.hb
  refine lv_aload hx hb (dq tk_L_returns_0 0 rfl) (lv_at hl 4 rfl) ?_
  refine lv_iconst (v := 0) hx hb (dq tk_L_returns_0 1 rfl) (by decide) ?_
  refine lv_aload_n hx hb (dq tk_L_returns_0 2 rfl) rfl (lv_at hl 0 rfl) ?_
  refine lv_iload_n hx hb (dq tk_L_returns_0 3 rfl) rfl (lv_at hl 1 rfl) ?_
  refine lv_iload_n hx hb (dq tk_L_returns_0 4 rfl) rfl (lv_at hl 2 rfl) ?_
  refine lv_iload_n hx hb (dq tk_L_returns_0 5 rfl) rfl (lv_at hl 3 rfl) ?_
  refine KZ_X_returns hst hc hw lk_1114 hf ⟨Nat.le_of_ble_eq_true rfl, Nat.le_of_ble_eq_true rfl⟩ ⟨Nat.le_of_ble_eq_true rfl, Nat.le_of_ble_eq_true rfl⟩ hl.1 (Nat.le_of_ble_eq_true rfl) (dq tk_L_returns_0 6 rfl) (fun hn ce q H locs hw hce hcv hcl => ?_) (fun r1 hr1 H locs hw => ?_)
  · refine l_catch hc htb (by intro x hx; cases hx; exact ⟨by decide, rfl, rfl⟩) (by decide) lk_1023 (va_Nw.use rfl hc.2.2.2.a9) hce hcv hcl ?_
    refine lv_astore (lv' := [(5, .ref q), (0, .ref (Z.1 + 0)), (1, .int x1), (2, .int x2), (3, .int x3), (4, .ref (Z.1 + 674))]) hx hb (dq tk_L_returns_0 13 rfl) hl (by decide) rfl (fun ls hl => ?_)
    refine lv_iconst (v := 1) hx hb (dq tk_L_returns_0 14 rfl) (by decide) ?_
    exact x_iret hc hw hr (dq tk_L_returns_0 15 rfl)
  · cases hr1
theorem KL_returns_n (hst0 : l.stackTraces = false) {cc : ByteArray} {own : String} {nL pc idx : Nat} {ls : Array Slot} {rest : List Value} {N : Nat} {x1 : Int32} {x2 : Int32} {x3 : Int32} {σ' : St} (hc : Cxz p s m meth c args cc own nL Z) (hw : Wd Z (cmb σ μ) s H locs) (hl : Cond.methodLink own idx y_L_returns ∈ TB) (hf : fX_returns N x1 x2 x3 σ = some (none, σ')) (hR : RO R (9 + 1)) (hcs : cells + 1 ≤ R.cells ∧ slots + 6 ≤ R.slots) (hls : ls.size = nL) (hst : (rest.map fun v => v.category).sum ≤ 8) (hdg : decode cc pc = .ok (.invokestatic idx, 3)) (kk : ∀ (H1 : Heap) (locs1 : List Loc), Wd Z (cmb σ' μ) s H1 locs1 → W p l e R s m args below meth c H1 locs1 (cells + 1) (slots + 6) Q (F0 m (pc + 3) ls (.int 1 :: rest))) : W p l e R s m args below meth c H locs cells slots Q (F0 m pc ls (.ref (Z.1 + 674) :: .int x3 :: .int x2 :: .int x1 :: .ref (Z.1 + 0) :: rest)) :=
  l_is hc hw (cl_returns_n hst0 hf) yw_L_returns hl (RO.call hR (by decide)) hcs rfl hls hst hdg rfl kk
theorem cl_returns_s (hst : l.stackTraces = false) {N : Nat} {x1 : Int32} {x2 : Int32} {x3 : Int32} {r : Int32} {σ' : St} (hf : fX_returns N x1 x2 x3 σ = some (some r, σ')) : Clz l Z y_L_returns method_4_code 6 hh_L_returns { frames := 9, cells := 1, slots := 6, locals := 540 } [.ref (Z.1 + 0), .int x1, .int x2, .int x3, .ref (Z.1 + 674)] (cmb σ μ) 0 (cmb (sJ σ' 164 0 0 0 (if r = 0 then 0 else 1)) μ) := by
  refine l_met (by decide) (Nat.le_of_ble_eq_true rfl) (fun p e s m args below meth c ls hc htb hr hw hl => ?_)
  have hx := hc.hx
  have hb := hc.hb
  refine lv_aload hx hb (dq tk_L_returns_0 0 rfl) (lv_at hl 4 rfl) ?_
  refine lv_iconst (v := 0) hx hb (dq tk_L_returns_0 1 rfl) (by decide) ?_
  refine lv_aload_n hx hb (dq tk_L_returns_0 2 rfl) rfl (lv_at hl 0 rfl) ?_
  refine lv_iload_n hx hb (dq tk_L_returns_0 3 rfl) rfl (lv_at hl 1 rfl) ?_
  refine lv_iload_n hx hb (dq tk_L_returns_0 4 rfl) rfl (lv_at hl 2 rfl) ?_
  refine lv_iload_n hx hb (dq tk_L_returns_0 5 rfl) rfl (lv_at hl 3 rfl) ?_
  refine KZ_X_returns hst hc hw lk_1114 hf ⟨Nat.le_of_ble_eq_true rfl, Nat.le_of_ble_eq_true rfl⟩ ⟨Nat.le_of_ble_eq_true rfl, Nat.le_of_ble_eq_true rfl⟩ hl.1 (Nat.le_of_ble_eq_true rfl) (dq tk_L_returns_0 6 rfl) (fun hn ce q H locs hw hce hcv hcl => ?_) (fun r1 hr1 H locs hw => ?_)
  · cases hn
  · cases hr1
    refine lv_if_eq (tgt := 17) hx hb (dq tk_L_returns_0 7 rfl) (by decide) (fun c1 => ?_) (fun c1 => ?_)
    · rw [if_pos c1]
      refine lv_lconst (v := 0) hx hb (dq tk_L_returns_0 10 rfl) (by decide) ?_
      refine l_last hc hw (dq tk_L_returns_0 11 rfl) (fun H locs hw => ?_)
      refine lv_goto (tgt := 26) hx hb (dq tk_L_returns_0 12 rfl) (by decide) ?_
      refine lv_iconst (v := 0) hx hb (dq tk_L_returns_0 16 rfl) (by decide) ?_
      exact x_iret hc hw hr (dq tk_L_returns_0 17 rfl)
    · rw [if_neg c1]
      refine lv_lconst (v := 1) hx hb (dq tk_L_returns_0 8 rfl) (by decide) ?_
      refine lv_goto (tgt := 18) hx hb (dq tk_L_returns_0 9 rfl) (by decide) ?_
      refine l_last hc hw (dq tk_L_returns_0 11 rfl) (fun H locs hw => ?_)
      refine lv_goto (tgt := 26) hx hb (dq tk_L_returns_0 12 rfl) (by decide) ?_
      refine lv_iconst (v := 0) hx hb (dq tk_L_returns_0 16 rfl) (by decide) ?_
      exact x_iret hc hw hr (dq tk_L_returns_0 17 rfl)
theorem KL_returns_s (hst0 : l.stackTraces = false) {cc : ByteArray} {own : String} {nL pc idx : Nat} {ls : Array Slot} {rest : List Value} {N : Nat} {x1 : Int32} {x2 : Int32} {x3 : Int32} {r : Int32} {σ' : St} (hc : Cxz p s m meth c args cc own nL Z) (hw : Wd Z (cmb σ μ) s H locs) (hl : Cond.methodLink own idx y_L_returns ∈ TB) (hf : fX_returns N x1 x2 x3 σ = some (some r, σ')) (hR : RO R (9 + 1)) (hcs : cells + 1 ≤ R.cells ∧ slots + 6 ≤ R.slots) (hls : ls.size = nL) (hst : (rest.map fun v => v.category).sum ≤ 8) (hdg : decode cc pc = .ok (.invokestatic idx, 3)) (kk : ∀ (H1 : Heap) (locs1 : List Loc), Wd Z (cmb (sJ σ' 164 0 0 0 (if r = 0 then 0 else 1)) μ) s H1 locs1 → W p l e R s m args below meth c H1 locs1 (cells + 1) (slots + 6) Q (F0 m (pc + 3) ls (.int 0 :: rest))) : W p l e R s m args below meth c H locs cells slots Q (F0 m pc ls (.ref (Z.1 + 674) :: .int x3 :: .int x2 :: .int x1 :: .ref (Z.1 + 0) :: rest)) :=
  l_is hc hw (cl_returns_s hst0 hf) yw_L_returns hl (RO.call hR (by decide)) hcs rfl hls hst hdg rfl kk
theorem cl_stamps_n (hst : l.stackTraces = false) {N : Nat} {x1 : Int32} {x2 : Int32} (hf : fX_stamps N x1 x2 σ = some none) : Clz l Z y_L_stamps method_5_code 5 hh_L_stamps { frames := 9, cells := 2, slots := 12, locals := 540 } [.ref (Z.1 + 0), .int x1, .int x2, .ref (Z.1 + 674)] (cmb σ μ) 1 (cmb σ μ) := by
  refine l_met (by decide) (Nat.le_of_ble_eq_true rfl) (fun p e s m args below meth c ls hc htb hr hw hl => ?_)
  have hx := hc.hx
  have hb := hc.hb
  refine lv_aload_n hx hb (dq tk_L_stamps_0 0 rfl) rfl (lv_at hl 3 rfl) ?_
  refine lv_iconst (v := 0) hx hb (dq tk_L_stamps_0 1 rfl) (by decide) ?_
  refine lv_aload_n hx hb (dq tk_L_stamps_0 2 rfl) rfl (lv_at hl 0 rfl) ?_
  refine lv_iload_n hx hb (dq tk_L_stamps_0 3 rfl) rfl (lv_at hl 1 rfl) ?_
  refine lv_iload_n hx hb (dq tk_L_stamps_0 4 rfl) rfl (lv_at hl 2 rfl) ?_
  refine KZ_X_stamps hst hc hw lk_1125 hf ⟨Nat.le_of_ble_eq_true rfl, Nat.le_of_ble_eq_true rfl⟩ ⟨Nat.le_of_ble_eq_true rfl, Nat.le_of_ble_eq_true rfl⟩ hl.1 (Nat.le_of_ble_eq_true rfl) (dq tk_L_stamps_0 5 rfl) (fun hn ce q H locs hw hce hcv hcl => ?_) (fun r1 hr1 H locs hw => ?_)
  · refine l_catch hc htb (by intro x hx; cases hx; exact ⟨by decide, rfl, rfl⟩) (by decide) lk_1023 (va_Nw.use rfl hc.2.2.2.a9) hce hcv hcl ?_
    refine lv_astore (lv' := [(4, .ref q), (0, .ref (Z.1 + 0)), (1, .int x1), (2, .int x2), (3, .ref (Z.1 + 674))]) hx hb (dq tk_L_stamps_0 9 rfl) hl (by decide) rfl (fun ls hl => ?_)
    refine lv_iconst (v := 1) hx hb (dq tk_L_stamps_0 10 rfl) (by decide) ?_
    exact x_iret hc hw hr (dq tk_L_stamps_0 11 rfl)
  · cases hr1
theorem KL_stamps_n (hst0 : l.stackTraces = false) {cc : ByteArray} {own : String} {nL pc idx : Nat} {ls : Array Slot} {rest : List Value} {N : Nat} {x1 : Int32} {x2 : Int32} (hc : Cxz p s m meth c args cc own nL Z) (hw : Wd Z (cmb σ μ) s H locs) (hl : Cond.methodLink own idx y_L_stamps ∈ TB) (hf : fX_stamps N x1 x2 σ = some none) (hR : RO R (9 + 1)) (hcs : cells + 2 ≤ R.cells ∧ slots + 12 ≤ R.slots) (hls : ls.size = nL) (hst : (rest.map fun v => v.category).sum ≤ 8) (hdg : decode cc pc = .ok (.invokestatic idx, 3)) (kk : ∀ (H1 : Heap) (locs1 : List Loc), Wd Z (cmb σ μ) s H1 locs1 → W p l e R s m args below meth c H1 locs1 (cells + 2) (slots + 12) Q (F0 m (pc + 3) ls (.int 1 :: rest))) : W p l e R s m args below meth c H locs cells slots Q (F0 m pc ls (.ref (Z.1 + 674) :: .int x2 :: .int x1 :: .ref (Z.1 + 0) :: rest)) :=
  l_is hc hw (cl_stamps_n hst0 hf) yw_L_stamps hl (RO.call hR (by decide)) hcs rfl hls hst hdg rfl kk
theorem cl_stamps_s (hst : l.stackTraces = false) {N : Nat} {x1 : Int32} {x2 : Int32} {r : Int32} (hf : fX_stamps N x1 x2 σ = some (some r)) : Clz l Z y_L_stamps method_5_code 5 hh_L_stamps { frames := 9, cells := 2, slots := 12, locals := 540 } [.ref (Z.1 + 0), .int x1, .int x2, .ref (Z.1 + 674)] (cmb σ μ) 0 (cmb (sJ σ 164 0 0 0 r.toInt64) μ) := by
  refine l_met (by decide) (Nat.le_of_ble_eq_true rfl) (fun p e s m args below meth c ls hc htb hr hw hl => ?_)
  have hx := hc.hx
  have hb := hc.hb
  refine lv_aload_n hx hb (dq tk_L_stamps_0 0 rfl) rfl (lv_at hl 3 rfl) ?_
  refine lv_iconst (v := 0) hx hb (dq tk_L_stamps_0 1 rfl) (by decide) ?_
  refine lv_aload_n hx hb (dq tk_L_stamps_0 2 rfl) rfl (lv_at hl 0 rfl) ?_
  refine lv_iload_n hx hb (dq tk_L_stamps_0 3 rfl) rfl (lv_at hl 1 rfl) ?_
  refine lv_iload_n hx hb (dq tk_L_stamps_0 4 rfl) rfl (lv_at hl 2 rfl) ?_
  refine KZ_X_stamps hst hc hw lk_1125 hf ⟨Nat.le_of_ble_eq_true rfl, Nat.le_of_ble_eq_true rfl⟩ ⟨Nat.le_of_ble_eq_true rfl, Nat.le_of_ble_eq_true rfl⟩ hl.1 (Nat.le_of_ble_eq_true rfl) (dq tk_L_stamps_0 5 rfl) (fun hn ce q H locs hw hce hcv hcl => ?_) (fun r1 hr1 H locs hw => ?_)
  · cases hn
  · cases hr1
    refine lv_i2l hx hb (dq tk_L_stamps_0 6 rfl) rfl ?_
    refine l_last hc hw (dq tk_L_stamps_0 7 rfl) (fun H locs hw => ?_)
    refine lv_goto (tgt := 17) hx hb (dq tk_L_stamps_0 8 rfl) (by decide) ?_
    refine lv_iconst (v := 0) hx hb (dq tk_L_stamps_0 12 rfl) (by decide) ?_
    exact x_iret hc hw hr (dq tk_L_stamps_0 13 rfl)
theorem KL_stamps_s (hst0 : l.stackTraces = false) {cc : ByteArray} {own : String} {nL pc idx : Nat} {ls : Array Slot} {rest : List Value} {N : Nat} {x1 : Int32} {x2 : Int32} {r : Int32} (hc : Cxz p s m meth c args cc own nL Z) (hw : Wd Z (cmb σ μ) s H locs) (hl : Cond.methodLink own idx y_L_stamps ∈ TB) (hf : fX_stamps N x1 x2 σ = some (some r)) (hR : RO R (9 + 1)) (hcs : cells + 2 ≤ R.cells ∧ slots + 12 ≤ R.slots) (hls : ls.size = nL) (hst : (rest.map fun v => v.category).sum ≤ 8) (hdg : decode cc pc = .ok (.invokestatic idx, 3)) (kk : ∀ (H1 : Heap) (locs1 : List Loc), Wd Z (cmb (sJ σ 164 0 0 0 r.toInt64) μ) s H1 locs1 → W p l e R s m args below meth c H1 locs1 (cells + 2) (slots + 12) Q (F0 m (pc + 3) ls (.int 0 :: rest))) : W p l e R s m args below meth c H locs cells slots Q (F0 m pc ls (.ref (Z.1 + 674) :: .int x2 :: .int x1 :: .ref (Z.1 + 0) :: rest)) :=
  l_is hc hw (cl_stamps_s hst0 hf) yw_L_stamps hl (RO.call hR (by decide)) hcs rfl hls hst hdg rfl kk
theorem cl_text_n (hst : l.stackTraces = false) {N : Nat} {x1 : Int32} {x2 : Int32} {x3 : Int32} {σ' : St} (hf : fX_text N x1 x2 x3 σ = some (none, σ')) : Clz l Z y_L_text method_6_code 6 hh_L_text { frames := 81, cells := 1, slots := 6, locals := 4860 } [.ref (Z.1 + 0), .int x1, .int x2, .int x3, .ref (Z.1 + 674)] (cmb σ μ) 1 (cmb σ' μ) := by
  refine l_met (by decide) (Nat.le_of_ble_eq_true rfl) (fun p e s m args below meth c ls hc htb hr hw hl => ?_)
  have hx := hc.hx
  have hb := hc.hb
  refine lv_aload hx hb (dq tk_L_text_0 0 rfl) (lv_at hl 4 rfl) ?_
  refine lv_iconst (v := 0) hx hb (dq tk_L_text_0 1 rfl) (by decide) ?_
  refine lv_aload_n hx hb (dq tk_L_text_0 2 rfl) rfl (lv_at hl 0 rfl) ?_
  refine lv_iload_n hx hb (dq tk_L_text_0 3 rfl) rfl (lv_at hl 1 rfl) ?_
  refine lv_iload_n hx hb (dq tk_L_text_0 4 rfl) rfl (lv_at hl 2 rfl) ?_
  refine lv_iload_n hx hb (dq tk_L_text_0 5 rfl) rfl (lv_at hl 3 rfl) ?_
  refine KZ_X_text hst hc hw lk_1145 hf ⟨Nat.le_of_ble_eq_true rfl, Nat.le_of_ble_eq_true rfl⟩ ⟨Nat.le_of_ble_eq_true rfl, Nat.le_of_ble_eq_true rfl⟩ hl.1 (Nat.le_of_ble_eq_true rfl) (dq tk_L_text_0 6 rfl) (fun hn ce q H locs hw hce hcv hcl => ?_) (fun r1 hr1 H locs hw => ?_)
  · refine l_catch hc htb (by intro x hx; cases hx; exact ⟨by decide, rfl, rfl⟩) (by decide) lk_1144 (va_Nw.use rfl hc.2.2.2.a10) hce hcv hcl ?_
    refine lv_astore (lv' := [(5, .ref q), (0, .ref (Z.1 + 0)), (1, .int x1), (2, .int x2), (3, .int x3), (4, .ref (Z.1 + 674))]) hx hb (dq tk_L_text_0 10 rfl) hl (by decide) rfl (fun ls hl => ?_)
    refine lv_iconst (v := 1) hx hb (dq tk_L_text_0 11 rfl) (by decide) ?_
    exact x_iret hc hw hr (dq tk_L_text_0 12 rfl)
  · cases hr1
theorem KL_text_n (hst0 : l.stackTraces = false) {cc : ByteArray} {own : String} {nL pc idx : Nat} {ls : Array Slot} {rest : List Value} {N : Nat} {x1 : Int32} {x2 : Int32} {x3 : Int32} {σ' : St} (hc : Cxz p s m meth c args cc own nL Z) (hw : Wd Z (cmb σ μ) s H locs) (hl : Cond.methodLink own idx y_L_text ∈ TB) (hf : fX_text N x1 x2 x3 σ = some (none, σ')) (hR : RO R (81 + 1)) (hcs : cells + 1 ≤ R.cells ∧ slots + 6 ≤ R.slots) (hls : ls.size = nL) (hst : (rest.map fun v => v.category).sum ≤ 8) (hdg : decode cc pc = .ok (.invokestatic idx, 3)) (kk : ∀ (H1 : Heap) (locs1 : List Loc), Wd Z (cmb σ' μ) s H1 locs1 → W p l e R s m args below meth c H1 locs1 (cells + 1) (slots + 6) Q (F0 m (pc + 3) ls (.int 1 :: rest))) : W p l e R s m args below meth c H locs cells slots Q (F0 m pc ls (.ref (Z.1 + 674) :: .int x3 :: .int x2 :: .int x1 :: .ref (Z.1 + 0) :: rest)) :=
  l_is hc hw (cl_text_n hst0 hf) yw_L_text hl (RO.call hR (by decide)) hcs rfl hls hst hdg rfl kk
theorem cl_text_s (hst : l.stackTraces = false) {N : Nat} {x1 : Int32} {x2 : Int32} {x3 : Int32} {r : Int32} {σ' : St} (hf : fX_text N x1 x2 x3 σ = some (some r, σ')) : Clz l Z y_L_text method_6_code 6 hh_L_text { frames := 81, cells := 1, slots := 6, locals := 4860 } [.ref (Z.1 + 0), .int x1, .int x2, .int x3, .ref (Z.1 + 674)] (cmb σ μ) 0 (cmb (sJ σ' 164 0 0 0 r.toInt64) μ) := by
  refine l_met (by decide) (Nat.le_of_ble_eq_true rfl) (fun p e s m args below meth c ls hc htb hr hw hl => ?_)
  have hx := hc.hx
  have hb := hc.hb
  refine lv_aload hx hb (dq tk_L_text_0 0 rfl) (lv_at hl 4 rfl) ?_
  refine lv_iconst (v := 0) hx hb (dq tk_L_text_0 1 rfl) (by decide) ?_
  refine lv_aload_n hx hb (dq tk_L_text_0 2 rfl) rfl (lv_at hl 0 rfl) ?_
  refine lv_iload_n hx hb (dq tk_L_text_0 3 rfl) rfl (lv_at hl 1 rfl) ?_
  refine lv_iload_n hx hb (dq tk_L_text_0 4 rfl) rfl (lv_at hl 2 rfl) ?_
  refine lv_iload_n hx hb (dq tk_L_text_0 5 rfl) rfl (lv_at hl 3 rfl) ?_
  refine KZ_X_text hst hc hw lk_1145 hf ⟨Nat.le_of_ble_eq_true rfl, Nat.le_of_ble_eq_true rfl⟩ ⟨Nat.le_of_ble_eq_true rfl, Nat.le_of_ble_eq_true rfl⟩ hl.1 (Nat.le_of_ble_eq_true rfl) (dq tk_L_text_0 6 rfl) (fun hn ce q H locs hw hce hcv hcl => ?_) (fun r1 hr1 H locs hw => ?_)
  · cases hn
  · cases hr1
    refine lv_i2l hx hb (dq tk_L_text_0 7 rfl) rfl ?_
    refine l_last hc hw (dq tk_L_text_0 8 rfl) (fun H locs hw => ?_)
    refine lv_goto (tgt := 19) hx hb (dq tk_L_text_0 9 rfl) (by decide) ?_
    refine lv_iconst (v := 0) hx hb (dq tk_L_text_0 13 rfl) (by decide) ?_
    exact x_iret hc hw hr (dq tk_L_text_0 14 rfl)
theorem KL_text_s (hst0 : l.stackTraces = false) {cc : ByteArray} {own : String} {nL pc idx : Nat} {ls : Array Slot} {rest : List Value} {N : Nat} {x1 : Int32} {x2 : Int32} {x3 : Int32} {r : Int32} {σ' : St} (hc : Cxz p s m meth c args cc own nL Z) (hw : Wd Z (cmb σ μ) s H locs) (hl : Cond.methodLink own idx y_L_text ∈ TB) (hf : fX_text N x1 x2 x3 σ = some (some r, σ')) (hR : RO R (81 + 1)) (hcs : cells + 1 ≤ R.cells ∧ slots + 6 ≤ R.slots) (hls : ls.size = nL) (hst : (rest.map fun v => v.category).sum ≤ 8) (hdg : decode cc pc = .ok (.invokestatic idx, 3)) (kk : ∀ (H1 : Heap) (locs1 : List Loc), Wd Z (cmb (sJ σ' 164 0 0 0 r.toInt64) μ) s H1 locs1 → W p l e R s m args below meth c H1 locs1 (cells + 1) (slots + 6) Q (F0 m (pc + 3) ls (.int 0 :: rest))) : W p l e R s m args below meth c H locs cells slots Q (F0 m pc ls (.ref (Z.1 + 674) :: .int x3 :: .int x2 :: .int x1 :: .ref (Z.1 + 0) :: rest)) :=
  l_is hc hw (cl_text_s hst0 hf) yw_L_text hl (RO.call hR (by decide)) hcs rfl hls hst hdg rfl kk
theorem cl_event_n (hst : l.stackTraces = false) {N : Nat} {x1 : Int32} {x2 : Int32} {x3 : Int32} {x4 : Int32} {σ' : St} (hf : fX_event N x1 x2 x3 x4 σ = some (none, σ')) : Clz l Z y_L_event method_7_code 7 hh_L_event { frames := 9, cells := 2, slots := 12, locals := 540 } [.ref (Z.1 + 0), .int x1, .int x2, .int x3, .int x4, .ref (Z.1 + 674)] (cmb σ μ) 1 (cmb σ' μ) := by
  refine l_met (by decide) (Nat.le_of_ble_eq_true rfl) (fun p e s m args below meth c ls hc htb hr hw hl => ?_)
  have hx := hc.hx
  have hb := hc.hb
  refine lv_aload hx hb (dq tk_L_event_0 0 rfl) (lv_at hl 5 rfl) ?_
  refine lv_iconst (v := 0) hx hb (dq tk_L_event_0 1 rfl) (by decide) ?_
  refine lv_aload_n hx hb (dq tk_L_event_0 2 rfl) rfl (lv_at hl 0 rfl) ?_
  refine lv_iload_n hx hb (dq tk_L_event_0 3 rfl) rfl (lv_at hl 1 rfl) ?_
  refine lv_iload_n hx hb (dq tk_L_event_0 4 rfl) rfl (lv_at hl 2 rfl) ?_
  refine lv_iload_n hx hb (dq tk_L_event_0 5 rfl) rfl (lv_at hl 3 rfl) ?_
  refine lv_iload hx hb (dq tk_L_event_0 6 rfl) (lv_at hl 4 rfl) ?_
  refine KZ_X_event hst hc hw lk_1347 hf ⟨Nat.le_of_ble_eq_true rfl, Nat.le_of_ble_eq_true rfl⟩ ⟨Nat.le_of_ble_eq_true rfl, Nat.le_of_ble_eq_true rfl⟩ hl.1 (Nat.le_of_ble_eq_true rfl) (dq tk_L_event_0 7 rfl) (fun hn ce q H locs hw hce hcv hcl => ?_) (fun r1 hr1 H locs hw => ?_)
  · refine l_catch hc htb (by intro x hx; cases hx; exact ⟨by decide, rfl, rfl⟩) (by decide) lk_1023 (va_Nw.use rfl hc.2.2.2.a9) hce hcv hcl ?_
    refine lv_astore (lv' := [(6, .ref q), (0, .ref (Z.1 + 0)), (1, .int x1), (2, .int x2), (3, .int x3), (4, .int x4), (5, .ref (Z.1 + 674))]) hx hb (dq tk_L_event_0 11 rfl) hl (by decide) rfl (fun ls hl => ?_)
    refine lv_iconst (v := 1) hx hb (dq tk_L_event_0 12 rfl) (by decide) ?_
    exact x_iret hc hw hr (dq tk_L_event_0 13 rfl)
  · cases hr1
theorem KL_event_n (hst0 : l.stackTraces = false) {cc : ByteArray} {own : String} {nL pc idx : Nat} {ls : Array Slot} {rest : List Value} {N : Nat} {x1 : Int32} {x2 : Int32} {x3 : Int32} {x4 : Int32} {σ' : St} (hc : Cxz p s m meth c args cc own nL Z) (hw : Wd Z (cmb σ μ) s H locs) (hl : Cond.methodLink own idx y_L_event ∈ TB) (hf : fX_event N x1 x2 x3 x4 σ = some (none, σ')) (hR : RO R (9 + 1)) (hcs : cells + 2 ≤ R.cells ∧ slots + 12 ≤ R.slots) (hls : ls.size = nL) (hst : (rest.map fun v => v.category).sum ≤ 8) (hdg : decode cc pc = .ok (.invokestatic idx, 3)) (kk : ∀ (H1 : Heap) (locs1 : List Loc), Wd Z (cmb σ' μ) s H1 locs1 → W p l e R s m args below meth c H1 locs1 (cells + 2) (slots + 12) Q (F0 m (pc + 3) ls (.int 1 :: rest))) : W p l e R s m args below meth c H locs cells slots Q (F0 m pc ls (.ref (Z.1 + 674) :: .int x4 :: .int x3 :: .int x2 :: .int x1 :: .ref (Z.1 + 0) :: rest)) :=
  l_is hc hw (cl_event_n hst0 hf) yw_L_event hl (RO.call hR (by decide)) hcs rfl hls hst hdg rfl kk
theorem cl_event_s (hst : l.stackTraces = false) {N : Nat} {x1 : Int32} {x2 : Int32} {x3 : Int32} {x4 : Int32} {r : Int32} {σ' : St} (hf : fX_event N x1 x2 x3 x4 σ = some (some r, σ')) : Clz l Z y_L_event method_7_code 7 hh_L_event { frames := 9, cells := 2, slots := 12, locals := 540 } [.ref (Z.1 + 0), .int x1, .int x2, .int x3, .int x4, .ref (Z.1 + 674)] (cmb σ μ) 0 (cmb (sJ σ' 164 0 0 0 r.toInt64) μ) := by
  refine l_met (by decide) (Nat.le_of_ble_eq_true rfl) (fun p e s m args below meth c ls hc htb hr hw hl => ?_)
  have hx := hc.hx
  have hb := hc.hb
  refine lv_aload hx hb (dq tk_L_event_0 0 rfl) (lv_at hl 5 rfl) ?_
  refine lv_iconst (v := 0) hx hb (dq tk_L_event_0 1 rfl) (by decide) ?_
  refine lv_aload_n hx hb (dq tk_L_event_0 2 rfl) rfl (lv_at hl 0 rfl) ?_
  refine lv_iload_n hx hb (dq tk_L_event_0 3 rfl) rfl (lv_at hl 1 rfl) ?_
  refine lv_iload_n hx hb (dq tk_L_event_0 4 rfl) rfl (lv_at hl 2 rfl) ?_
  refine lv_iload_n hx hb (dq tk_L_event_0 5 rfl) rfl (lv_at hl 3 rfl) ?_
  refine lv_iload hx hb (dq tk_L_event_0 6 rfl) (lv_at hl 4 rfl) ?_
  refine KZ_X_event hst hc hw lk_1347 hf ⟨Nat.le_of_ble_eq_true rfl, Nat.le_of_ble_eq_true rfl⟩ ⟨Nat.le_of_ble_eq_true rfl, Nat.le_of_ble_eq_true rfl⟩ hl.1 (Nat.le_of_ble_eq_true rfl) (dq tk_L_event_0 7 rfl) (fun hn ce q H locs hw hce hcv hcl => ?_) (fun r1 hr1 H locs hw => ?_)
  · cases hn
  · cases hr1
    refine lv_i2l hx hb (dq tk_L_event_0 8 rfl) rfl ?_
    refine l_last hc hw (dq tk_L_event_0 9 rfl) (fun H locs hw => ?_)
    refine lv_goto (tgt := 21) hx hb (dq tk_L_event_0 10 rfl) (by decide) ?_
    refine lv_iconst (v := 0) hx hb (dq tk_L_event_0 14 rfl) (by decide) ?_
    exact x_iret hc hw hr (dq tk_L_event_0 15 rfl)
theorem KL_event_s (hst0 : l.stackTraces = false) {cc : ByteArray} {own : String} {nL pc idx : Nat} {ls : Array Slot} {rest : List Value} {N : Nat} {x1 : Int32} {x2 : Int32} {x3 : Int32} {x4 : Int32} {r : Int32} {σ' : St} (hc : Cxz p s m meth c args cc own nL Z) (hw : Wd Z (cmb σ μ) s H locs) (hl : Cond.methodLink own idx y_L_event ∈ TB) (hf : fX_event N x1 x2 x3 x4 σ = some (some r, σ')) (hR : RO R (9 + 1)) (hcs : cells + 2 ≤ R.cells ∧ slots + 12 ≤ R.slots) (hls : ls.size = nL) (hst : (rest.map fun v => v.category).sum ≤ 8) (hdg : decode cc pc = .ok (.invokestatic idx, 3)) (kk : ∀ (H1 : Heap) (locs1 : List Loc), Wd Z (cmb (sJ σ' 164 0 0 0 r.toInt64) μ) s H1 locs1 → W p l e R s m args below meth c H1 locs1 (cells + 2) (slots + 12) Q (F0 m (pc + 3) ls (.int 0 :: rest))) : W p l e R s m args below meth c H locs cells slots Q (F0 m pc ls (.ref (Z.1 + 674) :: .int x4 :: .int x3 :: .int x2 :: .int x1 :: .ref (Z.1 + 0) :: rest)) :=
  l_is hc hw (cl_event_s hst0 hf) yw_L_event hl (RO.call hR (by decide)) hcs rfl hls hst hdg rfl kk
theorem cl_back_n (hst : l.stackTraces = false) {N : Nat} {x1 : Int32} {σ' : St} (hf : fX_back N x1 σ = some (none, σ')) : Clz l Z y_L_back method_8_code 4 hh_L_back { frames := 8, cells := 1, slots := 6, locals := 480 } [.ref (Z.1 + 0), .int x1, .ref (Z.1 + 674)] (cmb σ μ) 1 (cmb σ' μ) := by
  refine l_met (by decide) (Nat.le_of_ble_eq_true rfl) (fun p e s m args below meth c ls hc htb hr hw hl => ?_)
  have hx := hc.hx
  have hb := hc.hb
  refine lv_aload_n hx hb (dq tk_L_back_0 0 rfl) rfl (lv_at hl 2 rfl) ?_
  refine lv_iconst (v := 0) hx hb (dq tk_L_back_0 1 rfl) (by decide) ?_
  refine lv_aload_n hx hb (dq tk_L_back_0 2 rfl) rfl (lv_at hl 0 rfl) ?_
  refine lv_iload_n hx hb (dq tk_L_back_0 3 rfl) rfl (lv_at hl 1 rfl) ?_
  refine KZ_X_back hst hc hw lk_1368 hf ⟨Nat.le_of_ble_eq_true rfl, Nat.le_of_ble_eq_true rfl⟩ ⟨Nat.le_of_ble_eq_true rfl, Nat.le_of_ble_eq_true rfl⟩ hl.1 (Nat.le_of_ble_eq_true rfl) (dq tk_L_back_0 4 rfl) (fun hn ce q H locs hw hce hcv hcl => ?_) (fun r1 hr1 H locs hw => ?_)
  · refine l_catch hc htb (by intro x hx; cases hx; exact ⟨by decide, rfl, rfl⟩) (by decide) lk_1023 (va_Nw.use rfl hc.2.2.2.a9) hce hcv hcl ?_
    refine lv_astore_n (lv' := [(3, .ref q), (0, .ref (Z.1 + 0)), (1, .int x1), (2, .ref (Z.1 + 674))]) hx hb (dq tk_L_back_0 11 rfl) rfl hl (by decide) rfl (fun ls hl => ?_)
    refine lv_iconst (v := 1) hx hb (dq tk_L_back_0 12 rfl) (by decide) ?_
    exact x_iret hc hw hr (dq tk_L_back_0 13 rfl)
  · cases hr1
theorem KL_back_n (hst0 : l.stackTraces = false) {cc : ByteArray} {own : String} {nL pc idx : Nat} {ls : Array Slot} {rest : List Value} {N : Nat} {x1 : Int32} {σ' : St} (hc : Cxz p s m meth c args cc own nL Z) (hw : Wd Z (cmb σ μ) s H locs) (hl : Cond.methodLink own idx y_L_back ∈ TB) (hf : fX_back N x1 σ = some (none, σ')) (hR : RO R (8 + 1)) (hcs : cells + 1 ≤ R.cells ∧ slots + 6 ≤ R.slots) (hls : ls.size = nL) (hst : (rest.map fun v => v.category).sum ≤ 8) (hdg : decode cc pc = .ok (.invokestatic idx, 3)) (kk : ∀ (H1 : Heap) (locs1 : List Loc), Wd Z (cmb σ' μ) s H1 locs1 → W p l e R s m args below meth c H1 locs1 (cells + 1) (slots + 6) Q (F0 m (pc + 3) ls (.int 1 :: rest))) : W p l e R s m args below meth c H locs cells slots Q (F0 m pc ls (.ref (Z.1 + 674) :: .int x1 :: .ref (Z.1 + 0) :: rest)) :=
  l_is hc hw (cl_back_n hst0 hf) yw_L_back hl (RO.call hR (by decide)) hcs rfl hls hst hdg rfl kk
theorem cl_back_s (hst : l.stackTraces = false) {N : Nat} {x1 : Int32} {r : Int32} {σ' : St} (hf : fX_back N x1 σ = some (some r, σ')) : Clz l Z y_L_back method_8_code 4 hh_L_back { frames := 8, cells := 1, slots := 6, locals := 480 } [.ref (Z.1 + 0), .int x1, .ref (Z.1 + 674)] (cmb σ μ) 0 (cmb (sJ σ' 164 0 0 0 (if r = 0 then 0 else 1)) μ) := by
  refine l_met (by decide) (Nat.le_of_ble_eq_true rfl) (fun p e s m args below meth c ls hc htb hr hw hl => ?_)
  have hx := hc.hx
  have hb := hc.hb
  refine lv_aload_n hx hb (dq tk_L_back_0 0 rfl) rfl (lv_at hl 2 rfl) ?_
  refine lv_iconst (v := 0) hx hb (dq tk_L_back_0 1 rfl) (by decide) ?_
  refine lv_aload_n hx hb (dq tk_L_back_0 2 rfl) rfl (lv_at hl 0 rfl) ?_
  refine lv_iload_n hx hb (dq tk_L_back_0 3 rfl) rfl (lv_at hl 1 rfl) ?_
  refine KZ_X_back hst hc hw lk_1368 hf ⟨Nat.le_of_ble_eq_true rfl, Nat.le_of_ble_eq_true rfl⟩ ⟨Nat.le_of_ble_eq_true rfl, Nat.le_of_ble_eq_true rfl⟩ hl.1 (Nat.le_of_ble_eq_true rfl) (dq tk_L_back_0 4 rfl) (fun hn ce q H locs hw hce hcv hcl => ?_) (fun r1 hr1 H locs hw => ?_)
  · cases hn
  · cases hr1
    refine lv_if_eq (tgt := 14) hx hb (dq tk_L_back_0 5 rfl) (by decide) (fun c1 => ?_) (fun c1 => ?_)
    · rw [if_pos c1]
      refine lv_lconst (v := 0) hx hb (dq tk_L_back_0 8 rfl) (by decide) ?_
      refine l_last hc hw (dq tk_L_back_0 9 rfl) (fun H locs hw => ?_)
      refine lv_goto (tgt := 22) hx hb (dq tk_L_back_0 10 rfl) (by decide) ?_
      refine lv_iconst (v := 0) hx hb (dq tk_L_back_0 14 rfl) (by decide) ?_
      exact x_iret hc hw hr (dq tk_L_back_0 15 rfl)
    · rw [if_neg c1]
      refine lv_lconst (v := 1) hx hb (dq tk_L_back_0 6 rfl) (by decide) ?_
      refine lv_goto (tgt := 15) hx hb (dq tk_L_back_0 7 rfl) (by decide) ?_
      refine l_last hc hw (dq tk_L_back_0 9 rfl) (fun H locs hw => ?_)
      refine lv_goto (tgt := 22) hx hb (dq tk_L_back_0 10 rfl) (by decide) ?_
      refine lv_iconst (v := 0) hx hb (dq tk_L_back_0 14 rfl) (by decide) ?_
      exact x_iret hc hw hr (dq tk_L_back_0 15 rfl)
theorem KL_back_s (hst0 : l.stackTraces = false) {cc : ByteArray} {own : String} {nL pc idx : Nat} {ls : Array Slot} {rest : List Value} {N : Nat} {x1 : Int32} {r : Int32} {σ' : St} (hc : Cxz p s m meth c args cc own nL Z) (hw : Wd Z (cmb σ μ) s H locs) (hl : Cond.methodLink own idx y_L_back ∈ TB) (hf : fX_back N x1 σ = some (some r, σ')) (hR : RO R (8 + 1)) (hcs : cells + 1 ≤ R.cells ∧ slots + 6 ≤ R.slots) (hls : ls.size = nL) (hst : (rest.map fun v => v.category).sum ≤ 8) (hdg : decode cc pc = .ok (.invokestatic idx, 3)) (kk : ∀ (H1 : Heap) (locs1 : List Loc), Wd Z (cmb (sJ σ' 164 0 0 0 (if r = 0 then 0 else 1)) μ) s H1 locs1 → W p l e R s m args below meth c H1 locs1 (cells + 1) (slots + 6) Q (F0 m (pc + 3) ls (.int 0 :: rest))) : W p l e R s m args below meth c H locs cells slots Q (F0 m pc ls (.ref (Z.1 + 674) :: .int x1 :: .ref (Z.1 + 0) :: rest)) :=
  l_is hc hw (cl_back_s hst0 hf) yw_L_back hl (RO.call hR (by decide)) hcs rfl hls hst hdg rfl kk
theorem cl_told_n (hst : l.stackTraces = false) {N : Nat} {x1 : Int32} {x2 : Int32} {σ' : St} (hf : fX_told N x1 x2 σ = some (none, σ')) : Clz l Z y_L_told method_9_code 5 hh_L_told { frames := 11, cells := 2, slots := 12, locals := 660 } [.ref (Z.1 + 0), .int x1, .int x2, .ref (Z.1 + 674)] (cmb σ μ) 1 (cmb σ' μ) := by
  refine l_met (by decide) (Nat.le_of_ble_eq_true rfl) (fun p e s m args below meth c ls hc htb hr hw hl => ?_)
  have hx := hc.hx
  have hb := hc.hb
  refine lv_aload_n hx hb (dq tk_L_told_0 0 rfl) rfl (lv_at hl 3 rfl) ?_
  refine lv_iconst (v := 0) hx hb (dq tk_L_told_0 1 rfl) (by decide) ?_
  refine lv_aload_n hx hb (dq tk_L_told_0 2 rfl) rfl (lv_at hl 0 rfl) ?_
  refine lv_iload_n hx hb (dq tk_L_told_0 3 rfl) rfl (lv_at hl 1 rfl) ?_
  refine lv_iload_n hx hb (dq tk_L_told_0 4 rfl) rfl (lv_at hl 2 rfl) ?_
  refine KZ_X_told hst hc hw lk_1375 hf ⟨Nat.le_of_ble_eq_true rfl, Nat.le_of_ble_eq_true rfl⟩ ⟨Nat.le_of_ble_eq_true rfl, Nat.le_of_ble_eq_true rfl⟩ hl.1 (Nat.le_of_ble_eq_true rfl) (dq tk_L_told_0 5 rfl) (fun hn ce q H locs hw hce hcv hcl => ?_) (fun r1 hr1 H locs hw => ?_)
  · refine l_catch hc htb (by intro x hx; cases hx; exact ⟨by decide, rfl, rfl⟩) (by decide) lk_1023 (va_Nw.use rfl hc.2.2.2.a9) hce hcv hcl ?_
    refine lv_astore (lv' := [(4, .ref q), (0, .ref (Z.1 + 0)), (1, .int x1), (2, .int x2), (3, .ref (Z.1 + 674))]) hx hb (dq tk_L_told_0 9 rfl) hl (by decide) rfl (fun ls hl => ?_)
    refine lv_iconst (v := 1) hx hb (dq tk_L_told_0 10 rfl) (by decide) ?_
    exact x_iret hc hw hr (dq tk_L_told_0 11 rfl)
  · cases hr1
theorem KL_told_n (hst0 : l.stackTraces = false) {cc : ByteArray} {own : String} {nL pc idx : Nat} {ls : Array Slot} {rest : List Value} {N : Nat} {x1 : Int32} {x2 : Int32} {σ' : St} (hc : Cxz p s m meth c args cc own nL Z) (hw : Wd Z (cmb σ μ) s H locs) (hl : Cond.methodLink own idx y_L_told ∈ TB) (hf : fX_told N x1 x2 σ = some (none, σ')) (hR : RO R (11 + 1)) (hcs : cells + 2 ≤ R.cells ∧ slots + 12 ≤ R.slots) (hls : ls.size = nL) (hst : (rest.map fun v => v.category).sum ≤ 8) (hdg : decode cc pc = .ok (.invokestatic idx, 3)) (kk : ∀ (H1 : Heap) (locs1 : List Loc), Wd Z (cmb σ' μ) s H1 locs1 → W p l e R s m args below meth c H1 locs1 (cells + 2) (slots + 12) Q (F0 m (pc + 3) ls (.int 1 :: rest))) : W p l e R s m args below meth c H locs cells slots Q (F0 m pc ls (.ref (Z.1 + 674) :: .int x2 :: .int x1 :: .ref (Z.1 + 0) :: rest)) :=
  l_is hc hw (cl_told_n hst0 hf) yw_L_told hl (RO.call hR (by decide)) hcs rfl hls hst hdg rfl kk
theorem cl_told_s (hst : l.stackTraces = false) {N : Nat} {x1 : Int32} {x2 : Int32} {r : Int32} {σ' : St} (hf : fX_told N x1 x2 σ = some (some r, σ')) : Clz l Z y_L_told method_9_code 5 hh_L_told { frames := 11, cells := 2, slots := 12, locals := 660 } [.ref (Z.1 + 0), .int x1, .int x2, .ref (Z.1 + 674)] (cmb σ μ) 0 (cmb (sJ σ' 164 0 0 0 r.toInt64) μ) := by
  refine l_met (by decide) (Nat.le_of_ble_eq_true rfl) (fun p e s m args below meth c ls hc htb hr hw hl => ?_)
  have hx := hc.hx
  have hb := hc.hb
  refine lv_aload_n hx hb (dq tk_L_told_0 0 rfl) rfl (lv_at hl 3 rfl) ?_
  refine lv_iconst (v := 0) hx hb (dq tk_L_told_0 1 rfl) (by decide) ?_
  refine lv_aload_n hx hb (dq tk_L_told_0 2 rfl) rfl (lv_at hl 0 rfl) ?_
  refine lv_iload_n hx hb (dq tk_L_told_0 3 rfl) rfl (lv_at hl 1 rfl) ?_
  refine lv_iload_n hx hb (dq tk_L_told_0 4 rfl) rfl (lv_at hl 2 rfl) ?_
  refine KZ_X_told hst hc hw lk_1375 hf ⟨Nat.le_of_ble_eq_true rfl, Nat.le_of_ble_eq_true rfl⟩ ⟨Nat.le_of_ble_eq_true rfl, Nat.le_of_ble_eq_true rfl⟩ hl.1 (Nat.le_of_ble_eq_true rfl) (dq tk_L_told_0 5 rfl) (fun hn ce q H locs hw hce hcv hcl => ?_) (fun r1 hr1 H locs hw => ?_)
  · cases hn
  · cases hr1
    refine lv_i2l hx hb (dq tk_L_told_0 6 rfl) rfl ?_
    refine l_last hc hw (dq tk_L_told_0 7 rfl) (fun H locs hw => ?_)
    refine lv_goto (tgt := 17) hx hb (dq tk_L_told_0 8 rfl) (by decide) ?_
    refine lv_iconst (v := 0) hx hb (dq tk_L_told_0 12 rfl) (by decide) ?_
    exact x_iret hc hw hr (dq tk_L_told_0 13 rfl)
theorem KL_told_s (hst0 : l.stackTraces = false) {cc : ByteArray} {own : String} {nL pc idx : Nat} {ls : Array Slot} {rest : List Value} {N : Nat} {x1 : Int32} {x2 : Int32} {r : Int32} {σ' : St} (hc : Cxz p s m meth c args cc own nL Z) (hw : Wd Z (cmb σ μ) s H locs) (hl : Cond.methodLink own idx y_L_told ∈ TB) (hf : fX_told N x1 x2 σ = some (some r, σ')) (hR : RO R (11 + 1)) (hcs : cells + 2 ≤ R.cells ∧ slots + 12 ≤ R.slots) (hls : ls.size = nL) (hst : (rest.map fun v => v.category).sum ≤ 8) (hdg : decode cc pc = .ok (.invokestatic idx, 3)) (kk : ∀ (H1 : Heap) (locs1 : List Loc), Wd Z (cmb (sJ σ' 164 0 0 0 r.toInt64) μ) s H1 locs1 → W p l e R s m args below meth c H1 locs1 (cells + 2) (slots + 12) Q (F0 m (pc + 3) ls (.int 0 :: rest))) : W p l e R s m args below meth c H locs cells slots Q (F0 m pc ls (.ref (Z.1 + 674) :: .int x2 :: .int x1 :: .ref (Z.1 + 0) :: rest)) :=
  l_is hc hw (cl_told_s hst0 hf) yw_L_told hl (RO.call hR (by decide)) hcs rfl hls hst hdg rfl kk
theorem cl_days_n (hst : l.stackTraces = false) {N : Nat} {x1 : Int32} {σ' : St} (hf : fX_days N x1 σ = some (none, σ')) : Clz l Z y_L_days method_10_code 4 hh_L_days { frames := 10, cells := 1, slots := 6, locals := 600 } [.ref (Z.1 + 0), .int x1, .ref (Z.1 + 674)] (cmb σ μ) 1 (cmb σ' μ) := by
  refine l_met (by decide) (Nat.le_of_ble_eq_true rfl) (fun p e s m args below meth c ls hc htb hr hw hl => ?_)
  have hx := hc.hx
  have hb := hc.hb
  refine lv_aload_n hx hb (dq tk_L_days_0 0 rfl) rfl (lv_at hl 2 rfl) ?_
  refine lv_iconst (v := 0) hx hb (dq tk_L_days_0 1 rfl) (by decide) ?_
  refine lv_aload_n hx hb (dq tk_L_days_0 2 rfl) rfl (lv_at hl 0 rfl) ?_
  refine lv_iload_n hx hb (dq tk_L_days_0 3 rfl) rfl (lv_at hl 1 rfl) ?_
  refine KZ_X_days hst hc hw lk_1395 hf ⟨Nat.le_of_ble_eq_true rfl, Nat.le_of_ble_eq_true rfl⟩ ⟨Nat.le_of_ble_eq_true rfl, Nat.le_of_ble_eq_true rfl⟩ hl.1 (Nat.le_of_ble_eq_true rfl) (dq tk_L_days_0 4 rfl) (fun hn ce q H locs hw hce hcv hcl => ?_) (fun r1 hr1 H locs hw => ?_)
  · refine l_catch hc htb (by intro x hx; cases hx; exact ⟨by decide, rfl, rfl⟩) (by decide) lk_1144 (va_Nw.use rfl hc.2.2.2.a10) hce hcv hcl ?_
    refine lv_astore_n (lv' := [(3, .ref q), (0, .ref (Z.1 + 0)), (1, .int x1), (2, .ref (Z.1 + 674))]) hx hb (dq tk_L_days_0 8 rfl) rfl hl (by decide) rfl (fun ls hl => ?_)
    refine lv_iconst (v := 1) hx hb (dq tk_L_days_0 9 rfl) (by decide) ?_
    exact x_iret hc hw hr (dq tk_L_days_0 10 rfl)
  · cases hr1
theorem KL_days_n (hst0 : l.stackTraces = false) {cc : ByteArray} {own : String} {nL pc idx : Nat} {ls : Array Slot} {rest : List Value} {N : Nat} {x1 : Int32} {σ' : St} (hc : Cxz p s m meth c args cc own nL Z) (hw : Wd Z (cmb σ μ) s H locs) (hl : Cond.methodLink own idx y_L_days ∈ TB) (hf : fX_days N x1 σ = some (none, σ')) (hR : RO R (10 + 1)) (hcs : cells + 1 ≤ R.cells ∧ slots + 6 ≤ R.slots) (hls : ls.size = nL) (hst : (rest.map fun v => v.category).sum ≤ 8) (hdg : decode cc pc = .ok (.invokestatic idx, 3)) (kk : ∀ (H1 : Heap) (locs1 : List Loc), Wd Z (cmb σ' μ) s H1 locs1 → W p l e R s m args below meth c H1 locs1 (cells + 1) (slots + 6) Q (F0 m (pc + 3) ls (.int 1 :: rest))) : W p l e R s m args below meth c H locs cells slots Q (F0 m pc ls (.ref (Z.1 + 674) :: .int x1 :: .ref (Z.1 + 0) :: rest)) :=
  l_is hc hw (cl_days_n hst0 hf) yw_L_days hl (RO.call hR (by decide)) hcs rfl hls hst hdg rfl kk
theorem cl_days_s (hst : l.stackTraces = false) {N : Nat} {x1 : Int32} {r : Int32} {σ' : St} (hf : fX_days N x1 σ = some (some r, σ')) : Clz l Z y_L_days method_10_code 4 hh_L_days { frames := 10, cells := 1, slots := 6, locals := 600 } [.ref (Z.1 + 0), .int x1, .ref (Z.1 + 674)] (cmb σ μ) 0 (cmb (sJ σ' 164 0 0 0 r.toInt64) μ) := by
  refine l_met (by decide) (Nat.le_of_ble_eq_true rfl) (fun p e s m args below meth c ls hc htb hr hw hl => ?_)
  have hx := hc.hx
  have hb := hc.hb
  refine lv_aload_n hx hb (dq tk_L_days_0 0 rfl) rfl (lv_at hl 2 rfl) ?_
  refine lv_iconst (v := 0) hx hb (dq tk_L_days_0 1 rfl) (by decide) ?_
  refine lv_aload_n hx hb (dq tk_L_days_0 2 rfl) rfl (lv_at hl 0 rfl) ?_
  refine lv_iload_n hx hb (dq tk_L_days_0 3 rfl) rfl (lv_at hl 1 rfl) ?_
  refine KZ_X_days hst hc hw lk_1395 hf ⟨Nat.le_of_ble_eq_true rfl, Nat.le_of_ble_eq_true rfl⟩ ⟨Nat.le_of_ble_eq_true rfl, Nat.le_of_ble_eq_true rfl⟩ hl.1 (Nat.le_of_ble_eq_true rfl) (dq tk_L_days_0 4 rfl) (fun hn ce q H locs hw hce hcv hcl => ?_) (fun r1 hr1 H locs hw => ?_)
  · cases hn
  · cases hr1
    refine lv_i2l hx hb (dq tk_L_days_0 5 rfl) rfl ?_
    refine l_last hc hw (dq tk_L_days_0 6 rfl) (fun H locs hw => ?_)
    refine lv_goto (tgt := 15) hx hb (dq tk_L_days_0 7 rfl) (by decide) ?_
    refine lv_iconst (v := 0) hx hb (dq tk_L_days_0 11 rfl) (by decide) ?_
    exact x_iret hc hw hr (dq tk_L_days_0 12 rfl)
theorem KL_days_s (hst0 : l.stackTraces = false) {cc : ByteArray} {own : String} {nL pc idx : Nat} {ls : Array Slot} {rest : List Value} {N : Nat} {x1 : Int32} {r : Int32} {σ' : St} (hc : Cxz p s m meth c args cc own nL Z) (hw : Wd Z (cmb σ μ) s H locs) (hl : Cond.methodLink own idx y_L_days ∈ TB) (hf : fX_days N x1 σ = some (some r, σ')) (hR : RO R (10 + 1)) (hcs : cells + 1 ≤ R.cells ∧ slots + 6 ≤ R.slots) (hls : ls.size = nL) (hst : (rest.map fun v => v.category).sum ≤ 8) (hdg : decode cc pc = .ok (.invokestatic idx, 3)) (kk : ∀ (H1 : Heap) (locs1 : List Loc), Wd Z (cmb (sJ σ' 164 0 0 0 r.toInt64) μ) s H1 locs1 → W p l e R s m args below meth c H1 locs1 (cells + 1) (slots + 6) Q (F0 m (pc + 3) ls (.int 0 :: rest))) : W p l e R s m args below meth c H locs cells slots Q (F0 m pc ls (.ref (Z.1 + 674) :: .int x1 :: .ref (Z.1 + 0) :: rest)) :=
  l_is hc hw (cl_days_s hst0 hf) yw_L_days hl (RO.call hR (by decide)) hcs rfl hls hst hdg rfl kk
theorem cl_look_n (hst : l.stackTraces = false) {N : Nat} {x1 : Int32} {σ' : St} (hf : fX_look N x1 σ = some (none, σ')) : Clz l Z y_L_look method_11_code 4 hh_L_look { frames := 7, cells := 1, slots := 6, locals := 420 } [.ref (Z.1 + 0), .int x1, .ref (Z.1 + 674)] (cmb σ μ) 1 (cmb σ' μ) := by
  refine l_met (by decide) (Nat.le_of_ble_eq_true rfl) (fun p e s m args below meth c ls hc htb hr hw hl => ?_)
  have hx := hc.hx
  have hb := hc.hb
  refine lv_aload_n hx hb (dq tk_L_look_0 0 rfl) rfl (lv_at hl 2 rfl) ?_
  refine lv_iconst (v := 0) hx hb (dq tk_L_look_0 1 rfl) (by decide) ?_
  refine lv_aload_n hx hb (dq tk_L_look_0 2 rfl) rfl (lv_at hl 0 rfl) ?_
  refine lv_iload_n hx hb (dq tk_L_look_0 3 rfl) rfl (lv_at hl 1 rfl) ?_
  refine KZ_X_look hst hc hw lk_1423 hf ⟨Nat.le_of_ble_eq_true rfl, Nat.le_of_ble_eq_true rfl⟩ ⟨Nat.le_of_ble_eq_true rfl, Nat.le_of_ble_eq_true rfl⟩ hl.1 (Nat.le_of_ble_eq_true rfl) (dq tk_L_look_0 4 rfl) (fun hn ce q H locs hw hce hcv hcl => ?_) (fun r1 hr1 H locs hw => ?_)
  · refine l_catch hc htb (by intro x hx; cases hx; exact ⟨by decide, rfl, rfl⟩) (by decide) lk_1144 (va_Nw.use rfl hc.2.2.2.a10) hce hcv hcl ?_
    refine lv_astore_n (lv' := [(3, .ref q), (0, .ref (Z.1 + 0)), (1, .int x1), (2, .ref (Z.1 + 674))]) hx hb (dq tk_L_look_0 8 rfl) rfl hl (by decide) rfl (fun ls hl => ?_)
    refine lv_iconst (v := 1) hx hb (dq tk_L_look_0 9 rfl) (by decide) ?_
    exact x_iret hc hw hr (dq tk_L_look_0 10 rfl)
  · cases hr1
theorem KL_look_n (hst0 : l.stackTraces = false) {cc : ByteArray} {own : String} {nL pc idx : Nat} {ls : Array Slot} {rest : List Value} {N : Nat} {x1 : Int32} {σ' : St} (hc : Cxz p s m meth c args cc own nL Z) (hw : Wd Z (cmb σ μ) s H locs) (hl : Cond.methodLink own idx y_L_look ∈ TB) (hf : fX_look N x1 σ = some (none, σ')) (hR : RO R (7 + 1)) (hcs : cells + 1 ≤ R.cells ∧ slots + 6 ≤ R.slots) (hls : ls.size = nL) (hst : (rest.map fun v => v.category).sum ≤ 8) (hdg : decode cc pc = .ok (.invokestatic idx, 3)) (kk : ∀ (H1 : Heap) (locs1 : List Loc), Wd Z (cmb σ' μ) s H1 locs1 → W p l e R s m args below meth c H1 locs1 (cells + 1) (slots + 6) Q (F0 m (pc + 3) ls (.int 1 :: rest))) : W p l e R s m args below meth c H locs cells slots Q (F0 m pc ls (.ref (Z.1 + 674) :: .int x1 :: .ref (Z.1 + 0) :: rest)) :=
  l_is hc hw (cl_look_n hst0 hf) yw_L_look hl (RO.call hR (by decide)) hcs rfl hls hst hdg rfl kk
theorem cl_look_s (hst : l.stackTraces = false) {N : Nat} {x1 : Int32} {r : Int32} {σ' : St} (hf : fX_look N x1 σ = some (some r, σ')) : Clz l Z y_L_look method_11_code 4 hh_L_look { frames := 7, cells := 1, slots := 6, locals := 420 } [.ref (Z.1 + 0), .int x1, .ref (Z.1 + 674)] (cmb σ μ) 0 (cmb (sJ σ' 164 0 0 0 r.toInt64) μ) := by
  refine l_met (by decide) (Nat.le_of_ble_eq_true rfl) (fun p e s m args below meth c ls hc htb hr hw hl => ?_)
  have hx := hc.hx
  have hb := hc.hb
  refine lv_aload_n hx hb (dq tk_L_look_0 0 rfl) rfl (lv_at hl 2 rfl) ?_
  refine lv_iconst (v := 0) hx hb (dq tk_L_look_0 1 rfl) (by decide) ?_
  refine lv_aload_n hx hb (dq tk_L_look_0 2 rfl) rfl (lv_at hl 0 rfl) ?_
  refine lv_iload_n hx hb (dq tk_L_look_0 3 rfl) rfl (lv_at hl 1 rfl) ?_
  refine KZ_X_look hst hc hw lk_1423 hf ⟨Nat.le_of_ble_eq_true rfl, Nat.le_of_ble_eq_true rfl⟩ ⟨Nat.le_of_ble_eq_true rfl, Nat.le_of_ble_eq_true rfl⟩ hl.1 (Nat.le_of_ble_eq_true rfl) (dq tk_L_look_0 4 rfl) (fun hn ce q H locs hw hce hcv hcl => ?_) (fun r1 hr1 H locs hw => ?_)
  · cases hn
  · cases hr1
    refine lv_i2l hx hb (dq tk_L_look_0 5 rfl) rfl ?_
    refine l_last hc hw (dq tk_L_look_0 6 rfl) (fun H locs hw => ?_)
    refine lv_goto (tgt := 15) hx hb (dq tk_L_look_0 7 rfl) (by decide) ?_
    refine lv_iconst (v := 0) hx hb (dq tk_L_look_0 11 rfl) (by decide) ?_
    exact x_iret hc hw hr (dq tk_L_look_0 12 rfl)
theorem KL_look_s (hst0 : l.stackTraces = false) {cc : ByteArray} {own : String} {nL pc idx : Nat} {ls : Array Slot} {rest : List Value} {N : Nat} {x1 : Int32} {r : Int32} {σ' : St} (hc : Cxz p s m meth c args cc own nL Z) (hw : Wd Z (cmb σ μ) s H locs) (hl : Cond.methodLink own idx y_L_look ∈ TB) (hf : fX_look N x1 σ = some (some r, σ')) (hR : RO R (7 + 1)) (hcs : cells + 1 ≤ R.cells ∧ slots + 6 ≤ R.slots) (hls : ls.size = nL) (hst : (rest.map fun v => v.category).sum ≤ 8) (hdg : decode cc pc = .ok (.invokestatic idx, 3)) (kk : ∀ (H1 : Heap) (locs1 : List Loc), Wd Z (cmb (sJ σ' 164 0 0 0 r.toInt64) μ) s H1 locs1 → W p l e R s m args below meth c H1 locs1 (cells + 1) (slots + 6) Q (F0 m (pc + 3) ls (.int 0 :: rest))) : W p l e R s m args below meth c H locs cells slots Q (F0 m pc ls (.ref (Z.1 + 674) :: .int x1 :: .ref (Z.1 + 0) :: rest)) :=
  l_is hc hw (cl_look_s hst0 hf) yw_L_look hl (RO.call hR (by decide)) hcs rfl hls hst hdg rfl kk
theorem cl_day_n (hst : l.stackTraces = false) {N : Nat} {x1 : Int32} {x2 : Int32} {x3 : Int32} {σ' : St} (hf : fX_day N x1 x2 x3 σ = some (none, σ')) : Clz l Z y_L_day method_12_code 6 hh_L_day { frames := 10, cells := 2, slots := 12, locals := 600 } [.ref (Z.1 + 0), .int x1, .int x2, .int x3, .ref (Z.1 + 674)] (cmb σ μ) 1 (cmb σ' μ) := by
  refine l_met (by decide) (Nat.le_of_ble_eq_true rfl) (fun p e s m args below meth c ls hc htb hr hw hl => ?_)
  have hx := hc.hx
  have hb := hc.hb
  refine lv_aload hx hb (dq tk_L_day_0 0 rfl) (lv_at hl 4 rfl) ?_
  refine lv_iconst (v := 0) hx hb (dq tk_L_day_0 1 rfl) (by decide) ?_
  refine lv_aload_n hx hb (dq tk_L_day_0 2 rfl) rfl (lv_at hl 0 rfl) ?_
  refine lv_iload_n hx hb (dq tk_L_day_0 3 rfl) rfl (lv_at hl 1 rfl) ?_
  refine lv_iload_n hx hb (dq tk_L_day_0 4 rfl) rfl (lv_at hl 2 rfl) ?_
  refine lv_iload_n hx hb (dq tk_L_day_0 5 rfl) rfl (lv_at hl 3 rfl) ?_
  refine KZ_X_day hst hc hw lk_1430 hf ⟨Nat.le_of_ble_eq_true rfl, Nat.le_of_ble_eq_true rfl⟩ ⟨Nat.le_of_ble_eq_true rfl, Nat.le_of_ble_eq_true rfl⟩ hl.1 (Nat.le_of_ble_eq_true rfl) (dq tk_L_day_0 6 rfl) (fun hn ce q H locs hw hce hcv hcl => ?_) (fun r1 hr1 H locs hw => ?_)
  · refine l_catch hc htb (by intro x hx; cases hx; exact ⟨by decide, rfl, rfl⟩) (by decide) lk_1023 (va_Nw.use rfl hc.2.2.2.a9) hce hcv hcl ?_
    refine lv_astore (lv' := [(5, .ref q), (0, .ref (Z.1 + 0)), (1, .int x1), (2, .int x2), (3, .int x3), (4, .ref (Z.1 + 674))]) hx hb (dq tk_L_day_0 10 rfl) hl (by decide) rfl (fun ls hl => ?_)
    refine lv_iconst (v := 1) hx hb (dq tk_L_day_0 11 rfl) (by decide) ?_
    exact x_iret hc hw hr (dq tk_L_day_0 12 rfl)
  · cases hr1
theorem KL_day_n (hst0 : l.stackTraces = false) {cc : ByteArray} {own : String} {nL pc idx : Nat} {ls : Array Slot} {rest : List Value} {N : Nat} {x1 : Int32} {x2 : Int32} {x3 : Int32} {σ' : St} (hc : Cxz p s m meth c args cc own nL Z) (hw : Wd Z (cmb σ μ) s H locs) (hl : Cond.methodLink own idx y_L_day ∈ TB) (hf : fX_day N x1 x2 x3 σ = some (none, σ')) (hR : RO R (10 + 1)) (hcs : cells + 2 ≤ R.cells ∧ slots + 12 ≤ R.slots) (hls : ls.size = nL) (hst : (rest.map fun v => v.category).sum ≤ 8) (hdg : decode cc pc = .ok (.invokestatic idx, 3)) (kk : ∀ (H1 : Heap) (locs1 : List Loc), Wd Z (cmb σ' μ) s H1 locs1 → W p l e R s m args below meth c H1 locs1 (cells + 2) (slots + 12) Q (F0 m (pc + 3) ls (.int 1 :: rest))) : W p l e R s m args below meth c H locs cells slots Q (F0 m pc ls (.ref (Z.1 + 674) :: .int x3 :: .int x2 :: .int x1 :: .ref (Z.1 + 0) :: rest)) :=
  l_is hc hw (cl_day_n hst0 hf) yw_L_day hl (RO.call hR (by decide)) hcs rfl hls hst hdg rfl kk
theorem cl_day_s (hst : l.stackTraces = false) {N : Nat} {x1 : Int32} {x2 : Int32} {x3 : Int32} {r : Int32} {σ' : St} (hf : fX_day N x1 x2 x3 σ = some (some r, σ')) : Clz l Z y_L_day method_12_code 6 hh_L_day { frames := 10, cells := 2, slots := 12, locals := 600 } [.ref (Z.1 + 0), .int x1, .int x2, .int x3, .ref (Z.1 + 674)] (cmb σ μ) 0 (cmb (sJ σ' 164 0 0 0 r.toInt64) μ) := by
  refine l_met (by decide) (Nat.le_of_ble_eq_true rfl) (fun p e s m args below meth c ls hc htb hr hw hl => ?_)
  have hx := hc.hx
  have hb := hc.hb
  refine lv_aload hx hb (dq tk_L_day_0 0 rfl) (lv_at hl 4 rfl) ?_
  refine lv_iconst (v := 0) hx hb (dq tk_L_day_0 1 rfl) (by decide) ?_
  refine lv_aload_n hx hb (dq tk_L_day_0 2 rfl) rfl (lv_at hl 0 rfl) ?_
  refine lv_iload_n hx hb (dq tk_L_day_0 3 rfl) rfl (lv_at hl 1 rfl) ?_
  refine lv_iload_n hx hb (dq tk_L_day_0 4 rfl) rfl (lv_at hl 2 rfl) ?_
  refine lv_iload_n hx hb (dq tk_L_day_0 5 rfl) rfl (lv_at hl 3 rfl) ?_
  refine KZ_X_day hst hc hw lk_1430 hf ⟨Nat.le_of_ble_eq_true rfl, Nat.le_of_ble_eq_true rfl⟩ ⟨Nat.le_of_ble_eq_true rfl, Nat.le_of_ble_eq_true rfl⟩ hl.1 (Nat.le_of_ble_eq_true rfl) (dq tk_L_day_0 6 rfl) (fun hn ce q H locs hw hce hcv hcl => ?_) (fun r1 hr1 H locs hw => ?_)
  · cases hn
  · cases hr1
    refine lv_i2l hx hb (dq tk_L_day_0 7 rfl) rfl ?_
    refine l_last hc hw (dq tk_L_day_0 8 rfl) (fun H locs hw => ?_)
    refine lv_goto (tgt := 19) hx hb (dq tk_L_day_0 9 rfl) (by decide) ?_
    refine lv_iconst (v := 0) hx hb (dq tk_L_day_0 13 rfl) (by decide) ?_
    exact x_iret hc hw hr (dq tk_L_day_0 14 rfl)
theorem KL_day_s (hst0 : l.stackTraces = false) {cc : ByteArray} {own : String} {nL pc idx : Nat} {ls : Array Slot} {rest : List Value} {N : Nat} {x1 : Int32} {x2 : Int32} {x3 : Int32} {r : Int32} {σ' : St} (hc : Cxz p s m meth c args cc own nL Z) (hw : Wd Z (cmb σ μ) s H locs) (hl : Cond.methodLink own idx y_L_day ∈ TB) (hf : fX_day N x1 x2 x3 σ = some (some r, σ')) (hR : RO R (10 + 1)) (hcs : cells + 2 ≤ R.cells ∧ slots + 12 ≤ R.slots) (hls : ls.size = nL) (hst : (rest.map fun v => v.category).sum ≤ 8) (hdg : decode cc pc = .ok (.invokestatic idx, 3)) (kk : ∀ (H1 : Heap) (locs1 : List Loc), Wd Z (cmb (sJ σ' 164 0 0 0 r.toInt64) μ) s H1 locs1 → W p l e R s m args below meth c H1 locs1 (cells + 2) (slots + 12) Q (F0 m (pc + 3) ls (.int 0 :: rest))) : W p l e R s m args below meth c H locs cells slots Q (F0 m pc ls (.ref (Z.1 + 674) :: .int x3 :: .int x2 :: .int x1 :: .ref (Z.1 + 0) :: rest)) :=
  l_is hc hw (cl_day_s hst0 hf) yw_L_day hl (RO.call hR (by decide)) hcs rfl hls hst hdg rfl kk
theorem cl_claim_n (hst : l.stackTraces = false) {N : Nat} {x1 : Int32} {x2 : Int32} {x3 : Int32} {σ' : St} (hf : fX_claim N x1 x2 x3 σ = some (none, σ')) : Clz l Z y_L_claim method_13_code 6 hh_L_claim { frames := 10, cells := 3, slots := 18, locals := 600 } [.ref (Z.1 + 0), .int x1, .int x2, .int x3, .ref (Z.1 + 674)] (cmb σ μ) 1 (cmb σ' μ) := by
  refine l_met (by decide) (Nat.le_of_ble_eq_true rfl) (fun p e s m args below meth c ls hc htb hr hw hl => ?_)
  have hx := hc.hx
  have hb := hc.hb
  refine lv_aload hx hb (dq tk_L_claim_0 0 rfl) (lv_at hl 4 rfl) ?_
  refine lv_iconst (v := 0) hx hb (dq tk_L_claim_0 1 rfl) (by decide) ?_
  refine lv_aload_n hx hb (dq tk_L_claim_0 2 rfl) rfl (lv_at hl 0 rfl) ?_
  refine lv_iload_n hx hb (dq tk_L_claim_0 3 rfl) rfl (lv_at hl 1 rfl) ?_
  refine lv_iload_n hx hb (dq tk_L_claim_0 4 rfl) rfl (lv_at hl 2 rfl) ?_
  refine lv_iload_n hx hb (dq tk_L_claim_0 5 rfl) rfl (lv_at hl 3 rfl) ?_
  refine KZ_X_claim hst hc hw lk_1450 hf ⟨Nat.le_of_ble_eq_true rfl, Nat.le_of_ble_eq_true rfl⟩ ⟨Nat.le_of_ble_eq_true rfl, Nat.le_of_ble_eq_true rfl⟩ hl.1 (Nat.le_of_ble_eq_true rfl) (dq tk_L_claim_0 6 rfl) (fun hn ce q H locs hw hce hcv hcl => ?_) (fun r1 hr1 H locs hw => ?_)
  · refine l_catch hc htb (by intro x hx; cases hx; exact ⟨by decide, rfl, rfl⟩) (by decide) lk_1023 (va_Nw.use rfl hc.2.2.2.a9) hce hcv hcl ?_
    refine lv_astore (lv' := [(5, .ref q), (0, .ref (Z.1 + 0)), (1, .int x1), (2, .int x2), (3, .int x3), (4, .ref (Z.1 + 674))]) hx hb (dq tk_L_claim_0 10 rfl) hl (by decide) rfl (fun ls hl => ?_)
    refine lv_iconst (v := 1) hx hb (dq tk_L_claim_0 11 rfl) (by decide) ?_
    exact x_iret hc hw hr (dq tk_L_claim_0 12 rfl)
  · cases hr1
theorem KL_claim_n (hst0 : l.stackTraces = false) {cc : ByteArray} {own : String} {nL pc idx : Nat} {ls : Array Slot} {rest : List Value} {N : Nat} {x1 : Int32} {x2 : Int32} {x3 : Int32} {σ' : St} (hc : Cxz p s m meth c args cc own nL Z) (hw : Wd Z (cmb σ μ) s H locs) (hl : Cond.methodLink own idx y_L_claim ∈ TB) (hf : fX_claim N x1 x2 x3 σ = some (none, σ')) (hR : RO R (10 + 1)) (hcs : cells + 3 ≤ R.cells ∧ slots + 18 ≤ R.slots) (hls : ls.size = nL) (hst : (rest.map fun v => v.category).sum ≤ 8) (hdg : decode cc pc = .ok (.invokestatic idx, 3)) (kk : ∀ (H1 : Heap) (locs1 : List Loc), Wd Z (cmb σ' μ) s H1 locs1 → W p l e R s m args below meth c H1 locs1 (cells + 3) (slots + 18) Q (F0 m (pc + 3) ls (.int 1 :: rest))) : W p l e R s m args below meth c H locs cells slots Q (F0 m pc ls (.ref (Z.1 + 674) :: .int x3 :: .int x2 :: .int x1 :: .ref (Z.1 + 0) :: rest)) :=
  l_is hc hw (cl_claim_n hst0 hf) yw_L_claim hl (RO.call hR (by decide)) hcs rfl hls hst hdg rfl kk
theorem cl_claim_s (hst : l.stackTraces = false) {N : Nat} {x1 : Int32} {x2 : Int32} {x3 : Int32} {r : Int32} {σ' : St} (hf : fX_claim N x1 x2 x3 σ = some (some r, σ')) : Clz l Z y_L_claim method_13_code 6 hh_L_claim { frames := 10, cells := 3, slots := 18, locals := 600 } [.ref (Z.1 + 0), .int x1, .int x2, .int x3, .ref (Z.1 + 674)] (cmb σ μ) 0 (cmb (sJ σ' 164 0 0 0 r.toInt64) μ) := by
  refine l_met (by decide) (Nat.le_of_ble_eq_true rfl) (fun p e s m args below meth c ls hc htb hr hw hl => ?_)
  have hx := hc.hx
  have hb := hc.hb
  refine lv_aload hx hb (dq tk_L_claim_0 0 rfl) (lv_at hl 4 rfl) ?_
  refine lv_iconst (v := 0) hx hb (dq tk_L_claim_0 1 rfl) (by decide) ?_
  refine lv_aload_n hx hb (dq tk_L_claim_0 2 rfl) rfl (lv_at hl 0 rfl) ?_
  refine lv_iload_n hx hb (dq tk_L_claim_0 3 rfl) rfl (lv_at hl 1 rfl) ?_
  refine lv_iload_n hx hb (dq tk_L_claim_0 4 rfl) rfl (lv_at hl 2 rfl) ?_
  refine lv_iload_n hx hb (dq tk_L_claim_0 5 rfl) rfl (lv_at hl 3 rfl) ?_
  refine KZ_X_claim hst hc hw lk_1450 hf ⟨Nat.le_of_ble_eq_true rfl, Nat.le_of_ble_eq_true rfl⟩ ⟨Nat.le_of_ble_eq_true rfl, Nat.le_of_ble_eq_true rfl⟩ hl.1 (Nat.le_of_ble_eq_true rfl) (dq tk_L_claim_0 6 rfl) (fun hn ce q H locs hw hce hcv hcl => ?_) (fun r1 hr1 H locs hw => ?_)
  · cases hn
  · cases hr1
    refine lv_i2l hx hb (dq tk_L_claim_0 7 rfl) rfl ?_
    refine l_last hc hw (dq tk_L_claim_0 8 rfl) (fun H locs hw => ?_)
    refine lv_goto (tgt := 19) hx hb (dq tk_L_claim_0 9 rfl) (by decide) ?_
    refine lv_iconst (v := 0) hx hb (dq tk_L_claim_0 13 rfl) (by decide) ?_
    exact x_iret hc hw hr (dq tk_L_claim_0 14 rfl)
theorem KL_claim_s (hst0 : l.stackTraces = false) {cc : ByteArray} {own : String} {nL pc idx : Nat} {ls : Array Slot} {rest : List Value} {N : Nat} {x1 : Int32} {x2 : Int32} {x3 : Int32} {r : Int32} {σ' : St} (hc : Cxz p s m meth c args cc own nL Z) (hw : Wd Z (cmb σ μ) s H locs) (hl : Cond.methodLink own idx y_L_claim ∈ TB) (hf : fX_claim N x1 x2 x3 σ = some (some r, σ')) (hR : RO R (10 + 1)) (hcs : cells + 3 ≤ R.cells ∧ slots + 18 ≤ R.slots) (hls : ls.size = nL) (hst : (rest.map fun v => v.category).sum ≤ 8) (hdg : decode cc pc = .ok (.invokestatic idx, 3)) (kk : ∀ (H1 : Heap) (locs1 : List Loc), Wd Z (cmb (sJ σ' 164 0 0 0 r.toInt64) μ) s H1 locs1 → W p l e R s m args below meth c H1 locs1 (cells + 3) (slots + 18) Q (F0 m (pc + 3) ls (.int 0 :: rest))) : W p l e R s m args below meth c H locs cells slots Q (F0 m pc ls (.ref (Z.1 + 674) :: .int x3 :: .int x2 :: .int x1 :: .ref (Z.1 + 0) :: rest)) :=
  l_is hc hw (cl_claim_s hst0 hf) yw_L_claim hl (RO.call hR (by decide)) hcs rfl hls hst hdg rfl kk
theorem cl_value_n (hst : l.stackTraces = false) {N : Nat} {x1 : Int32} {x2 : Int32} {σ' : St} (hf : fX_value N x1 x2 σ = some (none, σ')) : Clz l Z y_L_value method_14_code 5 hh_L_value { frames := 9, cells := 2, slots := 12, locals := 540 } [.ref (Z.1 + 0), .int x1, .int x2, .ref (Z.1 + 674)] (cmb σ μ) 1 (cmb σ' μ) := by
  refine l_met (by decide) (Nat.le_of_ble_eq_true rfl) (fun p e s m args below meth c ls hc htb hr hw hl => ?_)
  have hx := hc.hx
  have hb := hc.hb
  refine lv_aload_n hx hb (dq tk_L_value_0 0 rfl) rfl (lv_at hl 3 rfl) ?_
  refine lv_iconst (v := 0) hx hb (dq tk_L_value_0 1 rfl) (by decide) ?_
  refine lv_aload_n hx hb (dq tk_L_value_0 2 rfl) rfl (lv_at hl 0 rfl) ?_
  refine lv_iload_n hx hb (dq tk_L_value_0 3 rfl) rfl (lv_at hl 1 rfl) ?_
  refine lv_iload_n hx hb (dq tk_L_value_0 4 rfl) rfl (lv_at hl 2 rfl) ?_
  refine KZ_X_value hst hc hw lk_1457 hf ⟨Nat.le_of_ble_eq_true rfl, Nat.le_of_ble_eq_true rfl⟩ ⟨Nat.le_of_ble_eq_true rfl, Nat.le_of_ble_eq_true rfl⟩ hl.1 (Nat.le_of_ble_eq_true rfl) (dq tk_L_value_0 5 rfl) (fun hn ce q H locs hw hce hcv hcl => ?_) (fun r1 hr1 H locs hw => ?_)
  · refine l_catch hc htb (by intro x hx; cases hx; exact ⟨by decide, rfl, rfl⟩) (by decide) lk_1023 (va_Nw.use rfl hc.2.2.2.a9) hce hcv hcl ?_
    refine lv_astore (lv' := [(4, .ref q), (0, .ref (Z.1 + 0)), (1, .int x1), (2, .int x2), (3, .ref (Z.1 + 674))]) hx hb (dq tk_L_value_0 8 rfl) hl (by decide) rfl (fun ls hl => ?_)
    refine lv_iconst (v := 1) hx hb (dq tk_L_value_0 9 rfl) (by decide) ?_
    exact x_iret hc hw hr (dq tk_L_value_0 10 rfl)
  · cases hr1
theorem KL_value_n (hst0 : l.stackTraces = false) {cc : ByteArray} {own : String} {nL pc idx : Nat} {ls : Array Slot} {rest : List Value} {N : Nat} {x1 : Int32} {x2 : Int32} {σ' : St} (hc : Cxz p s m meth c args cc own nL Z) (hw : Wd Z (cmb σ μ) s H locs) (hl : Cond.methodLink own idx y_L_value ∈ TB) (hf : fX_value N x1 x2 σ = some (none, σ')) (hR : RO R (9 + 1)) (hcs : cells + 2 ≤ R.cells ∧ slots + 12 ≤ R.slots) (hls : ls.size = nL) (hst : (rest.map fun v => v.category).sum ≤ 8) (hdg : decode cc pc = .ok (.invokestatic idx, 3)) (kk : ∀ (H1 : Heap) (locs1 : List Loc), Wd Z (cmb σ' μ) s H1 locs1 → W p l e R s m args below meth c H1 locs1 (cells + 2) (slots + 12) Q (F0 m (pc + 3) ls (.int 1 :: rest))) : W p l e R s m args below meth c H locs cells slots Q (F0 m pc ls (.ref (Z.1 + 674) :: .int x2 :: .int x1 :: .ref (Z.1 + 0) :: rest)) :=
  l_is hc hw (cl_value_n hst0 hf) yw_L_value hl (RO.call hR (by decide)) hcs rfl hls hst hdg rfl kk
theorem cl_value_s (hst : l.stackTraces = false) {N : Nat} {x1 : Int32} {x2 : Int32} {r : Int64} {σ' : St} (hf : fX_value N x1 x2 σ = some (some r, σ')) : Clz l Z y_L_value method_14_code 5 hh_L_value { frames := 9, cells := 2, slots := 12, locals := 540 } [.ref (Z.1 + 0), .int x1, .int x2, .ref (Z.1 + 674)] (cmb σ μ) 0 (cmb (sJ σ' 164 0 0 0 r) μ) := by
  refine l_met (by decide) (Nat.le_of_ble_eq_true rfl) (fun p e s m args below meth c ls hc htb hr hw hl => ?_)
  have hx := hc.hx
  have hb := hc.hb
  refine lv_aload_n hx hb (dq tk_L_value_0 0 rfl) rfl (lv_at hl 3 rfl) ?_
  refine lv_iconst (v := 0) hx hb (dq tk_L_value_0 1 rfl) (by decide) ?_
  refine lv_aload_n hx hb (dq tk_L_value_0 2 rfl) rfl (lv_at hl 0 rfl) ?_
  refine lv_iload_n hx hb (dq tk_L_value_0 3 rfl) rfl (lv_at hl 1 rfl) ?_
  refine lv_iload_n hx hb (dq tk_L_value_0 4 rfl) rfl (lv_at hl 2 rfl) ?_
  refine KZ_X_value hst hc hw lk_1457 hf ⟨Nat.le_of_ble_eq_true rfl, Nat.le_of_ble_eq_true rfl⟩ ⟨Nat.le_of_ble_eq_true rfl, Nat.le_of_ble_eq_true rfl⟩ hl.1 (Nat.le_of_ble_eq_true rfl) (dq tk_L_value_0 5 rfl) (fun hn ce q H locs hw hce hcv hcl => ?_) (fun r1 hr1 H locs hw => ?_)
  · cases hn
  · cases hr1
    refine l_last hc hw (dq tk_L_value_0 6 rfl) (fun H locs hw => ?_)
    refine lv_goto (tgt := 16) hx hb (dq tk_L_value_0 7 rfl) (by decide) ?_
    refine lv_iconst (v := 0) hx hb (dq tk_L_value_0 11 rfl) (by decide) ?_
    exact x_iret hc hw hr (dq tk_L_value_0 12 rfl)
theorem KL_value_s (hst0 : l.stackTraces = false) {cc : ByteArray} {own : String} {nL pc idx : Nat} {ls : Array Slot} {rest : List Value} {N : Nat} {x1 : Int32} {x2 : Int32} {r : Int64} {σ' : St} (hc : Cxz p s m meth c args cc own nL Z) (hw : Wd Z (cmb σ μ) s H locs) (hl : Cond.methodLink own idx y_L_value ∈ TB) (hf : fX_value N x1 x2 σ = some (some r, σ')) (hR : RO R (9 + 1)) (hcs : cells + 2 ≤ R.cells ∧ slots + 12 ≤ R.slots) (hls : ls.size = nL) (hst : (rest.map fun v => v.category).sum ≤ 8) (hdg : decode cc pc = .ok (.invokestatic idx, 3)) (kk : ∀ (H1 : Heap) (locs1 : List Loc), Wd Z (cmb (sJ σ' 164 0 0 0 r) μ) s H1 locs1 → W p l e R s m args below meth c H1 locs1 (cells + 2) (slots + 12) Q (F0 m (pc + 3) ls (.int 0 :: rest))) : W p l e R s m args below meth c H locs cells slots Q (F0 m pc ls (.ref (Z.1 + 674) :: .int x2 :: .int x1 :: .ref (Z.1 + 0) :: rest)) :=
  l_is hc hw (cl_value_s hst0 hf) yw_L_value hl (RO.call hR (by decide)) hcs rfl hls hst hdg rfl kk
theorem cl_law_n (hst : l.stackTraces = false) {N : Nat} {x1 : Int32} {x2 : Int32} {σ' : St} (hf : fX_law N x1 x2 σ = some (none, σ')) : Clz l Z y_L_law method_15_code 5 hh_L_law { frames := 10, cells := 2, slots := 12, locals := 600 } [.ref (Z.1 + 0), .int x1, .int x2, .ref (Z.1 + 674)] (cmb σ μ) 1 (cmb σ' μ) := by
  refine l_met (by decide) (Nat.le_of_ble_eq_true rfl) (fun p e s m args below meth c ls hc htb hr hw hl => ?_)
  have hx := hc.hx
  have hb := hc.hb
  refine lv_aload_n hx hb (dq tk_L_law_0 0 rfl) rfl (lv_at hl 3 rfl) ?_
  refine lv_iconst (v := 0) hx hb (dq tk_L_law_0 1 rfl) (by decide) ?_
  refine lv_aload_n hx hb (dq tk_L_law_0 2 rfl) rfl (lv_at hl 0 rfl) ?_
  refine lv_iload_n hx hb (dq tk_L_law_0 3 rfl) rfl (lv_at hl 1 rfl) ?_
  refine lv_iload_n hx hb (dq tk_L_law_0 4 rfl) rfl (lv_at hl 2 rfl) ?_
  refine KZ_X_law hst hc hw lk_1465 hf ⟨Nat.le_of_ble_eq_true rfl, Nat.le_of_ble_eq_true rfl⟩ ⟨Nat.le_of_ble_eq_true rfl, Nat.le_of_ble_eq_true rfl⟩ hl.1 (Nat.le_of_ble_eq_true rfl) (dq tk_L_law_0 5 rfl) (fun hn ce q H locs hw hce hcv hcl => ?_) (fun r1 hr1 H locs hw => ?_)
  · refine l_catch hc htb (by intro x hx; cases hx; exact ⟨by decide, rfl, rfl⟩) (by decide) lk_1023 (va_Nw.use rfl hc.2.2.2.a9) hce hcv hcl ?_
    refine lv_astore (lv' := [(4, .ref q), (0, .ref (Z.1 + 0)), (1, .int x1), (2, .int x2), (3, .ref (Z.1 + 674))]) hx hb (dq tk_L_law_0 9 rfl) hl (by decide) rfl (fun ls hl => ?_)
    refine lv_iconst (v := 1) hx hb (dq tk_L_law_0 10 rfl) (by decide) ?_
    exact x_iret hc hw hr (dq tk_L_law_0 11 rfl)
  · cases hr1
theorem KL_law_n (hst0 : l.stackTraces = false) {cc : ByteArray} {own : String} {nL pc idx : Nat} {ls : Array Slot} {rest : List Value} {N : Nat} {x1 : Int32} {x2 : Int32} {σ' : St} (hc : Cxz p s m meth c args cc own nL Z) (hw : Wd Z (cmb σ μ) s H locs) (hl : Cond.methodLink own idx y_L_law ∈ TB) (hf : fX_law N x1 x2 σ = some (none, σ')) (hR : RO R (10 + 1)) (hcs : cells + 2 ≤ R.cells ∧ slots + 12 ≤ R.slots) (hls : ls.size = nL) (hst : (rest.map fun v => v.category).sum ≤ 8) (hdg : decode cc pc = .ok (.invokestatic idx, 3)) (kk : ∀ (H1 : Heap) (locs1 : List Loc), Wd Z (cmb σ' μ) s H1 locs1 → W p l e R s m args below meth c H1 locs1 (cells + 2) (slots + 12) Q (F0 m (pc + 3) ls (.int 1 :: rest))) : W p l e R s m args below meth c H locs cells slots Q (F0 m pc ls (.ref (Z.1 + 674) :: .int x2 :: .int x1 :: .ref (Z.1 + 0) :: rest)) :=
  l_is hc hw (cl_law_n hst0 hf) yw_L_law hl (RO.call hR (by decide)) hcs rfl hls hst hdg rfl kk
theorem cl_law_s (hst : l.stackTraces = false) {N : Nat} {x1 : Int32} {x2 : Int32} {r : Int32} {σ' : St} (hf : fX_law N x1 x2 σ = some (some r, σ')) : Clz l Z y_L_law method_15_code 5 hh_L_law { frames := 10, cells := 2, slots := 12, locals := 600 } [.ref (Z.1 + 0), .int x1, .int x2, .ref (Z.1 + 674)] (cmb σ μ) 0 (cmb (sJ σ' 164 0 0 0 r.toInt64) μ) := by
  refine l_met (by decide) (Nat.le_of_ble_eq_true rfl) (fun p e s m args below meth c ls hc htb hr hw hl => ?_)
  have hx := hc.hx
  have hb := hc.hb
  refine lv_aload_n hx hb (dq tk_L_law_0 0 rfl) rfl (lv_at hl 3 rfl) ?_
  refine lv_iconst (v := 0) hx hb (dq tk_L_law_0 1 rfl) (by decide) ?_
  refine lv_aload_n hx hb (dq tk_L_law_0 2 rfl) rfl (lv_at hl 0 rfl) ?_
  refine lv_iload_n hx hb (dq tk_L_law_0 3 rfl) rfl (lv_at hl 1 rfl) ?_
  refine lv_iload_n hx hb (dq tk_L_law_0 4 rfl) rfl (lv_at hl 2 rfl) ?_
  refine KZ_X_law hst hc hw lk_1465 hf ⟨Nat.le_of_ble_eq_true rfl, Nat.le_of_ble_eq_true rfl⟩ ⟨Nat.le_of_ble_eq_true rfl, Nat.le_of_ble_eq_true rfl⟩ hl.1 (Nat.le_of_ble_eq_true rfl) (dq tk_L_law_0 5 rfl) (fun hn ce q H locs hw hce hcv hcl => ?_) (fun r1 hr1 H locs hw => ?_)
  · cases hn
  · cases hr1
    refine lv_i2l hx hb (dq tk_L_law_0 6 rfl) rfl ?_
    refine l_last hc hw (dq tk_L_law_0 7 rfl) (fun H locs hw => ?_)
    refine lv_goto (tgt := 17) hx hb (dq tk_L_law_0 8 rfl) (by decide) ?_
    refine lv_iconst (v := 0) hx hb (dq tk_L_law_0 12 rfl) (by decide) ?_
    exact x_iret hc hw hr (dq tk_L_law_0 13 rfl)
theorem KL_law_s (hst0 : l.stackTraces = false) {cc : ByteArray} {own : String} {nL pc idx : Nat} {ls : Array Slot} {rest : List Value} {N : Nat} {x1 : Int32} {x2 : Int32} {r : Int32} {σ' : St} (hc : Cxz p s m meth c args cc own nL Z) (hw : Wd Z (cmb σ μ) s H locs) (hl : Cond.methodLink own idx y_L_law ∈ TB) (hf : fX_law N x1 x2 σ = some (some r, σ')) (hR : RO R (10 + 1)) (hcs : cells + 2 ≤ R.cells ∧ slots + 12 ≤ R.slots) (hls : ls.size = nL) (hst : (rest.map fun v => v.category).sum ≤ 8) (hdg : decode cc pc = .ok (.invokestatic idx, 3)) (kk : ∀ (H1 : Heap) (locs1 : List Loc), Wd Z (cmb (sJ σ' 164 0 0 0 r.toInt64) μ) s H1 locs1 → W p l e R s m args below meth c H1 locs1 (cells + 2) (slots + 12) Q (F0 m (pc + 3) ls (.int 0 :: rest))) : W p l e R s m args below meth c H locs cells slots Q (F0 m pc ls (.ref (Z.1 + 674) :: .int x2 :: .int x1 :: .ref (Z.1 + 0) :: rest)) :=
  l_is hc hw (cl_law_s hst0 hf) yw_L_law hl (RO.call hR (by decide)) hcs rfl hls hst hdg rfl kk
theorem cl_paid_n (hst : l.stackTraces = false) {N : Nat} {x1 : Int32} {x2 : Int32} {σ' : St} (hf : fX_paid N x1 x2 σ = some (none, σ')) : Clz l Z y_L_paid method_16_code 5 hh_L_paid { frames := 10, cells := 2, slots := 12, locals := 600 } [.ref (Z.1 + 0), .int x1, .int x2, .ref (Z.1 + 674)] (cmb σ μ) 1 (cmb σ' μ) := by
  refine l_met (by decide) (Nat.le_of_ble_eq_true rfl) (fun p e s m args below meth c ls hc htb hr hw hl => ?_)
  have hx := hc.hx
  have hb := hc.hb
  refine lv_aload_n hx hb (dq tk_L_paid_0 0 rfl) rfl (lv_at hl 3 rfl) ?_
  refine lv_iconst (v := 0) hx hb (dq tk_L_paid_0 1 rfl) (by decide) ?_
  refine lv_aload_n hx hb (dq tk_L_paid_0 2 rfl) rfl (lv_at hl 0 rfl) ?_
  refine lv_iload_n hx hb (dq tk_L_paid_0 3 rfl) rfl (lv_at hl 1 rfl) ?_
  refine lv_iload_n hx hb (dq tk_L_paid_0 4 rfl) rfl (lv_at hl 2 rfl) ?_
  refine KZ_X_paid hst hc hw lk_1473 hf ⟨Nat.le_of_ble_eq_true rfl, Nat.le_of_ble_eq_true rfl⟩ ⟨Nat.le_of_ble_eq_true rfl, Nat.le_of_ble_eq_true rfl⟩ hl.1 (Nat.le_of_ble_eq_true rfl) (dq tk_L_paid_0 5 rfl) (fun hn ce q H locs hw hce hcv hcl => ?_) (fun r1 hr1 H locs hw => ?_)
  · refine l_catch hc htb (by intro x hx; cases hx; exact ⟨by decide, rfl, rfl⟩) (by decide) lk_1023 (va_Nw.use rfl hc.2.2.2.a9) hce hcv hcl ?_
    refine lv_astore (lv' := [(4, .ref q), (0, .ref (Z.1 + 0)), (1, .int x1), (2, .int x2), (3, .ref (Z.1 + 674))]) hx hb (dq tk_L_paid_0 9 rfl) hl (by decide) rfl (fun ls hl => ?_)
    refine lv_iconst (v := 1) hx hb (dq tk_L_paid_0 10 rfl) (by decide) ?_
    exact x_iret hc hw hr (dq tk_L_paid_0 11 rfl)
  · cases hr1
theorem KL_paid_n (hst0 : l.stackTraces = false) {cc : ByteArray} {own : String} {nL pc idx : Nat} {ls : Array Slot} {rest : List Value} {N : Nat} {x1 : Int32} {x2 : Int32} {σ' : St} (hc : Cxz p s m meth c args cc own nL Z) (hw : Wd Z (cmb σ μ) s H locs) (hl : Cond.methodLink own idx y_L_paid ∈ TB) (hf : fX_paid N x1 x2 σ = some (none, σ')) (hR : RO R (10 + 1)) (hcs : cells + 2 ≤ R.cells ∧ slots + 12 ≤ R.slots) (hls : ls.size = nL) (hst : (rest.map fun v => v.category).sum ≤ 8) (hdg : decode cc pc = .ok (.invokestatic idx, 3)) (kk : ∀ (H1 : Heap) (locs1 : List Loc), Wd Z (cmb σ' μ) s H1 locs1 → W p l e R s m args below meth c H1 locs1 (cells + 2) (slots + 12) Q (F0 m (pc + 3) ls (.int 1 :: rest))) : W p l e R s m args below meth c H locs cells slots Q (F0 m pc ls (.ref (Z.1 + 674) :: .int x2 :: .int x1 :: .ref (Z.1 + 0) :: rest)) :=
  l_is hc hw (cl_paid_n hst0 hf) yw_L_paid hl (RO.call hR (by decide)) hcs rfl hls hst hdg rfl kk
theorem cl_paid_s (hst : l.stackTraces = false) {N : Nat} {x1 : Int32} {x2 : Int32} {r : Int32} {σ' : St} (hf : fX_paid N x1 x2 σ = some (some r, σ')) : Clz l Z y_L_paid method_16_code 5 hh_L_paid { frames := 10, cells := 2, slots := 12, locals := 600 } [.ref (Z.1 + 0), .int x1, .int x2, .ref (Z.1 + 674)] (cmb σ μ) 0 (cmb (sJ σ' 164 0 0 0 r.toInt64) μ) := by
  refine l_met (by decide) (Nat.le_of_ble_eq_true rfl) (fun p e s m args below meth c ls hc htb hr hw hl => ?_)
  have hx := hc.hx
  have hb := hc.hb
  refine lv_aload_n hx hb (dq tk_L_paid_0 0 rfl) rfl (lv_at hl 3 rfl) ?_
  refine lv_iconst (v := 0) hx hb (dq tk_L_paid_0 1 rfl) (by decide) ?_
  refine lv_aload_n hx hb (dq tk_L_paid_0 2 rfl) rfl (lv_at hl 0 rfl) ?_
  refine lv_iload_n hx hb (dq tk_L_paid_0 3 rfl) rfl (lv_at hl 1 rfl) ?_
  refine lv_iload_n hx hb (dq tk_L_paid_0 4 rfl) rfl (lv_at hl 2 rfl) ?_
  refine KZ_X_paid hst hc hw lk_1473 hf ⟨Nat.le_of_ble_eq_true rfl, Nat.le_of_ble_eq_true rfl⟩ ⟨Nat.le_of_ble_eq_true rfl, Nat.le_of_ble_eq_true rfl⟩ hl.1 (Nat.le_of_ble_eq_true rfl) (dq tk_L_paid_0 5 rfl) (fun hn ce q H locs hw hce hcv hcl => ?_) (fun r1 hr1 H locs hw => ?_)
  · cases hn
  · cases hr1
    refine lv_i2l hx hb (dq tk_L_paid_0 6 rfl) rfl ?_
    refine l_last hc hw (dq tk_L_paid_0 7 rfl) (fun H locs hw => ?_)
    refine lv_goto (tgt := 17) hx hb (dq tk_L_paid_0 8 rfl) (by decide) ?_
    refine lv_iconst (v := 0) hx hb (dq tk_L_paid_0 12 rfl) (by decide) ?_
    exact x_iret hc hw hr (dq tk_L_paid_0 13 rfl)
theorem KL_paid_s (hst0 : l.stackTraces = false) {cc : ByteArray} {own : String} {nL pc idx : Nat} {ls : Array Slot} {rest : List Value} {N : Nat} {x1 : Int32} {x2 : Int32} {r : Int32} {σ' : St} (hc : Cxz p s m meth c args cc own nL Z) (hw : Wd Z (cmb σ μ) s H locs) (hl : Cond.methodLink own idx y_L_paid ∈ TB) (hf : fX_paid N x1 x2 σ = some (some r, σ')) (hR : RO R (10 + 1)) (hcs : cells + 2 ≤ R.cells ∧ slots + 12 ≤ R.slots) (hls : ls.size = nL) (hst : (rest.map fun v => v.category).sum ≤ 8) (hdg : decode cc pc = .ok (.invokestatic idx, 3)) (kk : ∀ (H1 : Heap) (locs1 : List Loc), Wd Z (cmb (sJ σ' 164 0 0 0 r.toInt64) μ) s H1 locs1 → W p l e R s m args below meth c H1 locs1 (cells + 2) (slots + 12) Q (F0 m (pc + 3) ls (.int 0 :: rest))) : W p l e R s m args below meth c H locs cells slots Q (F0 m pc ls (.ref (Z.1 + 674) :: .int x2 :: .int x1 :: .ref (Z.1 + 0) :: rest)) :=
  l_is hc hw (cl_paid_s hst0 hf) yw_L_paid hl (RO.call hR (by decide)) hcs rfl hls hst hdg rfl kk
theorem cl_fund_n (hst : l.stackTraces = false) {N : Nat} {x1 : Int32} (hf : fX_fund N x1 σ = some none) : Clz l Z y_L_fund method_17_code 4 hh_L_fund { frames := 7, cells := 1, slots := 6, locals := 420 } [.ref (Z.1 + 0), .int x1, .ref (Z.1 + 674)] (cmb σ μ) 1 (cmb σ μ) := by
  refine l_met (by decide) (Nat.le_of_ble_eq_true rfl) (fun p e s m args below meth c ls hc htb hr hw hl => ?_)
  have hx := hc.hx
  have hb := hc.hb
  refine lv_aload_n hx hb (dq tk_L_fund_0 0 rfl) rfl (lv_at hl 2 rfl) ?_
  refine lv_iconst (v := 0) hx hb (dq tk_L_fund_0 1 rfl) (by decide) ?_
  refine lv_aload_n hx hb (dq tk_L_fund_0 2 rfl) rfl (lv_at hl 0 rfl) ?_
  refine lv_iload_n hx hb (dq tk_L_fund_0 3 rfl) rfl (lv_at hl 1 rfl) ?_
  refine KZ_X_fund hst hc hw lk_1480 hf ⟨Nat.le_of_ble_eq_true rfl, Nat.le_of_ble_eq_true rfl⟩ ⟨Nat.le_of_ble_eq_true rfl, Nat.le_of_ble_eq_true rfl⟩ hl.1 (Nat.le_of_ble_eq_true rfl) (dq tk_L_fund_0 4 rfl) (fun hn ce q H locs hw hce hcv hcl => ?_) (fun r1 hr1 H locs hw => ?_)
  · refine l_catch hc htb (by intro x hx; cases hx; exact ⟨by decide, rfl, rfl⟩) (by decide) lk_1023 (va_Nw.use rfl hc.2.2.2.a9) hce hcv hcl ?_
    refine lv_astore_n (lv' := [(3, .ref q), (0, .ref (Z.1 + 0)), (1, .int x1), (2, .ref (Z.1 + 674))]) hx hb (dq tk_L_fund_0 8 rfl) rfl hl (by decide) rfl (fun ls hl => ?_)
    refine lv_iconst (v := 1) hx hb (dq tk_L_fund_0 9 rfl) (by decide) ?_
    exact x_iret hc hw hr (dq tk_L_fund_0 10 rfl)
  · cases hr1
theorem KL_fund_n (hst0 : l.stackTraces = false) {cc : ByteArray} {own : String} {nL pc idx : Nat} {ls : Array Slot} {rest : List Value} {N : Nat} {x1 : Int32} (hc : Cxz p s m meth c args cc own nL Z) (hw : Wd Z (cmb σ μ) s H locs) (hl : Cond.methodLink own idx y_L_fund ∈ TB) (hf : fX_fund N x1 σ = some none) (hR : RO R (7 + 1)) (hcs : cells + 1 ≤ R.cells ∧ slots + 6 ≤ R.slots) (hls : ls.size = nL) (hst : (rest.map fun v => v.category).sum ≤ 8) (hdg : decode cc pc = .ok (.invokestatic idx, 3)) (kk : ∀ (H1 : Heap) (locs1 : List Loc), Wd Z (cmb σ μ) s H1 locs1 → W p l e R s m args below meth c H1 locs1 (cells + 1) (slots + 6) Q (F0 m (pc + 3) ls (.int 1 :: rest))) : W p l e R s m args below meth c H locs cells slots Q (F0 m pc ls (.ref (Z.1 + 674) :: .int x1 :: .ref (Z.1 + 0) :: rest)) :=
  l_is hc hw (cl_fund_n hst0 hf) yw_L_fund hl (RO.call hR (by decide)) hcs rfl hls hst hdg rfl kk
theorem cl_fund_s (hst : l.stackTraces = false) {N : Nat} {x1 : Int32} {r : Int32} (hf : fX_fund N x1 σ = some (some r)) : Clz l Z y_L_fund method_17_code 4 hh_L_fund { frames := 7, cells := 1, slots := 6, locals := 420 } [.ref (Z.1 + 0), .int x1, .ref (Z.1 + 674)] (cmb σ μ) 0 (cmb (sJ σ 164 0 0 0 r.toInt64) μ) := by
  refine l_met (by decide) (Nat.le_of_ble_eq_true rfl) (fun p e s m args below meth c ls hc htb hr hw hl => ?_)
  have hx := hc.hx
  have hb := hc.hb
  refine lv_aload_n hx hb (dq tk_L_fund_0 0 rfl) rfl (lv_at hl 2 rfl) ?_
  refine lv_iconst (v := 0) hx hb (dq tk_L_fund_0 1 rfl) (by decide) ?_
  refine lv_aload_n hx hb (dq tk_L_fund_0 2 rfl) rfl (lv_at hl 0 rfl) ?_
  refine lv_iload_n hx hb (dq tk_L_fund_0 3 rfl) rfl (lv_at hl 1 rfl) ?_
  refine KZ_X_fund hst hc hw lk_1480 hf ⟨Nat.le_of_ble_eq_true rfl, Nat.le_of_ble_eq_true rfl⟩ ⟨Nat.le_of_ble_eq_true rfl, Nat.le_of_ble_eq_true rfl⟩ hl.1 (Nat.le_of_ble_eq_true rfl) (dq tk_L_fund_0 4 rfl) (fun hn ce q H locs hw hce hcv hcl => ?_) (fun r1 hr1 H locs hw => ?_)
  · cases hn
  · cases hr1
    refine lv_i2l hx hb (dq tk_L_fund_0 5 rfl) rfl ?_
    refine l_last hc hw (dq tk_L_fund_0 6 rfl) (fun H locs hw => ?_)
    refine lv_goto (tgt := 15) hx hb (dq tk_L_fund_0 7 rfl) (by decide) ?_
    refine lv_iconst (v := 0) hx hb (dq tk_L_fund_0 11 rfl) (by decide) ?_
    exact x_iret hc hw hr (dq tk_L_fund_0 12 rfl)
theorem KL_fund_s (hst0 : l.stackTraces = false) {cc : ByteArray} {own : String} {nL pc idx : Nat} {ls : Array Slot} {rest : List Value} {N : Nat} {x1 : Int32} {r : Int32} (hc : Cxz p s m meth c args cc own nL Z) (hw : Wd Z (cmb σ μ) s H locs) (hl : Cond.methodLink own idx y_L_fund ∈ TB) (hf : fX_fund N x1 σ = some (some r)) (hR : RO R (7 + 1)) (hcs : cells + 1 ≤ R.cells ∧ slots + 6 ≤ R.slots) (hls : ls.size = nL) (hst : (rest.map fun v => v.category).sum ≤ 8) (hdg : decode cc pc = .ok (.invokestatic idx, 3)) (kk : ∀ (H1 : Heap) (locs1 : List Loc), Wd Z (cmb (sJ σ 164 0 0 0 r.toInt64) μ) s H1 locs1 → W p l e R s m args below meth c H1 locs1 (cells + 1) (slots + 6) Q (F0 m (pc + 3) ls (.int 0 :: rest))) : W p l e R s m args below meth c H locs cells slots Q (F0 m pc ls (.ref (Z.1 + 674) :: .int x1 :: .ref (Z.1 + 0) :: rest)) :=
  l_is hc hw (cl_fund_s hst0 hf) yw_L_fund hl (RO.call hR (by decide)) hcs rfl hls hst hdg rfl kk
theorem cl_known_n (hst : l.stackTraces = false) {N : Nat} {x1 : Int32} {x2 : Int32} (hf : fX_known N x1 x2 σ = some none) : Clz l Z y_L_known method_18_code 5 hh_L_known { frames := 8, cells := 2, slots := 12, locals := 480 } [.ref (Z.1 + 0), .int x1, .int x2, .ref (Z.1 + 674)] (cmb σ μ) 1 (cmb σ μ) := by
  refine l_met (by decide) (Nat.le_of_ble_eq_true rfl) (fun p e s m args below meth c ls hc htb hr hw hl => ?_)
  have hx := hc.hx
  have hb := hc.hb
  refine lv_aload_n hx hb (dq tk_L_known_0 0 rfl) rfl (lv_at hl 3 rfl) ?_
  refine lv_iconst (v := 0) hx hb (dq tk_L_known_0 1 rfl) (by decide) ?_
  refine lv_aload_n hx hb (dq tk_L_known_0 2 rfl) rfl (lv_at hl 0 rfl) ?_
  refine lv_iload_n hx hb (dq tk_L_known_0 3 rfl) rfl (lv_at hl 1 rfl) ?_
  refine lv_iload_n hx hb (dq tk_L_known_0 4 rfl) rfl (lv_at hl 2 rfl) ?_
  refine KZ_X_known hst hc hw lk_1495 hf ⟨Nat.le_of_ble_eq_true rfl, Nat.le_of_ble_eq_true rfl⟩ ⟨Nat.le_of_ble_eq_true rfl, Nat.le_of_ble_eq_true rfl⟩ hl.1 (Nat.le_of_ble_eq_true rfl) (dq tk_L_known_0 5 rfl) (fun hn ce q H locs hw hce hcv hcl => ?_) (fun r1 hr1 H locs hw => ?_)
  · refine l_catch hc htb (by intro x hx; cases hx; exact ⟨by decide, rfl, rfl⟩) (by decide) lk_1023 (va_Nw.use rfl hc.2.2.2.a9) hce hcv hcl ?_
    refine lv_astore (lv' := [(4, .ref q), (0, .ref (Z.1 + 0)), (1, .int x1), (2, .int x2), (3, .ref (Z.1 + 674))]) hx hb (dq tk_L_known_0 9 rfl) hl (by decide) rfl (fun ls hl => ?_)
    refine lv_iconst (v := 1) hx hb (dq tk_L_known_0 10 rfl) (by decide) ?_
    exact x_iret hc hw hr (dq tk_L_known_0 11 rfl)
  · cases hr1
theorem KL_known_n (hst0 : l.stackTraces = false) {cc : ByteArray} {own : String} {nL pc idx : Nat} {ls : Array Slot} {rest : List Value} {N : Nat} {x1 : Int32} {x2 : Int32} (hc : Cxz p s m meth c args cc own nL Z) (hw : Wd Z (cmb σ μ) s H locs) (hl : Cond.methodLink own idx y_L_known ∈ TB) (hf : fX_known N x1 x2 σ = some none) (hR : RO R (8 + 1)) (hcs : cells + 2 ≤ R.cells ∧ slots + 12 ≤ R.slots) (hls : ls.size = nL) (hst : (rest.map fun v => v.category).sum ≤ 8) (hdg : decode cc pc = .ok (.invokestatic idx, 3)) (kk : ∀ (H1 : Heap) (locs1 : List Loc), Wd Z (cmb σ μ) s H1 locs1 → W p l e R s m args below meth c H1 locs1 (cells + 2) (slots + 12) Q (F0 m (pc + 3) ls (.int 1 :: rest))) : W p l e R s m args below meth c H locs cells slots Q (F0 m pc ls (.ref (Z.1 + 674) :: .int x2 :: .int x1 :: .ref (Z.1 + 0) :: rest)) :=
  l_is hc hw (cl_known_n hst0 hf) yw_L_known hl (RO.call hR (by decide)) hcs rfl hls hst hdg rfl kk
theorem cl_known_s (hst : l.stackTraces = false) {N : Nat} {x1 : Int32} {x2 : Int32} {r : Int32} (hf : fX_known N x1 x2 σ = some (some r)) : Clz l Z y_L_known method_18_code 5 hh_L_known { frames := 8, cells := 2, slots := 12, locals := 480 } [.ref (Z.1 + 0), .int x1, .int x2, .ref (Z.1 + 674)] (cmb σ μ) 0 (cmb (sJ σ 164 0 0 0 r.toInt64) μ) := by
  refine l_met (by decide) (Nat.le_of_ble_eq_true rfl) (fun p e s m args below meth c ls hc htb hr hw hl => ?_)
  have hx := hc.hx
  have hb := hc.hb
  refine lv_aload_n hx hb (dq tk_L_known_0 0 rfl) rfl (lv_at hl 3 rfl) ?_
  refine lv_iconst (v := 0) hx hb (dq tk_L_known_0 1 rfl) (by decide) ?_
  refine lv_aload_n hx hb (dq tk_L_known_0 2 rfl) rfl (lv_at hl 0 rfl) ?_
  refine lv_iload_n hx hb (dq tk_L_known_0 3 rfl) rfl (lv_at hl 1 rfl) ?_
  refine lv_iload_n hx hb (dq tk_L_known_0 4 rfl) rfl (lv_at hl 2 rfl) ?_
  refine KZ_X_known hst hc hw lk_1495 hf ⟨Nat.le_of_ble_eq_true rfl, Nat.le_of_ble_eq_true rfl⟩ ⟨Nat.le_of_ble_eq_true rfl, Nat.le_of_ble_eq_true rfl⟩ hl.1 (Nat.le_of_ble_eq_true rfl) (dq tk_L_known_0 5 rfl) (fun hn ce q H locs hw hce hcv hcl => ?_) (fun r1 hr1 H locs hw => ?_)
  · cases hn
  · cases hr1
    refine lv_i2l hx hb (dq tk_L_known_0 6 rfl) rfl ?_
    refine l_last hc hw (dq tk_L_known_0 7 rfl) (fun H locs hw => ?_)
    refine lv_goto (tgt := 17) hx hb (dq tk_L_known_0 8 rfl) (by decide) ?_
    refine lv_iconst (v := 0) hx hb (dq tk_L_known_0 12 rfl) (by decide) ?_
    exact x_iret hc hw hr (dq tk_L_known_0 13 rfl)
theorem KL_known_s (hst0 : l.stackTraces = false) {cc : ByteArray} {own : String} {nL pc idx : Nat} {ls : Array Slot} {rest : List Value} {N : Nat} {x1 : Int32} {x2 : Int32} {r : Int32} (hc : Cxz p s m meth c args cc own nL Z) (hw : Wd Z (cmb σ μ) s H locs) (hl : Cond.methodLink own idx y_L_known ∈ TB) (hf : fX_known N x1 x2 σ = some (some r)) (hR : RO R (8 + 1)) (hcs : cells + 2 ≤ R.cells ∧ slots + 12 ≤ R.slots) (hls : ls.size = nL) (hst : (rest.map fun v => v.category).sum ≤ 8) (hdg : decode cc pc = .ok (.invokestatic idx, 3)) (kk : ∀ (H1 : Heap) (locs1 : List Loc), Wd Z (cmb (sJ σ 164 0 0 0 r.toInt64) μ) s H1 locs1 → W p l e R s m args below meth c H1 locs1 (cells + 2) (slots + 12) Q (F0 m (pc + 3) ls (.int 0 :: rest))) : W p l e R s m args below meth c H locs cells slots Q (F0 m pc ls (.ref (Z.1 + 674) :: .int x2 :: .int x1 :: .ref (Z.1 + 0) :: rest)) :=
  l_is hc hw (cl_known_s hst0 hf) yw_L_known hl (RO.call hR (by decide)) hcs rfl hls hst hdg rfl kk
theorem cl_offer_n (hst : l.stackTraces = false) {N : Nat} {x1 : Int32} {x2 : Int32} {σ' : St} (hf : fX_offer N x1 x2 σ = some (none, σ')) : Clz l Z y_L_offer method_19_code 5 hh_L_offer { frames := 9, cells := 2, slots := 12, locals := 540 } [.ref (Z.1 + 0), .int x1, .int x2, .ref (Z.1 + 674)] (cmb σ μ) 1 (cmb σ' μ) := by
  refine l_met (by decide) (Nat.le_of_ble_eq_true rfl) (fun p e s m args below meth c ls hc htb hr hw hl => ?_)
  have hx := hc.hx
  have hb := hc.hb
  refine lv_aload_n hx hb (dq tk_L_offer_0 0 rfl) rfl (lv_at hl 3 rfl) ?_
  refine lv_iconst (v := 0) hx hb (dq tk_L_offer_0 1 rfl) (by decide) ?_
  refine lv_aload_n hx hb (dq tk_L_offer_0 2 rfl) rfl (lv_at hl 0 rfl) ?_
  refine lv_iload_n hx hb (dq tk_L_offer_0 3 rfl) rfl (lv_at hl 1 rfl) ?_
  refine lv_iload_n hx hb (dq tk_L_offer_0 4 rfl) rfl (lv_at hl 2 rfl) ?_
  refine KZ_X_offer hst hc hw lk_1503 hf ⟨Nat.le_of_ble_eq_true rfl, Nat.le_of_ble_eq_true rfl⟩ ⟨Nat.le_of_ble_eq_true rfl, Nat.le_of_ble_eq_true rfl⟩ hl.1 (Nat.le_of_ble_eq_true rfl) (dq tk_L_offer_0 5 rfl) (fun hn ce q H locs hw hce hcv hcl => ?_) (fun r1 hr1 H locs hw => ?_)
  · refine l_catch hc htb (by intro x hx; cases hx; exact ⟨by decide, rfl, rfl⟩) (by decide) lk_1023 (va_Nw.use rfl hc.2.2.2.a9) hce hcv hcl ?_
    refine lv_astore (lv' := [(4, .ref q), (0, .ref (Z.1 + 0)), (1, .int x1), (2, .int x2), (3, .ref (Z.1 + 674))]) hx hb (dq tk_L_offer_0 9 rfl) hl (by decide) rfl (fun ls hl => ?_)
    refine lv_iconst (v := 1) hx hb (dq tk_L_offer_0 10 rfl) (by decide) ?_
    exact x_iret hc hw hr (dq tk_L_offer_0 11 rfl)
  · cases hr1
theorem KL_offer_n (hst0 : l.stackTraces = false) {cc : ByteArray} {own : String} {nL pc idx : Nat} {ls : Array Slot} {rest : List Value} {N : Nat} {x1 : Int32} {x2 : Int32} {σ' : St} (hc : Cxz p s m meth c args cc own nL Z) (hw : Wd Z (cmb σ μ) s H locs) (hl : Cond.methodLink own idx y_L_offer ∈ TB) (hf : fX_offer N x1 x2 σ = some (none, σ')) (hR : RO R (9 + 1)) (hcs : cells + 2 ≤ R.cells ∧ slots + 12 ≤ R.slots) (hls : ls.size = nL) (hst : (rest.map fun v => v.category).sum ≤ 8) (hdg : decode cc pc = .ok (.invokestatic idx, 3)) (kk : ∀ (H1 : Heap) (locs1 : List Loc), Wd Z (cmb σ' μ) s H1 locs1 → W p l e R s m args below meth c H1 locs1 (cells + 2) (slots + 12) Q (F0 m (pc + 3) ls (.int 1 :: rest))) : W p l e R s m args below meth c H locs cells slots Q (F0 m pc ls (.ref (Z.1 + 674) :: .int x2 :: .int x1 :: .ref (Z.1 + 0) :: rest)) :=
  l_is hc hw (cl_offer_n hst0 hf) yw_L_offer hl (RO.call hR (by decide)) hcs rfl hls hst hdg rfl kk
theorem cl_offer_s (hst : l.stackTraces = false) {N : Nat} {x1 : Int32} {x2 : Int32} {r : Int32} {σ' : St} (hf : fX_offer N x1 x2 σ = some (some r, σ')) : Clz l Z y_L_offer method_19_code 5 hh_L_offer { frames := 9, cells := 2, slots := 12, locals := 540 } [.ref (Z.1 + 0), .int x1, .int x2, .ref (Z.1 + 674)] (cmb σ μ) 0 (cmb (sJ σ' 164 0 0 0 r.toInt64) μ) := by
  refine l_met (by decide) (Nat.le_of_ble_eq_true rfl) (fun p e s m args below meth c ls hc htb hr hw hl => ?_)
  have hx := hc.hx
  have hb := hc.hb
  refine lv_aload_n hx hb (dq tk_L_offer_0 0 rfl) rfl (lv_at hl 3 rfl) ?_
  refine lv_iconst (v := 0) hx hb (dq tk_L_offer_0 1 rfl) (by decide) ?_
  refine lv_aload_n hx hb (dq tk_L_offer_0 2 rfl) rfl (lv_at hl 0 rfl) ?_
  refine lv_iload_n hx hb (dq tk_L_offer_0 3 rfl) rfl (lv_at hl 1 rfl) ?_
  refine lv_iload_n hx hb (dq tk_L_offer_0 4 rfl) rfl (lv_at hl 2 rfl) ?_
  refine KZ_X_offer hst hc hw lk_1503 hf ⟨Nat.le_of_ble_eq_true rfl, Nat.le_of_ble_eq_true rfl⟩ ⟨Nat.le_of_ble_eq_true rfl, Nat.le_of_ble_eq_true rfl⟩ hl.1 (Nat.le_of_ble_eq_true rfl) (dq tk_L_offer_0 5 rfl) (fun hn ce q H locs hw hce hcv hcl => ?_) (fun r1 hr1 H locs hw => ?_)
  · cases hn
  · cases hr1
    refine lv_i2l hx hb (dq tk_L_offer_0 6 rfl) rfl ?_
    refine l_last hc hw (dq tk_L_offer_0 7 rfl) (fun H locs hw => ?_)
    refine lv_goto (tgt := 17) hx hb (dq tk_L_offer_0 8 rfl) (by decide) ?_
    refine lv_iconst (v := 0) hx hb (dq tk_L_offer_0 12 rfl) (by decide) ?_
    exact x_iret hc hw hr (dq tk_L_offer_0 13 rfl)
theorem KL_offer_s (hst0 : l.stackTraces = false) {cc : ByteArray} {own : String} {nL pc idx : Nat} {ls : Array Slot} {rest : List Value} {N : Nat} {x1 : Int32} {x2 : Int32} {r : Int32} {σ' : St} (hc : Cxz p s m meth c args cc own nL Z) (hw : Wd Z (cmb σ μ) s H locs) (hl : Cond.methodLink own idx y_L_offer ∈ TB) (hf : fX_offer N x1 x2 σ = some (some r, σ')) (hR : RO R (9 + 1)) (hcs : cells + 2 ≤ R.cells ∧ slots + 12 ≤ R.slots) (hls : ls.size = nL) (hst : (rest.map fun v => v.category).sum ≤ 8) (hdg : decode cc pc = .ok (.invokestatic idx, 3)) (kk : ∀ (H1 : Heap) (locs1 : List Loc), Wd Z (cmb (sJ σ' 164 0 0 0 r.toInt64) μ) s H1 locs1 → W p l e R s m args below meth c H1 locs1 (cells + 2) (slots + 12) Q (F0 m (pc + 3) ls (.int 0 :: rest))) : W p l e R s m args below meth c H locs cells slots Q (F0 m pc ls (.ref (Z.1 + 674) :: .int x2 :: .int x1 :: .ref (Z.1 + 0) :: rest)) :=
  l_is hc hw (cl_offer_s hst0 hf) yw_L_offer hl (RO.call hR (by decide)) hcs rfl hls hst hdg rfl kk
theorem cl_offerOf_n (hst : l.stackTraces = false) {N : Nat} {x1 : Int32} {x2 : Int32} (hf : fX_offerOf N x1 x2 σ = some none) : Clz l Z y_L_offerOf method_20_code 5 hh_L_offerOf { frames := 8, cells := 2, slots := 12, locals := 480 } [.ref (Z.1 + 0), .int x1, .int x2, .ref (Z.1 + 674)] (cmb σ μ) 1 (cmb σ μ) := by
  refine l_met (by decide) (Nat.le_of_ble_eq_true rfl) (fun p e s m args below meth c ls hc htb hr hw hl => ?_)
  have hx := hc.hx
  have hb := hc.hb
  refine lv_aload_n hx hb (dq tk_L_offerOf_0 0 rfl) rfl (lv_at hl 3 rfl) ?_
  refine lv_iconst (v := 0) hx hb (dq tk_L_offerOf_0 1 rfl) (by decide) ?_
  refine lv_aload_n hx hb (dq tk_L_offerOf_0 2 rfl) rfl (lv_at hl 0 rfl) ?_
  refine lv_iload_n hx hb (dq tk_L_offerOf_0 3 rfl) rfl (lv_at hl 1 rfl) ?_
  refine lv_iload_n hx hb (dq tk_L_offerOf_0 4 rfl) rfl (lv_at hl 2 rfl) ?_
  refine KZ_X_offerOf hst hc hw lk_1515 hf ⟨Nat.le_of_ble_eq_true rfl, Nat.le_of_ble_eq_true rfl⟩ ⟨Nat.le_of_ble_eq_true rfl, Nat.le_of_ble_eq_true rfl⟩ hl.1 (Nat.le_of_ble_eq_true rfl) (dq tk_L_offerOf_0 5 rfl) (fun hn ce q H locs hw hce hcv hcl => ?_) (fun r1 hr1 H locs hw => ?_)
  · refine l_catch hc htb (by intro x hx; cases hx; exact ⟨by decide, rfl, rfl⟩) (by decide) lk_1023 (va_Nw.use rfl hc.2.2.2.a9) hce hcv hcl ?_
    refine lv_astore (lv' := [(4, .ref q), (0, .ref (Z.1 + 0)), (1, .int x1), (2, .int x2), (3, .ref (Z.1 + 674))]) hx hb (dq tk_L_offerOf_0 9 rfl) hl (by decide) rfl (fun ls hl => ?_)
    refine lv_iconst (v := 1) hx hb (dq tk_L_offerOf_0 10 rfl) (by decide) ?_
    exact x_iret hc hw hr (dq tk_L_offerOf_0 11 rfl)
  · cases hr1
theorem KL_offerOf_n (hst0 : l.stackTraces = false) {cc : ByteArray} {own : String} {nL pc idx : Nat} {ls : Array Slot} {rest : List Value} {N : Nat} {x1 : Int32} {x2 : Int32} (hc : Cxz p s m meth c args cc own nL Z) (hw : Wd Z (cmb σ μ) s H locs) (hl : Cond.methodLink own idx y_L_offerOf ∈ TB) (hf : fX_offerOf N x1 x2 σ = some none) (hR : RO R (8 + 1)) (hcs : cells + 2 ≤ R.cells ∧ slots + 12 ≤ R.slots) (hls : ls.size = nL) (hst : (rest.map fun v => v.category).sum ≤ 8) (hdg : decode cc pc = .ok (.invokestatic idx, 3)) (kk : ∀ (H1 : Heap) (locs1 : List Loc), Wd Z (cmb σ μ) s H1 locs1 → W p l e R s m args below meth c H1 locs1 (cells + 2) (slots + 12) Q (F0 m (pc + 3) ls (.int 1 :: rest))) : W p l e R s m args below meth c H locs cells slots Q (F0 m pc ls (.ref (Z.1 + 674) :: .int x2 :: .int x1 :: .ref (Z.1 + 0) :: rest)) :=
  l_is hc hw (cl_offerOf_n hst0 hf) yw_L_offerOf hl (RO.call hR (by decide)) hcs rfl hls hst hdg rfl kk
theorem cl_offerOf_s (hst : l.stackTraces = false) {N : Nat} {x1 : Int32} {x2 : Int32} {r : Int32} (hf : fX_offerOf N x1 x2 σ = some (some r)) : Clz l Z y_L_offerOf method_20_code 5 hh_L_offerOf { frames := 8, cells := 2, slots := 12, locals := 480 } [.ref (Z.1 + 0), .int x1, .int x2, .ref (Z.1 + 674)] (cmb σ μ) 0 (cmb (sJ σ 164 0 0 0 r.toInt64) μ) := by
  refine l_met (by decide) (Nat.le_of_ble_eq_true rfl) (fun p e s m args below meth c ls hc htb hr hw hl => ?_)
  have hx := hc.hx
  have hb := hc.hb
  refine lv_aload_n hx hb (dq tk_L_offerOf_0 0 rfl) rfl (lv_at hl 3 rfl) ?_
  refine lv_iconst (v := 0) hx hb (dq tk_L_offerOf_0 1 rfl) (by decide) ?_
  refine lv_aload_n hx hb (dq tk_L_offerOf_0 2 rfl) rfl (lv_at hl 0 rfl) ?_
  refine lv_iload_n hx hb (dq tk_L_offerOf_0 3 rfl) rfl (lv_at hl 1 rfl) ?_
  refine lv_iload_n hx hb (dq tk_L_offerOf_0 4 rfl) rfl (lv_at hl 2 rfl) ?_
  refine KZ_X_offerOf hst hc hw lk_1515 hf ⟨Nat.le_of_ble_eq_true rfl, Nat.le_of_ble_eq_true rfl⟩ ⟨Nat.le_of_ble_eq_true rfl, Nat.le_of_ble_eq_true rfl⟩ hl.1 (Nat.le_of_ble_eq_true rfl) (dq tk_L_offerOf_0 5 rfl) (fun hn ce q H locs hw hce hcv hcl => ?_) (fun r1 hr1 H locs hw => ?_)
  · cases hn
  · cases hr1
    refine lv_i2l hx hb (dq tk_L_offerOf_0 6 rfl) rfl ?_
    refine l_last hc hw (dq tk_L_offerOf_0 7 rfl) (fun H locs hw => ?_)
    refine lv_goto (tgt := 17) hx hb (dq tk_L_offerOf_0 8 rfl) (by decide) ?_
    refine lv_iconst (v := 0) hx hb (dq tk_L_offerOf_0 12 rfl) (by decide) ?_
    exact x_iret hc hw hr (dq tk_L_offerOf_0 13 rfl)
theorem KL_offerOf_s (hst0 : l.stackTraces = false) {cc : ByteArray} {own : String} {nL pc idx : Nat} {ls : Array Slot} {rest : List Value} {N : Nat} {x1 : Int32} {x2 : Int32} {r : Int32} (hc : Cxz p s m meth c args cc own nL Z) (hw : Wd Z (cmb σ μ) s H locs) (hl : Cond.methodLink own idx y_L_offerOf ∈ TB) (hf : fX_offerOf N x1 x2 σ = some (some r)) (hR : RO R (8 + 1)) (hcs : cells + 2 ≤ R.cells ∧ slots + 12 ≤ R.slots) (hls : ls.size = nL) (hst : (rest.map fun v => v.category).sum ≤ 8) (hdg : decode cc pc = .ok (.invokestatic idx, 3)) (kk : ∀ (H1 : Heap) (locs1 : List Loc), Wd Z (cmb (sJ σ 164 0 0 0 r.toInt64) μ) s H1 locs1 → W p l e R s m args below meth c H1 locs1 (cells + 2) (slots + 12) Q (F0 m (pc + 3) ls (.int 0 :: rest))) : W p l e R s m args below meth c H locs cells slots Q (F0 m pc ls (.ref (Z.1 + 674) :: .int x2 :: .int x1 :: .ref (Z.1 + 0) :: rest)) :=
  l_is hc hw (cl_offerOf_s hst0 hf) yw_L_offerOf hl (RO.call hR (by decide)) hcs rfl hls hst hdg rfl kk
theorem cl_answer_n (hst : l.stackTraces = false) {N : Nat} {x1 : Int32} {x2 : Int32} {σ' : St} (hf : fX_answer N x1 x2 σ = some (none, σ')) : Clz l Z y_L_answer method_21_code 5 hh_L_answer { frames := 8, cells := 1, slots := 6, locals := 480 } [.ref (Z.1 + 0), .int x1, .int x2, .ref (Z.1 + 674)] (cmb σ μ) 1 (cmb σ' μ) := by
  refine l_met (by decide) (Nat.le_of_ble_eq_true rfl) (fun p e s m args below meth c ls hc htb hr hw hl => ?_)
  have hx := hc.hx
  have hb := hc.hb
  refine lv_aload_n hx hb (dq tk_L_answer_0 0 rfl) rfl (lv_at hl 3 rfl) ?_
  refine lv_iconst (v := 0) hx hb (dq tk_L_answer_0 1 rfl) (by decide) ?_
  refine lv_aload_n hx hb (dq tk_L_answer_0 2 rfl) rfl (lv_at hl 0 rfl) ?_
  refine lv_iload_n hx hb (dq tk_L_answer_0 3 rfl) rfl (lv_at hl 1 rfl) ?_
  refine lv_iload_n hx hb (dq tk_L_answer_0 4 rfl) rfl (lv_at hl 2 rfl) ?_
  refine KZ_X_answer hst hc hw lk_1522 hf ⟨Nat.le_of_ble_eq_true rfl, Nat.le_of_ble_eq_true rfl⟩ ⟨Nat.le_of_ble_eq_true rfl, Nat.le_of_ble_eq_true rfl⟩ hl.1 (Nat.le_of_ble_eq_true rfl) (dq tk_L_answer_0 5 rfl) (fun hn ce q H locs hw hce hcv hcl => ?_) (fun r1 hr1 H locs hw => ?_)
  · refine l_catch hc htb (by intro x hx; cases hx; exact ⟨by decide, rfl, rfl⟩) (by decide) lk_1023 (va_Nw.use rfl hc.2.2.2.a9) hce hcv hcl ?_
    refine lv_astore (lv' := [(4, .ref q), (0, .ref (Z.1 + 0)), (1, .int x1), (2, .int x2), (3, .ref (Z.1 + 674))]) hx hb (dq tk_L_answer_0 9 rfl) hl (by decide) rfl (fun ls hl => ?_)
    refine lv_iconst (v := 1) hx hb (dq tk_L_answer_0 10 rfl) (by decide) ?_
    exact x_iret hc hw hr (dq tk_L_answer_0 11 rfl)
  · cases hr1
theorem KL_answer_n (hst0 : l.stackTraces = false) {cc : ByteArray} {own : String} {nL pc idx : Nat} {ls : Array Slot} {rest : List Value} {N : Nat} {x1 : Int32} {x2 : Int32} {σ' : St} (hc : Cxz p s m meth c args cc own nL Z) (hw : Wd Z (cmb σ μ) s H locs) (hl : Cond.methodLink own idx y_L_answer ∈ TB) (hf : fX_answer N x1 x2 σ = some (none, σ')) (hR : RO R (8 + 1)) (hcs : cells + 1 ≤ R.cells ∧ slots + 6 ≤ R.slots) (hls : ls.size = nL) (hst : (rest.map fun v => v.category).sum ≤ 8) (hdg : decode cc pc = .ok (.invokestatic idx, 3)) (kk : ∀ (H1 : Heap) (locs1 : List Loc), Wd Z (cmb σ' μ) s H1 locs1 → W p l e R s m args below meth c H1 locs1 (cells + 1) (slots + 6) Q (F0 m (pc + 3) ls (.int 1 :: rest))) : W p l e R s m args below meth c H locs cells slots Q (F0 m pc ls (.ref (Z.1 + 674) :: .int x2 :: .int x1 :: .ref (Z.1 + 0) :: rest)) :=
  l_is hc hw (cl_answer_n hst0 hf) yw_L_answer hl (RO.call hR (by decide)) hcs rfl hls hst hdg rfl kk
theorem cl_answer_s (hst : l.stackTraces = false) {N : Nat} {x1 : Int32} {x2 : Int32} {r : Int32} {σ' : St} (hf : fX_answer N x1 x2 σ = some (some r, σ')) : Clz l Z y_L_answer method_21_code 5 hh_L_answer { frames := 8, cells := 1, slots := 6, locals := 480 } [.ref (Z.1 + 0), .int x1, .int x2, .ref (Z.1 + 674)] (cmb σ μ) 0 (cmb (sJ σ' 164 0 0 0 r.toInt64) μ) := by
  refine l_met (by decide) (Nat.le_of_ble_eq_true rfl) (fun p e s m args below meth c ls hc htb hr hw hl => ?_)
  have hx := hc.hx
  have hb := hc.hb
  refine lv_aload_n hx hb (dq tk_L_answer_0 0 rfl) rfl (lv_at hl 3 rfl) ?_
  refine lv_iconst (v := 0) hx hb (dq tk_L_answer_0 1 rfl) (by decide) ?_
  refine lv_aload_n hx hb (dq tk_L_answer_0 2 rfl) rfl (lv_at hl 0 rfl) ?_
  refine lv_iload_n hx hb (dq tk_L_answer_0 3 rfl) rfl (lv_at hl 1 rfl) ?_
  refine lv_iload_n hx hb (dq tk_L_answer_0 4 rfl) rfl (lv_at hl 2 rfl) ?_
  refine KZ_X_answer hst hc hw lk_1522 hf ⟨Nat.le_of_ble_eq_true rfl, Nat.le_of_ble_eq_true rfl⟩ ⟨Nat.le_of_ble_eq_true rfl, Nat.le_of_ble_eq_true rfl⟩ hl.1 (Nat.le_of_ble_eq_true rfl) (dq tk_L_answer_0 5 rfl) (fun hn ce q H locs hw hce hcv hcl => ?_) (fun r1 hr1 H locs hw => ?_)
  · cases hn
  · cases hr1
    refine lv_i2l hx hb (dq tk_L_answer_0 6 rfl) rfl ?_
    refine l_last hc hw (dq tk_L_answer_0 7 rfl) (fun H locs hw => ?_)
    refine lv_goto (tgt := 17) hx hb (dq tk_L_answer_0 8 rfl) (by decide) ?_
    refine lv_iconst (v := 0) hx hb (dq tk_L_answer_0 12 rfl) (by decide) ?_
    exact x_iret hc hw hr (dq tk_L_answer_0 13 rfl)
theorem KL_answer_s (hst0 : l.stackTraces = false) {cc : ByteArray} {own : String} {nL pc idx : Nat} {ls : Array Slot} {rest : List Value} {N : Nat} {x1 : Int32} {x2 : Int32} {r : Int32} {σ' : St} (hc : Cxz p s m meth c args cc own nL Z) (hw : Wd Z (cmb σ μ) s H locs) (hl : Cond.methodLink own idx y_L_answer ∈ TB) (hf : fX_answer N x1 x2 σ = some (some r, σ')) (hR : RO R (8 + 1)) (hcs : cells + 1 ≤ R.cells ∧ slots + 6 ≤ R.slots) (hls : ls.size = nL) (hst : (rest.map fun v => v.category).sum ≤ 8) (hdg : decode cc pc = .ok (.invokestatic idx, 3)) (kk : ∀ (H1 : Heap) (locs1 : List Loc), Wd Z (cmb (sJ σ' 164 0 0 0 r.toInt64) μ) s H1 locs1 → W p l e R s m args below meth c H1 locs1 (cells + 1) (slots + 6) Q (F0 m (pc + 3) ls (.int 0 :: rest))) : W p l e R s m args below meth c H locs cells slots Q (F0 m pc ls (.ref (Z.1 + 674) :: .int x2 :: .int x1 :: .ref (Z.1 + 0) :: rest)) :=
  l_is hc hw (cl_answer_s hst0 hf) yw_L_answer hl (RO.call hR (by decide)) hcs rfl hls hst hdg rfl kk
theorem cl_sent_n (hst : l.stackTraces = false) {N : Nat} {x1 : Int32} (hf : fX_sent N x1 σ = some none) : Clz l Z y_L_sent method_22_code 4 hh_L_sent { frames := 9, cells := 1, slots := 6, locals := 540 } [.ref (Z.1 + 0), .int x1, .ref (Z.1 + 674)] (cmb σ μ) 1 (cmb σ μ) := by
  refine l_met (by decide) (Nat.le_of_ble_eq_true rfl) (fun p e s m args below meth c ls hc htb hr hw hl => ?_)
  have hx := hc.hx
  have hb := hc.hb
  refine lv_aload_n hx hb (dq tk_L_sent_0 0 rfl) rfl (lv_at hl 2 rfl) ?_
  refine lv_iconst (v := 0) hx hb (dq tk_L_sent_0 1 rfl) (by decide) ?_
  refine lv_aload_n hx hb (dq tk_L_sent_0 2 rfl) rfl (lv_at hl 0 rfl) ?_
  refine lv_iload_n hx hb (dq tk_L_sent_0 3 rfl) rfl (lv_at hl 1 rfl) ?_
  refine KZ_X_sent hst hc hw lk_1529 hf ⟨Nat.le_of_ble_eq_true rfl, Nat.le_of_ble_eq_true rfl⟩ ⟨Nat.le_of_ble_eq_true rfl, Nat.le_of_ble_eq_true rfl⟩ hl.1 (Nat.le_of_ble_eq_true rfl) (dq tk_L_sent_0 4 rfl) (fun hn ce q H locs hw hce hcv hcl => ?_) (fun r1 hr1 H locs hw => ?_)
  · refine l_catch hc htb (by intro x hx; cases hx; exact ⟨by decide, rfl, rfl⟩) (by decide) lk_1023 (va_Nw.use rfl hc.2.2.2.a9) hce hcv hcl ?_
    refine lv_astore_n (lv' := [(3, .ref q), (0, .ref (Z.1 + 0)), (1, .int x1), (2, .ref (Z.1 + 674))]) hx hb (dq tk_L_sent_0 8 rfl) rfl hl (by decide) rfl (fun ls hl => ?_)
    refine lv_iconst (v := 1) hx hb (dq tk_L_sent_0 9 rfl) (by decide) ?_
    exact x_iret hc hw hr (dq tk_L_sent_0 10 rfl)
  · cases hr1
theorem KL_sent_n (hst0 : l.stackTraces = false) {cc : ByteArray} {own : String} {nL pc idx : Nat} {ls : Array Slot} {rest : List Value} {N : Nat} {x1 : Int32} (hc : Cxz p s m meth c args cc own nL Z) (hw : Wd Z (cmb σ μ) s H locs) (hl : Cond.methodLink own idx y_L_sent ∈ TB) (hf : fX_sent N x1 σ = some none) (hR : RO R (9 + 1)) (hcs : cells + 1 ≤ R.cells ∧ slots + 6 ≤ R.slots) (hls : ls.size = nL) (hst : (rest.map fun v => v.category).sum ≤ 8) (hdg : decode cc pc = .ok (.invokestatic idx, 3)) (kk : ∀ (H1 : Heap) (locs1 : List Loc), Wd Z (cmb σ μ) s H1 locs1 → W p l e R s m args below meth c H1 locs1 (cells + 1) (slots + 6) Q (F0 m (pc + 3) ls (.int 1 :: rest))) : W p l e R s m args below meth c H locs cells slots Q (F0 m pc ls (.ref (Z.1 + 674) :: .int x1 :: .ref (Z.1 + 0) :: rest)) :=
  l_is hc hw (cl_sent_n hst0 hf) yw_L_sent hl (RO.call hR (by decide)) hcs rfl hls hst hdg rfl kk
theorem cl_sent_s (hst : l.stackTraces = false) {N : Nat} {x1 : Int32} {r : Int32} (hf : fX_sent N x1 σ = some (some r)) : Clz l Z y_L_sent method_22_code 4 hh_L_sent { frames := 9, cells := 1, slots := 6, locals := 540 } [.ref (Z.1 + 0), .int x1, .ref (Z.1 + 674)] (cmb σ μ) 0 (cmb (sJ σ 164 0 0 0 r.toInt64) μ) := by
  refine l_met (by decide) (Nat.le_of_ble_eq_true rfl) (fun p e s m args below meth c ls hc htb hr hw hl => ?_)
  have hx := hc.hx
  have hb := hc.hb
  refine lv_aload_n hx hb (dq tk_L_sent_0 0 rfl) rfl (lv_at hl 2 rfl) ?_
  refine lv_iconst (v := 0) hx hb (dq tk_L_sent_0 1 rfl) (by decide) ?_
  refine lv_aload_n hx hb (dq tk_L_sent_0 2 rfl) rfl (lv_at hl 0 rfl) ?_
  refine lv_iload_n hx hb (dq tk_L_sent_0 3 rfl) rfl (lv_at hl 1 rfl) ?_
  refine KZ_X_sent hst hc hw lk_1529 hf ⟨Nat.le_of_ble_eq_true rfl, Nat.le_of_ble_eq_true rfl⟩ ⟨Nat.le_of_ble_eq_true rfl, Nat.le_of_ble_eq_true rfl⟩ hl.1 (Nat.le_of_ble_eq_true rfl) (dq tk_L_sent_0 4 rfl) (fun hn ce q H locs hw hce hcv hcl => ?_) (fun r1 hr1 H locs hw => ?_)
  · cases hn
  · cases hr1
    refine lv_i2l hx hb (dq tk_L_sent_0 5 rfl) rfl ?_
    refine l_last hc hw (dq tk_L_sent_0 6 rfl) (fun H locs hw => ?_)
    refine lv_goto (tgt := 15) hx hb (dq tk_L_sent_0 7 rfl) (by decide) ?_
    refine lv_iconst (v := 0) hx hb (dq tk_L_sent_0 11 rfl) (by decide) ?_
    exact x_iret hc hw hr (dq tk_L_sent_0 12 rfl)
theorem KL_sent_s (hst0 : l.stackTraces = false) {cc : ByteArray} {own : String} {nL pc idx : Nat} {ls : Array Slot} {rest : List Value} {N : Nat} {x1 : Int32} {r : Int32} (hc : Cxz p s m meth c args cc own nL Z) (hw : Wd Z (cmb σ μ) s H locs) (hl : Cond.methodLink own idx y_L_sent ∈ TB) (hf : fX_sent N x1 σ = some (some r)) (hR : RO R (9 + 1)) (hcs : cells + 1 ≤ R.cells ∧ slots + 6 ≤ R.slots) (hls : ls.size = nL) (hst : (rest.map fun v => v.category).sum ≤ 8) (hdg : decode cc pc = .ok (.invokestatic idx, 3)) (kk : ∀ (H1 : Heap) (locs1 : List Loc), Wd Z (cmb (sJ σ 164 0 0 0 r.toInt64) μ) s H1 locs1 → W p l e R s m args below meth c H1 locs1 (cells + 1) (slots + 6) Q (F0 m (pc + 3) ls (.int 0 :: rest))) : W p l e R s m args below meth c H locs cells slots Q (F0 m pc ls (.ref (Z.1 + 674) :: .int x1 :: .ref (Z.1 + 0) :: rest)) :=
  l_is hc hw (cl_sent_s hst0 hf) yw_L_sent hl (RO.call hR (by decide)) hcs rfl hls hst hdg rfl kk
theorem cl_appeal_n (hst : l.stackTraces = false) {N : Nat} {x1 : Int32} {σ' : St} (hf : fX_appeal N x1 σ = some (none, σ')) : Clz l Z y_L_appeal method_23_code 4 hh_L_appeal { frames := 8, cells := 1, slots := 6, locals := 480 } [.ref (Z.1 + 0), .int x1, .ref (Z.1 + 674)] (cmb σ μ) 1 (cmb σ' μ) := by
  refine l_met (by decide) (Nat.le_of_ble_eq_true rfl) (fun p e s m args below meth c ls hc htb hr hw hl => ?_)
  have hx := hc.hx
  have hb := hc.hb
  refine lv_aload_n hx hb (dq tk_L_appeal_0 0 rfl) rfl (lv_at hl 2 rfl) ?_
  refine lv_iconst (v := 0) hx hb (dq tk_L_appeal_0 1 rfl) (by decide) ?_
  refine lv_aload_n hx hb (dq tk_L_appeal_0 2 rfl) rfl (lv_at hl 0 rfl) ?_
  refine lv_iload_n hx hb (dq tk_L_appeal_0 3 rfl) rfl (lv_at hl 1 rfl) ?_
  refine KZ_X_appeal hst hc hw lk_1536 hf ⟨Nat.le_of_ble_eq_true rfl, Nat.le_of_ble_eq_true rfl⟩ ⟨Nat.le_of_ble_eq_true rfl, Nat.le_of_ble_eq_true rfl⟩ hl.1 (Nat.le_of_ble_eq_true rfl) (dq tk_L_appeal_0 4 rfl) (fun hn ce q H locs hw hce hcv hcl => ?_) (fun r1 hr1 H locs hw => ?_)
  · refine l_catch hc htb (by intro x hx; cases hx; exact ⟨by decide, rfl, rfl⟩) (by decide) lk_1023 (va_Nw.use rfl hc.2.2.2.a9) hce hcv hcl ?_
    refine lv_astore_n (lv' := [(3, .ref q), (0, .ref (Z.1 + 0)), (1, .int x1), (2, .ref (Z.1 + 674))]) hx hb (dq tk_L_appeal_0 8 rfl) rfl hl (by decide) rfl (fun ls hl => ?_)
    refine lv_iconst (v := 1) hx hb (dq tk_L_appeal_0 9 rfl) (by decide) ?_
    exact x_iret hc hw hr (dq tk_L_appeal_0 10 rfl)
  · cases hr1
theorem KL_appeal_n (hst0 : l.stackTraces = false) {cc : ByteArray} {own : String} {nL pc idx : Nat} {ls : Array Slot} {rest : List Value} {N : Nat} {x1 : Int32} {σ' : St} (hc : Cxz p s m meth c args cc own nL Z) (hw : Wd Z (cmb σ μ) s H locs) (hl : Cond.methodLink own idx y_L_appeal ∈ TB) (hf : fX_appeal N x1 σ = some (none, σ')) (hR : RO R (8 + 1)) (hcs : cells + 1 ≤ R.cells ∧ slots + 6 ≤ R.slots) (hls : ls.size = nL) (hst : (rest.map fun v => v.category).sum ≤ 8) (hdg : decode cc pc = .ok (.invokestatic idx, 3)) (kk : ∀ (H1 : Heap) (locs1 : List Loc), Wd Z (cmb σ' μ) s H1 locs1 → W p l e R s m args below meth c H1 locs1 (cells + 1) (slots + 6) Q (F0 m (pc + 3) ls (.int 1 :: rest))) : W p l e R s m args below meth c H locs cells slots Q (F0 m pc ls (.ref (Z.1 + 674) :: .int x1 :: .ref (Z.1 + 0) :: rest)) :=
  l_is hc hw (cl_appeal_n hst0 hf) yw_L_appeal hl (RO.call hR (by decide)) hcs rfl hls hst hdg rfl kk
theorem cl_appeal_s (hst : l.stackTraces = false) {N : Nat} {x1 : Int32} {r : Int32} {σ' : St} (hf : fX_appeal N x1 σ = some (some r, σ')) : Clz l Z y_L_appeal method_23_code 4 hh_L_appeal { frames := 8, cells := 1, slots := 6, locals := 480 } [.ref (Z.1 + 0), .int x1, .ref (Z.1 + 674)] (cmb σ μ) 0 (cmb (sJ σ' 164 0 0 0 r.toInt64) μ) := by
  refine l_met (by decide) (Nat.le_of_ble_eq_true rfl) (fun p e s m args below meth c ls hc htb hr hw hl => ?_)
  have hx := hc.hx
  have hb := hc.hb
  refine lv_aload_n hx hb (dq tk_L_appeal_0 0 rfl) rfl (lv_at hl 2 rfl) ?_
  refine lv_iconst (v := 0) hx hb (dq tk_L_appeal_0 1 rfl) (by decide) ?_
  refine lv_aload_n hx hb (dq tk_L_appeal_0 2 rfl) rfl (lv_at hl 0 rfl) ?_
  refine lv_iload_n hx hb (dq tk_L_appeal_0 3 rfl) rfl (lv_at hl 1 rfl) ?_
  refine KZ_X_appeal hst hc hw lk_1536 hf ⟨Nat.le_of_ble_eq_true rfl, Nat.le_of_ble_eq_true rfl⟩ ⟨Nat.le_of_ble_eq_true rfl, Nat.le_of_ble_eq_true rfl⟩ hl.1 (Nat.le_of_ble_eq_true rfl) (dq tk_L_appeal_0 4 rfl) (fun hn ce q H locs hw hce hcv hcl => ?_) (fun r1 hr1 H locs hw => ?_)
  · cases hn
  · cases hr1
    refine lv_i2l hx hb (dq tk_L_appeal_0 5 rfl) rfl ?_
    refine l_last hc hw (dq tk_L_appeal_0 6 rfl) (fun H locs hw => ?_)
    refine lv_goto (tgt := 15) hx hb (dq tk_L_appeal_0 7 rfl) (by decide) ?_
    refine lv_iconst (v := 0) hx hb (dq tk_L_appeal_0 11 rfl) (by decide) ?_
    exact x_iret hc hw hr (dq tk_L_appeal_0 12 rfl)
theorem KL_appeal_s (hst0 : l.stackTraces = false) {cc : ByteArray} {own : String} {nL pc idx : Nat} {ls : Array Slot} {rest : List Value} {N : Nat} {x1 : Int32} {r : Int32} {σ' : St} (hc : Cxz p s m meth c args cc own nL Z) (hw : Wd Z (cmb σ μ) s H locs) (hl : Cond.methodLink own idx y_L_appeal ∈ TB) (hf : fX_appeal N x1 σ = some (some r, σ')) (hR : RO R (8 + 1)) (hcs : cells + 1 ≤ R.cells ∧ slots + 6 ≤ R.slots) (hls : ls.size = nL) (hst : (rest.map fun v => v.category).sum ≤ 8) (hdg : decode cc pc = .ok (.invokestatic idx, 3)) (kk : ∀ (H1 : Heap) (locs1 : List Loc), Wd Z (cmb (sJ σ' 164 0 0 0 r.toInt64) μ) s H1 locs1 → W p l e R s m args below meth c H1 locs1 (cells + 1) (slots + 6) Q (F0 m (pc + 3) ls (.int 0 :: rest))) : W p l e R s m args below meth c H locs cells slots Q (F0 m pc ls (.ref (Z.1 + 674) :: .int x1 :: .ref (Z.1 + 0) :: rest)) :=
  l_is hc hw (cl_appeal_s hst0 hf) yw_L_appeal hl (RO.call hR (by decide)) hcs rfl hls hst hdg rfl kk
theorem cl_close_n (hst : l.stackTraces = false) {N : Nat} {x1 : Int32} {x2 : Int32} {σ' : St} (hf : fX_close N x1 x2 σ = some (none, σ')) : Clz l Z y_L_close method_24_code 5 hh_L_close { frames := 8, cells := 1, slots := 6, locals := 480 } [.ref (Z.1 + 0), .int x1, .int x2, .ref (Z.1 + 674)] (cmb σ μ) 1 (cmb σ' μ) := by
  refine l_met (by decide) (Nat.le_of_ble_eq_true rfl) (fun p e s m args below meth c ls hc htb hr hw hl => ?_)
  have hx := hc.hx
  have hb := hc.hb
  refine lv_aload_n hx hb (dq tk_L_close_0 0 rfl) rfl (lv_at hl 3 rfl) ?_
  refine lv_iconst (v := 0) hx hb (dq tk_L_close_0 1 rfl) (by decide) ?_
  refine lv_aload_n hx hb (dq tk_L_close_0 2 rfl) rfl (lv_at hl 0 rfl) ?_
  refine lv_iload_n hx hb (dq tk_L_close_0 3 rfl) rfl (lv_at hl 1 rfl) ?_
  refine lv_iload_n hx hb (dq tk_L_close_0 4 rfl) rfl (lv_at hl 2 rfl) ?_
  refine KZ_X_close hst hc hw lk_1556 hf ⟨Nat.le_of_ble_eq_true rfl, Nat.le_of_ble_eq_true rfl⟩ ⟨Nat.le_of_ble_eq_true rfl, Nat.le_of_ble_eq_true rfl⟩ hl.1 (Nat.le_of_ble_eq_true rfl) (dq tk_L_close_0 5 rfl) (fun hn ce q H locs hw hce hcv hcl => ?_) (fun r1 hr1 H locs hw => ?_)
  · refine l_catch hc htb (by intro x hx; cases hx; exact ⟨by decide, rfl, rfl⟩) (by decide) lk_1023 (va_Nw.use rfl hc.2.2.2.a9) hce hcv hcl ?_
    refine lv_astore (lv' := [(4, .ref q), (0, .ref (Z.1 + 0)), (1, .int x1), (2, .int x2), (3, .ref (Z.1 + 674))]) hx hb (dq tk_L_close_0 12 rfl) hl (by decide) rfl (fun ls hl => ?_)
    refine lv_iconst (v := 1) hx hb (dq tk_L_close_0 13 rfl) (by decide) ?_
    exact x_iret hc hw hr (dq tk_L_close_0 14 rfl)
  · cases hr1
theorem KL_close_n (hst0 : l.stackTraces = false) {cc : ByteArray} {own : String} {nL pc idx : Nat} {ls : Array Slot} {rest : List Value} {N : Nat} {x1 : Int32} {x2 : Int32} {σ' : St} (hc : Cxz p s m meth c args cc own nL Z) (hw : Wd Z (cmb σ μ) s H locs) (hl : Cond.methodLink own idx y_L_close ∈ TB) (hf : fX_close N x1 x2 σ = some (none, σ')) (hR : RO R (8 + 1)) (hcs : cells + 1 ≤ R.cells ∧ slots + 6 ≤ R.slots) (hls : ls.size = nL) (hst : (rest.map fun v => v.category).sum ≤ 8) (hdg : decode cc pc = .ok (.invokestatic idx, 3)) (kk : ∀ (H1 : Heap) (locs1 : List Loc), Wd Z (cmb σ' μ) s H1 locs1 → W p l e R s m args below meth c H1 locs1 (cells + 1) (slots + 6) Q (F0 m (pc + 3) ls (.int 1 :: rest))) : W p l e R s m args below meth c H locs cells slots Q (F0 m pc ls (.ref (Z.1 + 674) :: .int x2 :: .int x1 :: .ref (Z.1 + 0) :: rest)) :=
  l_is hc hw (cl_close_n hst0 hf) yw_L_close hl (RO.call hR (by decide)) hcs rfl hls hst hdg rfl kk
theorem cl_close_s (hst : l.stackTraces = false) {N : Nat} {x1 : Int32} {x2 : Int32} {r : Int32} {σ' : St} (hf : fX_close N x1 x2 σ = some (some r, σ')) : Clz l Z y_L_close method_24_code 5 hh_L_close { frames := 8, cells := 1, slots := 6, locals := 480 } [.ref (Z.1 + 0), .int x1, .int x2, .ref (Z.1 + 674)] (cmb σ μ) 0 (cmb (sJ σ' 164 0 0 0 (if r = 0 then 0 else 1)) μ) := by
  refine l_met (by decide) (Nat.le_of_ble_eq_true rfl) (fun p e s m args below meth c ls hc htb hr hw hl => ?_)
  have hx := hc.hx
  have hb := hc.hb
  refine lv_aload_n hx hb (dq tk_L_close_0 0 rfl) rfl (lv_at hl 3 rfl) ?_
  refine lv_iconst (v := 0) hx hb (dq tk_L_close_0 1 rfl) (by decide) ?_
  refine lv_aload_n hx hb (dq tk_L_close_0 2 rfl) rfl (lv_at hl 0 rfl) ?_
  refine lv_iload_n hx hb (dq tk_L_close_0 3 rfl) rfl (lv_at hl 1 rfl) ?_
  refine lv_iload_n hx hb (dq tk_L_close_0 4 rfl) rfl (lv_at hl 2 rfl) ?_
  refine KZ_X_close hst hc hw lk_1556 hf ⟨Nat.le_of_ble_eq_true rfl, Nat.le_of_ble_eq_true rfl⟩ ⟨Nat.le_of_ble_eq_true rfl, Nat.le_of_ble_eq_true rfl⟩ hl.1 (Nat.le_of_ble_eq_true rfl) (dq tk_L_close_0 5 rfl) (fun hn ce q H locs hw hce hcv hcl => ?_) (fun r1 hr1 H locs hw => ?_)
  · cases hn
  · cases hr1
    refine lv_if_eq (tgt := 15) hx hb (dq tk_L_close_0 6 rfl) (by decide) (fun c1 => ?_) (fun c1 => ?_)
    · rw [if_pos c1]
      refine lv_lconst (v := 0) hx hb (dq tk_L_close_0 9 rfl) (by decide) ?_
      refine l_last hc hw (dq tk_L_close_0 10 rfl) (fun H locs hw => ?_)
      refine lv_goto (tgt := 24) hx hb (dq tk_L_close_0 11 rfl) (by decide) ?_
      refine lv_iconst (v := 0) hx hb (dq tk_L_close_0 15 rfl) (by decide) ?_
      exact x_iret hc hw hr (dq tk_L_close_0 16 rfl)
    · rw [if_neg c1]
      refine lv_lconst (v := 1) hx hb (dq tk_L_close_0 7 rfl) (by decide) ?_
      refine lv_goto (tgt := 16) hx hb (dq tk_L_close_0 8 rfl) (by decide) ?_
      refine l_last hc hw (dq tk_L_close_0 10 rfl) (fun H locs hw => ?_)
      refine lv_goto (tgt := 24) hx hb (dq tk_L_close_0 11 rfl) (by decide) ?_
      refine lv_iconst (v := 0) hx hb (dq tk_L_close_0 15 rfl) (by decide) ?_
      exact x_iret hc hw hr (dq tk_L_close_0 16 rfl)
theorem KL_close_s (hst0 : l.stackTraces = false) {cc : ByteArray} {own : String} {nL pc idx : Nat} {ls : Array Slot} {rest : List Value} {N : Nat} {x1 : Int32} {x2 : Int32} {r : Int32} {σ' : St} (hc : Cxz p s m meth c args cc own nL Z) (hw : Wd Z (cmb σ μ) s H locs) (hl : Cond.methodLink own idx y_L_close ∈ TB) (hf : fX_close N x1 x2 σ = some (some r, σ')) (hR : RO R (8 + 1)) (hcs : cells + 1 ≤ R.cells ∧ slots + 6 ≤ R.slots) (hls : ls.size = nL) (hst : (rest.map fun v => v.category).sum ≤ 8) (hdg : decode cc pc = .ok (.invokestatic idx, 3)) (kk : ∀ (H1 : Heap) (locs1 : List Loc), Wd Z (cmb (sJ σ' 164 0 0 0 (if r = 0 then 0 else 1)) μ) s H1 locs1 → W p l e R s m args below meth c H1 locs1 (cells + 1) (slots + 6) Q (F0 m (pc + 3) ls (.int 0 :: rest))) : W p l e R s m args below meth c H locs cells slots Q (F0 m pc ls (.ref (Z.1 + 674) :: .int x2 :: .int x1 :: .ref (Z.1 + 0) :: rest)) :=
  l_is hc hw (cl_close_s hst0 hf) yw_L_close hl (RO.call hR (by decide)) hcs rfl hls hst hdg rfl kk
theorem cl_caseOf_n (hst : l.stackTraces = false) {N : Nat} {x1 : Int32} {x2 : Int32} {σ' : St} (hf : fX_caseOf N x1 x2 σ = some (none, σ')) : Clz l Z y_L_caseOf method_25_code 5 hh_L_caseOf { frames := 10, cells := 2, slots := 12, locals := 600 } [.ref (Z.1 + 0), .int x1, .int x2, .ref (Z.1 + 674)] (cmb σ μ) 1 (cmb σ' μ) := by
  refine l_met (by decide) (Nat.le_of_ble_eq_true rfl) (fun p e s m args below meth c ls hc htb hr hw hl => ?_)
  have hx := hc.hx
  have hb := hc.hb
  refine lv_aload_n hx hb (dq tk_L_caseOf_0 0 rfl) rfl (lv_at hl 3 rfl) ?_
  refine lv_iconst (v := 0) hx hb (dq tk_L_caseOf_0 1 rfl) (by decide) ?_
  refine lv_aload_n hx hb (dq tk_L_caseOf_0 2 rfl) rfl (lv_at hl 0 rfl) ?_
  refine lv_iload_n hx hb (dq tk_L_caseOf_0 3 rfl) rfl (lv_at hl 1 rfl) ?_
  refine lv_iload_n hx hb (dq tk_L_caseOf_0 4 rfl) rfl (lv_at hl 2 rfl) ?_
  refine KZ_X_caseOf hst hc hw lk_1563 hf ⟨Nat.le_of_ble_eq_true rfl, Nat.le_of_ble_eq_true rfl⟩ ⟨Nat.le_of_ble_eq_true rfl, Nat.le_of_ble_eq_true rfl⟩ hl.1 (Nat.le_of_ble_eq_true rfl) (dq tk_L_caseOf_0 5 rfl) (fun hn ce q H locs hw hce hcv hcl => ?_) (fun r1 hr1 H locs hw => ?_)
  · refine l_catch hc htb (by intro x hx; cases hx; exact ⟨by decide, rfl, rfl⟩) (by decide) lk_1023 (va_Nw.use rfl hc.2.2.2.a9) hce hcv hcl ?_
    refine lv_astore (lv' := [(4, .ref q), (0, .ref (Z.1 + 0)), (1, .int x1), (2, .int x2), (3, .ref (Z.1 + 674))]) hx hb (dq tk_L_caseOf_0 9 rfl) hl (by decide) rfl (fun ls hl => ?_)
    refine lv_iconst (v := 1) hx hb (dq tk_L_caseOf_0 10 rfl) (by decide) ?_
    exact x_iret hc hw hr (dq tk_L_caseOf_0 11 rfl)
  · cases hr1
theorem KL_caseOf_n (hst0 : l.stackTraces = false) {cc : ByteArray} {own : String} {nL pc idx : Nat} {ls : Array Slot} {rest : List Value} {N : Nat} {x1 : Int32} {x2 : Int32} {σ' : St} (hc : Cxz p s m meth c args cc own nL Z) (hw : Wd Z (cmb σ μ) s H locs) (hl : Cond.methodLink own idx y_L_caseOf ∈ TB) (hf : fX_caseOf N x1 x2 σ = some (none, σ')) (hR : RO R (10 + 1)) (hcs : cells + 2 ≤ R.cells ∧ slots + 12 ≤ R.slots) (hls : ls.size = nL) (hst : (rest.map fun v => v.category).sum ≤ 8) (hdg : decode cc pc = .ok (.invokestatic idx, 3)) (kk : ∀ (H1 : Heap) (locs1 : List Loc), Wd Z (cmb σ' μ) s H1 locs1 → W p l e R s m args below meth c H1 locs1 (cells + 2) (slots + 12) Q (F0 m (pc + 3) ls (.int 1 :: rest))) : W p l e R s m args below meth c H locs cells slots Q (F0 m pc ls (.ref (Z.1 + 674) :: .int x2 :: .int x1 :: .ref (Z.1 + 0) :: rest)) :=
  l_is hc hw (cl_caseOf_n hst0 hf) yw_L_caseOf hl (RO.call hR (by decide)) hcs rfl hls hst hdg rfl kk
theorem cl_caseOf_s (hst : l.stackTraces = false) {N : Nat} {x1 : Int32} {x2 : Int32} {r : Int32} {σ' : St} (hf : fX_caseOf N x1 x2 σ = some (some r, σ')) : Clz l Z y_L_caseOf method_25_code 5 hh_L_caseOf { frames := 10, cells := 2, slots := 12, locals := 600 } [.ref (Z.1 + 0), .int x1, .int x2, .ref (Z.1 + 674)] (cmb σ μ) 0 (cmb (sJ σ' 164 0 0 0 r.toInt64) μ) := by
  refine l_met (by decide) (Nat.le_of_ble_eq_true rfl) (fun p e s m args below meth c ls hc htb hr hw hl => ?_)
  have hx := hc.hx
  have hb := hc.hb
  refine lv_aload_n hx hb (dq tk_L_caseOf_0 0 rfl) rfl (lv_at hl 3 rfl) ?_
  refine lv_iconst (v := 0) hx hb (dq tk_L_caseOf_0 1 rfl) (by decide) ?_
  refine lv_aload_n hx hb (dq tk_L_caseOf_0 2 rfl) rfl (lv_at hl 0 rfl) ?_
  refine lv_iload_n hx hb (dq tk_L_caseOf_0 3 rfl) rfl (lv_at hl 1 rfl) ?_
  refine lv_iload_n hx hb (dq tk_L_caseOf_0 4 rfl) rfl (lv_at hl 2 rfl) ?_
  refine KZ_X_caseOf hst hc hw lk_1563 hf ⟨Nat.le_of_ble_eq_true rfl, Nat.le_of_ble_eq_true rfl⟩ ⟨Nat.le_of_ble_eq_true rfl, Nat.le_of_ble_eq_true rfl⟩ hl.1 (Nat.le_of_ble_eq_true rfl) (dq tk_L_caseOf_0 5 rfl) (fun hn ce q H locs hw hce hcv hcl => ?_) (fun r1 hr1 H locs hw => ?_)
  · cases hn
  · cases hr1
    refine lv_i2l hx hb (dq tk_L_caseOf_0 6 rfl) rfl ?_
    refine l_last hc hw (dq tk_L_caseOf_0 7 rfl) (fun H locs hw => ?_)
    refine lv_goto (tgt := 17) hx hb (dq tk_L_caseOf_0 8 rfl) (by decide) ?_
    refine lv_iconst (v := 0) hx hb (dq tk_L_caseOf_0 12 rfl) (by decide) ?_
    exact x_iret hc hw hr (dq tk_L_caseOf_0 13 rfl)
theorem KL_caseOf_s (hst0 : l.stackTraces = false) {cc : ByteArray} {own : String} {nL pc idx : Nat} {ls : Array Slot} {rest : List Value} {N : Nat} {x1 : Int32} {x2 : Int32} {r : Int32} {σ' : St} (hc : Cxz p s m meth c args cc own nL Z) (hw : Wd Z (cmb σ μ) s H locs) (hl : Cond.methodLink own idx y_L_caseOf ∈ TB) (hf : fX_caseOf N x1 x2 σ = some (some r, σ')) (hR : RO R (10 + 1)) (hcs : cells + 2 ≤ R.cells ∧ slots + 12 ≤ R.slots) (hls : ls.size = nL) (hst : (rest.map fun v => v.category).sum ≤ 8) (hdg : decode cc pc = .ok (.invokestatic idx, 3)) (kk : ∀ (H1 : Heap) (locs1 : List Loc), Wd Z (cmb (sJ σ' 164 0 0 0 r.toInt64) μ) s H1 locs1 → W p l e R s m args below meth c H1 locs1 (cells + 2) (slots + 12) Q (F0 m (pc + 3) ls (.int 0 :: rest))) : W p l e R s m args below meth c H locs cells slots Q (F0 m pc ls (.ref (Z.1 + 674) :: .int x2 :: .int x1 :: .ref (Z.1 + 0) :: rest)) :=
  l_is hc hw (cl_caseOf_s hst0 hf) yw_L_caseOf hl (RO.call hR (by decide)) hcs rfl hls hst hdg rfl kk
theorem cl_attempt_n (hst : l.stackTraces = false) {N : Nat} {x1 : Int32} {x2 : Int32} {x3 : Int32} {σ' : St} (hf : fX_attempt N x1 x2 x3 σ = some (none, σ')) : Clz l Z y_L_attempt method_26_code 6 hh_L_attempt { frames := 81, cells := 1, slots := 6, locals := 4860 } [.ref (Z.1 + 0), .int x1, .int x2, .int x3, .ref (Z.1 + 674)] (cmb σ μ) 1 (cmb σ' μ) := by
  refine l_met (by decide) (Nat.le_of_ble_eq_true rfl) (fun p e s m args below meth c ls hc htb hr hw hl => ?_)
  have hx := hc.hx
  have hb := hc.hb
  refine lv_aload hx hb (dq tk_L_attempt_0 0 rfl) (lv_at hl 4 rfl) ?_
  refine lv_iconst (v := 0) hx hb (dq tk_L_attempt_0 1 rfl) (by decide) ?_
  refine lv_aload_n hx hb (dq tk_L_attempt_0 2 rfl) rfl (lv_at hl 0 rfl) ?_
  refine lv_iload_n hx hb (dq tk_L_attempt_0 3 rfl) rfl (lv_at hl 1 rfl) ?_
  refine lv_iload_n hx hb (dq tk_L_attempt_0 4 rfl) rfl (lv_at hl 2 rfl) ?_
  refine lv_iload_n hx hb (dq tk_L_attempt_0 5 rfl) rfl (lv_at hl 3 rfl) ?_
  refine KZ_X_attempt hst hc hw lk_1574 hf ⟨Nat.le_of_ble_eq_true rfl, Nat.le_of_ble_eq_true rfl⟩ ⟨Nat.le_of_ble_eq_true rfl, Nat.le_of_ble_eq_true rfl⟩ hl.1 (Nat.le_of_ble_eq_true rfl) (dq tk_L_attempt_0 6 rfl) (fun hn ce q H locs hw hce hcv hcl => ?_) (fun r1 hr1 H locs hw => ?_)
  · refine l_catch hc htb (by intro x hx; cases hx; exact ⟨by decide, rfl, rfl⟩) (by decide) lk_1144 (va_Nw.use rfl hc.2.2.2.a10) hce hcv hcl ?_
    refine lv_astore (lv' := [(5, .ref q), (0, .ref (Z.1 + 0)), (1, .int x1), (2, .int x2), (3, .int x3), (4, .ref (Z.1 + 674))]) hx hb (dq tk_L_attempt_0 10 rfl) hl (by decide) rfl (fun ls hl => ?_)
    refine lv_iconst (v := 1) hx hb (dq tk_L_attempt_0 11 rfl) (by decide) ?_
    exact x_iret hc hw hr (dq tk_L_attempt_0 12 rfl)
  · cases hr1
theorem KL_attempt_n (hst0 : l.stackTraces = false) {cc : ByteArray} {own : String} {nL pc idx : Nat} {ls : Array Slot} {rest : List Value} {N : Nat} {x1 : Int32} {x2 : Int32} {x3 : Int32} {σ' : St} (hc : Cxz p s m meth c args cc own nL Z) (hw : Wd Z (cmb σ μ) s H locs) (hl : Cond.methodLink own idx y_L_attempt ∈ TB) (hf : fX_attempt N x1 x2 x3 σ = some (none, σ')) (hR : RO R (81 + 1)) (hcs : cells + 1 ≤ R.cells ∧ slots + 6 ≤ R.slots) (hls : ls.size = nL) (hst : (rest.map fun v => v.category).sum ≤ 8) (hdg : decode cc pc = .ok (.invokestatic idx, 3)) (kk : ∀ (H1 : Heap) (locs1 : List Loc), Wd Z (cmb σ' μ) s H1 locs1 → W p l e R s m args below meth c H1 locs1 (cells + 1) (slots + 6) Q (F0 m (pc + 3) ls (.int 1 :: rest))) : W p l e R s m args below meth c H locs cells slots Q (F0 m pc ls (.ref (Z.1 + 674) :: .int x3 :: .int x2 :: .int x1 :: .ref (Z.1 + 0) :: rest)) :=
  l_is hc hw (cl_attempt_n hst0 hf) yw_L_attempt hl (RO.call hR (by decide)) hcs rfl hls hst hdg rfl kk
theorem cl_attempt_s (hst : l.stackTraces = false) {N : Nat} {x1 : Int32} {x2 : Int32} {x3 : Int32} {r : Int32} {σ' : St} (hf : fX_attempt N x1 x2 x3 σ = some (some r, σ')) : Clz l Z y_L_attempt method_26_code 6 hh_L_attempt { frames := 81, cells := 1, slots := 6, locals := 4860 } [.ref (Z.1 + 0), .int x1, .int x2, .int x3, .ref (Z.1 + 674)] (cmb σ μ) 0 (cmb (sJ σ' 164 0 0 0 r.toInt64) μ) := by
  refine l_met (by decide) (Nat.le_of_ble_eq_true rfl) (fun p e s m args below meth c ls hc htb hr hw hl => ?_)
  have hx := hc.hx
  have hb := hc.hb
  refine lv_aload hx hb (dq tk_L_attempt_0 0 rfl) (lv_at hl 4 rfl) ?_
  refine lv_iconst (v := 0) hx hb (dq tk_L_attempt_0 1 rfl) (by decide) ?_
  refine lv_aload_n hx hb (dq tk_L_attempt_0 2 rfl) rfl (lv_at hl 0 rfl) ?_
  refine lv_iload_n hx hb (dq tk_L_attempt_0 3 rfl) rfl (lv_at hl 1 rfl) ?_
  refine lv_iload_n hx hb (dq tk_L_attempt_0 4 rfl) rfl (lv_at hl 2 rfl) ?_
  refine lv_iload_n hx hb (dq tk_L_attempt_0 5 rfl) rfl (lv_at hl 3 rfl) ?_
  refine KZ_X_attempt hst hc hw lk_1574 hf ⟨Nat.le_of_ble_eq_true rfl, Nat.le_of_ble_eq_true rfl⟩ ⟨Nat.le_of_ble_eq_true rfl, Nat.le_of_ble_eq_true rfl⟩ hl.1 (Nat.le_of_ble_eq_true rfl) (dq tk_L_attempt_0 6 rfl) (fun hn ce q H locs hw hce hcv hcl => ?_) (fun r1 hr1 H locs hw => ?_)
  · cases hn
  · cases hr1
    refine lv_i2l hx hb (dq tk_L_attempt_0 7 rfl) rfl ?_
    refine l_last hc hw (dq tk_L_attempt_0 8 rfl) (fun H locs hw => ?_)
    refine lv_goto (tgt := 19) hx hb (dq tk_L_attempt_0 9 rfl) (by decide) ?_
    refine lv_iconst (v := 0) hx hb (dq tk_L_attempt_0 13 rfl) (by decide) ?_
    exact x_iret hc hw hr (dq tk_L_attempt_0 14 rfl)
theorem KL_attempt_s (hst0 : l.stackTraces = false) {cc : ByteArray} {own : String} {nL pc idx : Nat} {ls : Array Slot} {rest : List Value} {N : Nat} {x1 : Int32} {x2 : Int32} {x3 : Int32} {r : Int32} {σ' : St} (hc : Cxz p s m meth c args cc own nL Z) (hw : Wd Z (cmb σ μ) s H locs) (hl : Cond.methodLink own idx y_L_attempt ∈ TB) (hf : fX_attempt N x1 x2 x3 σ = some (some r, σ')) (hR : RO R (81 + 1)) (hcs : cells + 1 ≤ R.cells ∧ slots + 6 ≤ R.slots) (hls : ls.size = nL) (hst : (rest.map fun v => v.category).sum ≤ 8) (hdg : decode cc pc = .ok (.invokestatic idx, 3)) (kk : ∀ (H1 : Heap) (locs1 : List Loc), Wd Z (cmb (sJ σ' 164 0 0 0 r.toInt64) μ) s H1 locs1 → W p l e R s m args below meth c H1 locs1 (cells + 1) (slots + 6) Q (F0 m (pc + 3) ls (.int 0 :: rest))) : W p l e R s m args below meth c H locs cells slots Q (F0 m pc ls (.ref (Z.1 + 674) :: .int x3 :: .int x2 :: .int x1 :: .ref (Z.1 + 0) :: rest)) :=
  l_is hc hw (cl_attempt_s hst0 hf) yw_L_attempt hl (RO.call hR (by decide)) hcs rfl hls hst hdg rfl kk
theorem cl_tried_n (hst : l.stackTraces = false) {N : Nat} {x1 : Int32} {x2 : Int32} (hf : fX_tried N x1 x2 σ = some none) : Clz l Z y_L_tried method_27_code 5 hh_L_tried { frames := 8, cells := 3, slots := 18, locals := 480 } [.ref (Z.1 + 0), .int x1, .int x2, .ref (Z.1 + 674)] (cmb σ μ) 1 (cmb σ μ) := by
  refine l_met (by decide) (Nat.le_of_ble_eq_true rfl) (fun p e s m args below meth c ls hc htb hr hw hl => ?_)
  have hx := hc.hx
  have hb := hc.hb
  refine lv_aload_n hx hb (dq tk_L_tried_0 0 rfl) rfl (lv_at hl 3 rfl) ?_
  refine lv_iconst (v := 0) hx hb (dq tk_L_tried_0 1 rfl) (by decide) ?_
  refine lv_aload_n hx hb (dq tk_L_tried_0 2 rfl) rfl (lv_at hl 0 rfl) ?_
  refine lv_iload_n hx hb (dq tk_L_tried_0 3 rfl) rfl (lv_at hl 1 rfl) ?_
  refine lv_iload_n hx hb (dq tk_L_tried_0 4 rfl) rfl (lv_at hl 2 rfl) ?_
  refine KZ_X_tried hst hc hw lk_1590 hf ⟨Nat.le_of_ble_eq_true rfl, Nat.le_of_ble_eq_true rfl⟩ ⟨Nat.le_of_ble_eq_true rfl, Nat.le_of_ble_eq_true rfl⟩ hl.1 (Nat.le_of_ble_eq_true rfl) (dq tk_L_tried_0 5 rfl) (fun hn ce q H locs hw hce hcv hcl => ?_) (fun r1 hr1 H locs hw => ?_)
  · refine l_catch hc htb (by intro x hx; cases hx; exact ⟨by decide, rfl, rfl⟩) (by decide) lk_1023 (va_Nw.use rfl hc.2.2.2.a9) hce hcv hcl ?_
    refine lv_astore (lv' := [(4, .ref q), (0, .ref (Z.1 + 0)), (1, .int x1), (2, .int x2), (3, .ref (Z.1 + 674))]) hx hb (dq tk_L_tried_0 9 rfl) hl (by decide) rfl (fun ls hl => ?_)
    refine lv_iconst (v := 1) hx hb (dq tk_L_tried_0 10 rfl) (by decide) ?_
    exact x_iret hc hw hr (dq tk_L_tried_0 11 rfl)
  · cases hr1
theorem KL_tried_n (hst0 : l.stackTraces = false) {cc : ByteArray} {own : String} {nL pc idx : Nat} {ls : Array Slot} {rest : List Value} {N : Nat} {x1 : Int32} {x2 : Int32} (hc : Cxz p s m meth c args cc own nL Z) (hw : Wd Z (cmb σ μ) s H locs) (hl : Cond.methodLink own idx y_L_tried ∈ TB) (hf : fX_tried N x1 x2 σ = some none) (hR : RO R (8 + 1)) (hcs : cells + 3 ≤ R.cells ∧ slots + 18 ≤ R.slots) (hls : ls.size = nL) (hst : (rest.map fun v => v.category).sum ≤ 8) (hdg : decode cc pc = .ok (.invokestatic idx, 3)) (kk : ∀ (H1 : Heap) (locs1 : List Loc), Wd Z (cmb σ μ) s H1 locs1 → W p l e R s m args below meth c H1 locs1 (cells + 3) (slots + 18) Q (F0 m (pc + 3) ls (.int 1 :: rest))) : W p l e R s m args below meth c H locs cells slots Q (F0 m pc ls (.ref (Z.1 + 674) :: .int x2 :: .int x1 :: .ref (Z.1 + 0) :: rest)) :=
  l_is hc hw (cl_tried_n hst0 hf) yw_L_tried hl (RO.call hR (by decide)) hcs rfl hls hst hdg rfl kk
theorem cl_tried_s (hst : l.stackTraces = false) {N : Nat} {x1 : Int32} {x2 : Int32} {r : Int32} (hf : fX_tried N x1 x2 σ = some (some r)) : Clz l Z y_L_tried method_27_code 5 hh_L_tried { frames := 8, cells := 3, slots := 18, locals := 480 } [.ref (Z.1 + 0), .int x1, .int x2, .ref (Z.1 + 674)] (cmb σ μ) 0 (cmb (sJ σ 164 0 0 0 r.toInt64) μ) := by
  refine l_met (by decide) (Nat.le_of_ble_eq_true rfl) (fun p e s m args below meth c ls hc htb hr hw hl => ?_)
  have hx := hc.hx
  have hb := hc.hb
  refine lv_aload_n hx hb (dq tk_L_tried_0 0 rfl) rfl (lv_at hl 3 rfl) ?_
  refine lv_iconst (v := 0) hx hb (dq tk_L_tried_0 1 rfl) (by decide) ?_
  refine lv_aload_n hx hb (dq tk_L_tried_0 2 rfl) rfl (lv_at hl 0 rfl) ?_
  refine lv_iload_n hx hb (dq tk_L_tried_0 3 rfl) rfl (lv_at hl 1 rfl) ?_
  refine lv_iload_n hx hb (dq tk_L_tried_0 4 rfl) rfl (lv_at hl 2 rfl) ?_
  refine KZ_X_tried hst hc hw lk_1590 hf ⟨Nat.le_of_ble_eq_true rfl, Nat.le_of_ble_eq_true rfl⟩ ⟨Nat.le_of_ble_eq_true rfl, Nat.le_of_ble_eq_true rfl⟩ hl.1 (Nat.le_of_ble_eq_true rfl) (dq tk_L_tried_0 5 rfl) (fun hn ce q H locs hw hce hcv hcl => ?_) (fun r1 hr1 H locs hw => ?_)
  · cases hn
  · cases hr1
    refine lv_i2l hx hb (dq tk_L_tried_0 6 rfl) rfl ?_
    refine l_last hc hw (dq tk_L_tried_0 7 rfl) (fun H locs hw => ?_)
    refine lv_goto (tgt := 17) hx hb (dq tk_L_tried_0 8 rfl) (by decide) ?_
    refine lv_iconst (v := 0) hx hb (dq tk_L_tried_0 12 rfl) (by decide) ?_
    exact x_iret hc hw hr (dq tk_L_tried_0 13 rfl)
theorem KL_tried_s (hst0 : l.stackTraces = false) {cc : ByteArray} {own : String} {nL pc idx : Nat} {ls : Array Slot} {rest : List Value} {N : Nat} {x1 : Int32} {x2 : Int32} {r : Int32} (hc : Cxz p s m meth c args cc own nL Z) (hw : Wd Z (cmb σ μ) s H locs) (hl : Cond.methodLink own idx y_L_tried ∈ TB) (hf : fX_tried N x1 x2 σ = some (some r)) (hR : RO R (8 + 1)) (hcs : cells + 3 ≤ R.cells ∧ slots + 18 ≤ R.slots) (hls : ls.size = nL) (hst : (rest.map fun v => v.category).sum ≤ 8) (hdg : decode cc pc = .ok (.invokestatic idx, 3)) (kk : ∀ (H1 : Heap) (locs1 : List Loc), Wd Z (cmb (sJ σ 164 0 0 0 r.toInt64) μ) s H1 locs1 → W p l e R s m args below meth c H1 locs1 (cells + 3) (slots + 18) Q (F0 m (pc + 3) ls (.int 0 :: rest))) : W p l e R s m args below meth c H locs cells slots Q (F0 m pc ls (.ref (Z.1 + 674) :: .int x2 :: .int x1 :: .ref (Z.1 + 0) :: rest)) :=
  l_is hc hw (cl_tried_s hst0 hf) yw_L_tried hl (RO.call hR (by decide)) hcs rfl hls hst hdg rfl kk
theorem cl_count_n (hst : l.stackTraces = false) {N : Nat} {x1 : Int32} (hf : fX_count N x1 σ = some none) : Clz l Z y_L_count method_28_code 4 hh_L_count { frames := 7, cells := 1, slots := 6, locals := 420 } [.ref (Z.1 + 0), .int x1, .ref (Z.1 + 674)] (cmb σ μ) 1 (cmb σ μ) := by
  refine l_met (by decide) (Nat.le_of_ble_eq_true rfl) (fun p e s m args below meth c ls hc htb hr hw hl => ?_)
  have hx := hc.hx
  have hb := hc.hb
  refine lv_aload_n hx hb (dq tk_L_count_0 0 rfl) rfl (lv_at hl 2 rfl) ?_
  refine lv_iconst (v := 0) hx hb (dq tk_L_count_0 1 rfl) (by decide) ?_
  refine lv_aload_n hx hb (dq tk_L_count_0 2 rfl) rfl (lv_at hl 0 rfl) ?_
  refine lv_iload_n hx hb (dq tk_L_count_0 3 rfl) rfl (lv_at hl 1 rfl) ?_
  refine KZ_X_count hst hc hw lk_1597 hf ⟨Nat.le_of_ble_eq_true rfl, Nat.le_of_ble_eq_true rfl⟩ ⟨Nat.le_of_ble_eq_true rfl, Nat.le_of_ble_eq_true rfl⟩ hl.1 (Nat.le_of_ble_eq_true rfl) (dq tk_L_count_0 4 rfl) (fun hn ce q H locs hw hce hcv hcl => ?_) (fun r1 hr1 H locs hw => ?_)
  · refine l_catch hc htb (by intro x hx; cases hx; exact ⟨by decide, rfl, rfl⟩) (by decide) lk_1023 (va_Nw.use rfl hc.2.2.2.a9) hce hcv hcl ?_
    refine lv_astore_n (lv' := [(3, .ref q), (0, .ref (Z.1 + 0)), (1, .int x1), (2, .ref (Z.1 + 674))]) hx hb (dq tk_L_count_0 8 rfl) rfl hl (by decide) rfl (fun ls hl => ?_)
    refine lv_iconst (v := 1) hx hb (dq tk_L_count_0 9 rfl) (by decide) ?_
    exact x_iret hc hw hr (dq tk_L_count_0 10 rfl)
  · cases hr1
theorem KL_count_n (hst0 : l.stackTraces = false) {cc : ByteArray} {own : String} {nL pc idx : Nat} {ls : Array Slot} {rest : List Value} {N : Nat} {x1 : Int32} (hc : Cxz p s m meth c args cc own nL Z) (hw : Wd Z (cmb σ μ) s H locs) (hl : Cond.methodLink own idx y_L_count ∈ TB) (hf : fX_count N x1 σ = some none) (hR : RO R (7 + 1)) (hcs : cells + 1 ≤ R.cells ∧ slots + 6 ≤ R.slots) (hls : ls.size = nL) (hst : (rest.map fun v => v.category).sum ≤ 8) (hdg : decode cc pc = .ok (.invokestatic idx, 3)) (kk : ∀ (H1 : Heap) (locs1 : List Loc), Wd Z (cmb σ μ) s H1 locs1 → W p l e R s m args below meth c H1 locs1 (cells + 1) (slots + 6) Q (F0 m (pc + 3) ls (.int 1 :: rest))) : W p l e R s m args below meth c H locs cells slots Q (F0 m pc ls (.ref (Z.1 + 674) :: .int x1 :: .ref (Z.1 + 0) :: rest)) :=
  l_is hc hw (cl_count_n hst0 hf) yw_L_count hl (RO.call hR (by decide)) hcs rfl hls hst hdg rfl kk
theorem cl_count_s (hst : l.stackTraces = false) {N : Nat} {x1 : Int32} {r : Int32} (hf : fX_count N x1 σ = some (some r)) : Clz l Z y_L_count method_28_code 4 hh_L_count { frames := 7, cells := 1, slots := 6, locals := 420 } [.ref (Z.1 + 0), .int x1, .ref (Z.1 + 674)] (cmb σ μ) 0 (cmb (sJ σ 164 0 0 0 r.toInt64) μ) := by
  refine l_met (by decide) (Nat.le_of_ble_eq_true rfl) (fun p e s m args below meth c ls hc htb hr hw hl => ?_)
  have hx := hc.hx
  have hb := hc.hb
  refine lv_aload_n hx hb (dq tk_L_count_0 0 rfl) rfl (lv_at hl 2 rfl) ?_
  refine lv_iconst (v := 0) hx hb (dq tk_L_count_0 1 rfl) (by decide) ?_
  refine lv_aload_n hx hb (dq tk_L_count_0 2 rfl) rfl (lv_at hl 0 rfl) ?_
  refine lv_iload_n hx hb (dq tk_L_count_0 3 rfl) rfl (lv_at hl 1 rfl) ?_
  refine KZ_X_count hst hc hw lk_1597 hf ⟨Nat.le_of_ble_eq_true rfl, Nat.le_of_ble_eq_true rfl⟩ ⟨Nat.le_of_ble_eq_true rfl, Nat.le_of_ble_eq_true rfl⟩ hl.1 (Nat.le_of_ble_eq_true rfl) (dq tk_L_count_0 4 rfl) (fun hn ce q H locs hw hce hcv hcl => ?_) (fun r1 hr1 H locs hw => ?_)
  · cases hn
  · cases hr1
    refine lv_i2l hx hb (dq tk_L_count_0 5 rfl) rfl ?_
    refine l_last hc hw (dq tk_L_count_0 6 rfl) (fun H locs hw => ?_)
    refine lv_goto (tgt := 15) hx hb (dq tk_L_count_0 7 rfl) (by decide) ?_
    refine lv_iconst (v := 0) hx hb (dq tk_L_count_0 11 rfl) (by decide) ?_
    exact x_iret hc hw hr (dq tk_L_count_0 12 rfl)
theorem KL_count_s (hst0 : l.stackTraces = false) {cc : ByteArray} {own : String} {nL pc idx : Nat} {ls : Array Slot} {rest : List Value} {N : Nat} {x1 : Int32} {r : Int32} (hc : Cxz p s m meth c args cc own nL Z) (hw : Wd Z (cmb σ μ) s H locs) (hl : Cond.methodLink own idx y_L_count ∈ TB) (hf : fX_count N x1 σ = some (some r)) (hR : RO R (7 + 1)) (hcs : cells + 1 ≤ R.cells ∧ slots + 6 ≤ R.slots) (hls : ls.size = nL) (hst : (rest.map fun v => v.category).sum ≤ 8) (hdg : decode cc pc = .ok (.invokestatic idx, 3)) (kk : ∀ (H1 : Heap) (locs1 : List Loc), Wd Z (cmb (sJ σ 164 0 0 0 r.toInt64) μ) s H1 locs1 → W p l e R s m args below meth c H1 locs1 (cells + 1) (slots + 6) Q (F0 m (pc + 3) ls (.int 0 :: rest))) : W p l e R s m args below meth c H locs cells slots Q (F0 m pc ls (.ref (Z.1 + 674) :: .int x1 :: .ref (Z.1 + 0) :: rest)) :=
  l_is hc hw (cl_count_s hst0 hf) yw_L_count hl (RO.call hR (by decide)) hcs rfl hls hst hdg rfl kk
end LHELP
