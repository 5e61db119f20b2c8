section WALK
variable {p : Program} {l : Launch} {e : Env} {R : Room} {s : State} {m : MethodId} {args : Array Value} {below : List Frame} {meth : Method} {c : Code} {H : Heap} {locs : List Loc} {cells slots : Nat} {Q : State → Prop}
variable {cc : ByteArray} {own : String} {nL : Nat} {Z : ZT} {σ μ ν τ : St} {pc : Nat} {ls : Array Slot} {rest : List Value}
set_option maxRecDepth 10000 in
theorem w_Reader_clear {N : Nat} (hc : Cxz p s m meth c args prog_10_method_3_code "LabourExchange$Reader" 1 Z) (hr : meth.sig.returnType = none) (hR : RO R 0) {σ' : St} : ∀ {σ : St} {H : Heap} {locs : List Loc} {ls : Array Slot}, Wd Z (cmb σ μ) s H locs → lv_has ls 1 [(0, .ref (Z.1 + 1))] → fReader_clear N σ = some σ' → W p l e R s m args below meth c H locs 0 0 (MQ below (Qr Z none True (cmb σ' μ)) args s 0 0 (fun q => Z.1 ≤ q)) (F0 m 0 ls []) := by
  have hx := hc.hx
  have hb := hc.hb
  intro σ H locs ls hw hl hf
  unfold fReader_clear at hf
  refine lv_aload_n hx hb (dq tk_Reader_clear 0 rfl) rfl (lv_at hl 0 rfl) ?_
  refine lv_iconst (v := 0) hx hb (dq tk_Reader_clear 1 rfl) (by decide) ?_
  obtain ⟨σ1, hσ1, hf⟩ := nm_some hf
  refine P_Reader_size hc hw wd_42 hσ1 (dq tk_Reader_clear 2 rfl) (fun H locs hw => ?_)
  cases hf
  exact x_vret hc hw hr (dq tk_Reader_clear 3 rfl)
theorem c_Reader_clear {N : Nat}  {σ' : St} {σ : St} (hf : fReader_clear N σ = some σ') : Ct l Z y_Reader_clear prog_10_method_3_code 1 none (rmo (0)) [.ref (Z.1 + 1)] (cmb σ μ) none True (cmb σ' μ) := by
  refine x_met (by decide) (Nat.le_of_ble_eq_true rfl) (fun p e s m args below meth c ls hc hr hw hl => ?_)
  exact w_Reader_clear hc hr RO.self hw hl hf
theorem K_Reader_clear {idx : Nat} {N : Nat}  {σ' : St} {σ : St} (hc : Cxz p s m meth c args cc own nL Z) (hw : Wd Z (cmb σ μ) s H locs) (hl : Cond.methodLink own idx y_Reader_clear ∈ TB) (hf : fReader_clear N σ = some σ') (hR : RO R ((0) + 1)) (hcs : cells ≤ R.cells ∧ slots ≤ R.slots) (hls : ls.size = nL) (hst : (rest.map fun v => v.category).sum ≤ 8) (hdg : decode cc pc = .ok (.invokevirtual idx, 3)) (kk : ∀ (H1 : Heap) (locs1 : List Loc), Wd Z (cmb σ' μ) s H1 locs1 → True → W p l e R s m args below meth c H1 locs1 cells slots Q (F0 m (pc + 3) ls rest)) : W p l e R s m args below meth c H locs cells slots Q (F0 m pc ls (.ref (Z.1 + 1) :: rest)) :=
  x_iv hc hw (c_Reader_clear hf) yv_Reader_clear (Nat.le_of_ble_eq_true rfl) rfl rfl hl (RO.call hR (by decide)) hcs rfl hls hst hdg rfl kk
set_option maxRecDepth 10000 in
theorem w_Act_begin {N : Nat} {ka : Nat} (hc : Cxz p s m meth c args prog_2_method_2_code "LabourExchange$Act" 1 Z) (hr : meth.sig.returnType = none) (hR : RO R 1) (hka : ka < 17) {σ' : St} : ∀ {σ : St} {H : Heap} {locs : List Loc} {ls : Array Slot}, Wd Z (cmb σ μ) s H locs → lv_has ls 1 [(0, .ref (Z.1 + (90 + 6 * ka)))] → fAct_begin N ka σ = some σ' → W p l e R s m args below meth c H locs 0 0 (MQ below (Qr Z none True (cmb σ' μ)) args s 0 0 (fun q => Z.1 ≤ q)) (F0 m 0 ls []) := by
  have hx := hc.hx
  have hb := hc.hb
  intro σ H locs ls hw hl hf
  unfold fAct_begin at hf
  refine lv_aload_n hx hb (dq tk_Act_begin 0 rfl) rfl (lv_at hl 0 rfl) ?_
  refine lv_iconst (v := 0) hx hb (dq tk_Act_begin 1 rfl) (by decide) ?_
  obtain ⟨σ1, hσ1, hf⟩ := nm_some hf
  refine P_Act_length hka hc hw wd_416 hσ1 (dq tk_Act_begin 2 rfl) (fun H locs hw => ?_)
  refine lv_aload_n hx hb (dq tk_Act_begin 3 rfl) rfl (lv_at hl 0 rfl) ?_
  refine G_Act_params hka hc hw wd_418 (dq tk_Act_begin 4 rfl) ?_
  refine lv_iconst (v := (-1)) hx hb (dq tk_Act_begin 5 rfl) (by decide) ?_
  obtain ⟨σ2, h6, hf⟩ := bn1_someZ hf
  refine K_Arrays_fill_Act_params hc hw hka wd_1181 h6 (hR.mono (by decide)) ⟨Nat.zero_le _, Nat.zero_le _⟩ hl.1 (Nat.le_of_ble_eq_true rfl) (dq tk_Act_begin 6 rfl) (fun H locs hw _ => ?_)
  refine lv_aload_n hx hb (dq tk_Act_begin 7 rfl) rfl (lv_at hl 0 rfl) ?_
  refine lv_iconst (v := 0) hx hb (dq tk_Act_begin 8 rfl) (by decide) ?_
  obtain ⟨σ3, hσ3, hf⟩ := nm_some hf
  refine P_Act_insured hka hc hw wd_421 hσ3 (dq tk_Act_begin 9 rfl) (fun H locs hw => ?_)
  refine lv_aload_n hx hb (dq tk_Act_begin 10 rfl) rfl (lv_at hl 0 rfl) ?_
  refine lv_iconst (v := (-1)) hx hb (dq tk_Act_begin 11 rfl) (by decide) ?_
  obtain ⟨σ4, hσ4, hf⟩ := nm_some hf
  refine P_Act_pay hka hc hw wd_424 hσ4 (dq tk_Act_begin 12 rfl) (fun H locs hw => ?_)
  refine lv_aload_n hx hb (dq tk_Act_begin 13 rfl) rfl (lv_at hl 0 rfl) ?_
  refine lv_iconst (v := (-1)) hx hb (dq tk_Act_begin 14 rfl) (by decide) ?_
  obtain ⟨σ5, hσ5, hf⟩ := nm_some hf
  refine P_Act_needy hka hc hw wd_427 hσ5 (dq tk_Act_begin 15 rfl) (fun H locs hw => ?_)
  refine lv_aload_n hx hb (dq tk_Act_begin 16 rfl) rfl (lv_at hl 0 rfl) ?_
  refine lv_iconst (v := (-1)) hx hb (dq tk_Act_begin 17 rfl) (by decide) ?_
  obtain ⟨σ6, hσ6, hf⟩ := nm_some hf
  refine P_Act_bar hka hc hw wd_430 hσ6 (dq tk_Act_begin 18 rfl) (fun H locs hw => ?_)
  refine lv_aload_n hx hb (dq tk_Act_begin 19 rfl) rfl (lv_at hl 0 rfl) ?_
  refine lv_iconst (v := 0) hx hb (dq tk_Act_begin 20 rfl) (by decide) ?_
  obtain ⟨σ7, hσ7, hf⟩ := nm_some hf
  refine P_Act_suitCount hka hc hw wd_435 hσ7 (dq tk_Act_begin 21 rfl) (fun H locs hw => ?_)
  refine lv_aload_n hx hb (dq tk_Act_begin 22 rfl) rfl (lv_at hl 0 rfl) ?_
  refine lv_iconst (v := 0) hx hb (dq tk_Act_begin 23 rfl) (by decide) ?_
  obtain ⟨σ8, hσ8, hf⟩ := nm_some hf
  refine P_Act_likeCount hka hc hw wd_441 hσ8 (dq tk_Act_begin 24 rfl) (fun H locs hw => ?_)
  cases hf
  exact x_vret hc hw hr (dq tk_Act_begin 25 rfl)
theorem c_Act_begin {N : Nat} {ka : Nat}  {σ' : St} {σ : St} (hka : ka < 17) (hf : fAct_begin N ka σ = some σ') : Ct l Z y_Act_begin prog_2_method_2_code 1 none (rmo (1)) [.ref (Z.1 + (90 + 6 * ka))] (cmb σ μ) none True (cmb σ' μ) := by
  refine x_met (by decide) (Nat.le_of_ble_eq_true rfl) (fun p e s m args below meth c ls hc hr hw hl => ?_)
  exact w_Act_begin hc hr RO.self hka hw hl hf
theorem K_Act_begin {idx : Nat} {N : Nat} {ka : Nat}  {σ' : St} {σ : St} (hc : Cxz p s m meth c args cc own nL Z) (hw : Wd Z (cmb σ μ) s H locs) (hka : ka < 17) (hl : Cond.methodLink own idx y_Act_begin ∈ TB) (hf : fAct_begin N ka σ = some σ') (hR : RO R ((1) + 1)) (hcs : cells ≤ R.cells ∧ slots ≤ R.slots) (hls : ls.size = nL) (hst : (rest.map fun v => v.category).sum ≤ 8) (hdg : decode cc pc = .ok (.invokevirtual idx, 3)) (kk : ∀ (H1 : Heap) (locs1 : List Loc), Wd Z (cmb σ' μ) s H1 locs1 → True → W p l e R s m args below meth c H1 locs1 cells slots Q (F0 m (pc + 3) ls rest)) : W p l e R s m args below meth c H locs cells slots Q (F0 m pc ls (.ref (Z.1 + (90 + 6 * ka)) :: rest)) :=
  x_iv hc hw (c_Act_begin hka hf) yv_Act_begin (wd_act (r := 0) hka (by decide) (by omega)).1 (wd_act (r := 0) hka (by decide) (by omega)).2 rfl hl (RO.call hR (by decide)) hcs rfl hls hst hdg rfl kk
set_option maxRecDepth 10000 in
theorem w_Reader_isLetter {N : Nat} (hc : Cxz p s m meth c args prog_10_method_27_code "LabourExchange$Reader" 1 Z) (hr : meth.sig.returnType = (some .boolean)) (hR : RO R 0) {rv : Int32} {σ : St} : ∀ {x0 : Int32} {H : Heap} {locs : List Loc} {ls : Array Slot}, Wd Z (cmb σ μ) s H locs → lv_has ls 1 [(0, .int x0)] → fReader_isLetter N x0 σ = some rv → W p l e R s m args below meth c H locs 0 0 (MQ below (Qr Z (some (.int rv)) True (cmb σ μ)) args s 0 0 (fun q => Z.1 ≤ q)) (F0 m 0 ls []) := by
  have hx := hc.hx
  have hb := hc.hb
  intro x0 H locs ls hw hl hf
  unfold fReader_isLetter at hf
  refine lv_iload_n hx hb (dq tk_Reader_isLetter 0 rfl) rfl (lv_at hl 0 rfl) ?_
  refine lv_bipush (v := 97) hx hb (dq tk_Reader_isLetter 1 rfl) (by decide) ?_
  refine lv_icmp_lt (tgt := 16) hx hb (dq tk_Reader_isLetter 2 rfl) (by decide) (fun c1 => ?_) (fun c1 => ?_)
  · replace hf := if_t hf c1
    refine lv_iconst (v := 0) hx hb (dq tk_Reader_isLetter 8 rfl) (by decide) ?_
    cases hf
    exact x_zret hc hw hr (by decide) (dq tk_Reader_isLetter 9 rfl)
  · replace hf := if_f hf c1
    refine lv_iload_n hx hb (dq tk_Reader_isLetter 3 rfl) rfl (lv_at hl 0 rfl) ?_
    refine lv_bipush (v := 122) hx hb (dq tk_Reader_isLetter 4 rfl) (by decide) ?_
    refine lv_icmp_gt (tgt := 16) hx hb (dq tk_Reader_isLetter 5 rfl) (by decide) (fun c2 => ?_) (fun c2 => ?_)
    · replace hf := if_t hf c2
      refine lv_iconst (v := 0) hx hb (dq tk_Reader_isLetter 8 rfl) (by decide) ?_
      cases hf
      exact x_zret hc hw hr (by decide) (dq tk_Reader_isLetter 9 rfl)
    · replace hf := if_f hf c2
      refine lv_iconst (v := 1) hx hb (dq tk_Reader_isLetter 6 rfl) (by decide) ?_
      refine lv_goto (tgt := 17) hx hb (dq tk_Reader_isLetter 7 rfl) (by decide) ?_
      cases hf
      exact x_zret hc hw hr (by decide) (dq tk_Reader_isLetter 9 rfl)
theorem c_Reader_isLetter {N : Nat}  {x0 : Int32} {rv : Int32} {σ : St} (hf : fReader_isLetter N x0 σ = some rv) : Ct l Z y_Reader_isLetter prog_10_method_27_code 1 (some .boolean) (rmo (0)) [.int x0] (cmb σ μ) (some (.int rv)) True (cmb σ μ) := by
  refine x_met (by decide) (Nat.le_of_ble_eq_true rfl) (fun p e s m args below meth c ls hc hr hw hl => ?_)
  exact w_Reader_isLetter hc hr RO.self hw hl hf
theorem K_Reader_isLetter {idx : Nat} {N : Nat}  {x0 : Int32} {rv : Int32} {σ : St} (hc : Cxz p s m meth c args cc own nL Z) (hw : Wd Z (cmb σ μ) s H locs) (hl : Cond.methodLink own idx y_Reader_isLetter ∈ TB) (hf : fReader_isLetter N x0 σ = some rv) (hR : RO R ((0) + 1)) (hcs : cells ≤ R.cells ∧ slots ≤ R.slots) (hls : ls.size = nL) (hst : (rest.map fun v => v.category).sum ≤ 8) (hdg : decode cc pc = .ok (.invokestatic idx, 3)) (kk : ∀ (H1 : Heap) (locs1 : List Loc), Wd Z (cmb σ μ) s H1 locs1 → True → W p l e R s m args below meth c H1 locs1 cells slots Q (F0 m (pc + 3) ls (.int rv :: rest))) : W p l e R s m args below meth c H locs cells slots Q (F0 m pc ls (.int x0 :: rest)) :=
  x_is hc hw (c_Reader_isLetter hf) ys_Reader_isLetter hl (RO.call hR (by decide)) hcs rfl hls hst hdg rfl kk
set_option maxRecDepth 10000 in
theorem w_Reader_isDigit {N : Nat} (hc : Cxz p s m meth c args prog_10_method_28_code "LabourExchange$Reader" 1 Z) (hr : meth.sig.returnType = (some .boolean)) (hR : RO R 0) {rv : Int32} {σ : St} : ∀ {x0 : Int32} {H : Heap} {locs : List Loc} {ls : Array Slot}, Wd Z (cmb σ μ) s H locs → lv_has ls 1 [(0, .int x0)] → fReader_isDigit N x0 σ = some rv → W p l e R s m args below meth c H locs 0 0 (MQ below (Qr Z (some (.int rv)) True (cmb σ μ)) args s 0 0 (fun q => Z.1 ≤ q)) (F0 m 0 ls []) := by
  have hx := hc.hx
  have hb := hc.hb
  intro x0 H locs ls hw hl hf
  unfold fReader_isDigit at hf
  refine lv_iload_n hx hb (dq tk_Reader_isDigit 0 rfl) rfl (lv_at hl 0 rfl) ?_
  refine lv_bipush (v := 48) hx hb (dq tk_Reader_isDigit 1 rfl) (by decide) ?_
  refine lv_icmp_lt (tgt := 16) hx hb (dq tk_Reader_isDigit 2 rfl) (by decide) (fun c1 => ?_) (fun c1 => ?_)
  · replace hf := if_t hf c1
    refine lv_iconst (v := 0) hx hb (dq tk_Reader_isDigit 8 rfl) (by decide) ?_
    cases hf
    exact x_zret hc hw hr (by decide) (dq tk_Reader_isDigit 9 rfl)
  · replace hf := if_f hf c1
    refine lv_iload_n hx hb (dq tk_Reader_isDigit 3 rfl) rfl (lv_at hl 0 rfl) ?_
    refine lv_bipush (v := 57) hx hb (dq tk_Reader_isDigit 4 rfl) (by decide) ?_
    refine lv_icmp_gt (tgt := 16) hx hb (dq tk_Reader_isDigit 5 rfl) (by decide) (fun c2 => ?_) (fun c2 => ?_)
    · replace hf := if_t hf c2
      refine lv_iconst (v := 0) hx hb (dq tk_Reader_isDigit 8 rfl) (by decide) ?_
      cases hf
      exact x_zret hc hw hr (by decide) (dq tk_Reader_isDigit 9 rfl)
    · replace hf := if_f hf c2
      refine lv_iconst (v := 1) hx hb (dq tk_Reader_isDigit 6 rfl) (by decide) ?_
      refine lv_goto (tgt := 17) hx hb (dq tk_Reader_isDigit 7 rfl) (by decide) ?_
      cases hf
      exact x_zret hc hw hr (by decide) (dq tk_Reader_isDigit 9 rfl)
theorem c_Reader_isDigit {N : Nat}  {x0 : Int32} {rv : Int32} {σ : St} (hf : fReader_isDigit N x0 σ = some rv) : Ct l Z y_Reader_isDigit prog_10_method_28_code 1 (some .boolean) (rmo (0)) [.int x0] (cmb σ μ) (some (.int rv)) True (cmb σ μ) := by
  refine x_met (by decide) (Nat.le_of_ble_eq_true rfl) (fun p e s m args below meth c ls hc hr hw hl => ?_)
  exact w_Reader_isDigit hc hr RO.self hw hl hf
theorem K_Reader_isDigit {idx : Nat} {N : Nat}  {x0 : Int32} {rv : Int32} {σ : St} (hc : Cxz p s m meth c args cc own nL Z) (hw : Wd Z (cmb σ μ) s H locs) (hl : Cond.methodLink own idx y_Reader_isDigit ∈ TB) (hf : fReader_isDigit N x0 σ = some rv) (hR : RO R ((0) + 1)) (hcs : cells ≤ R.cells ∧ slots ≤ R.slots) (hls : ls.size = nL) (hst : (rest.map fun v => v.category).sum ≤ 8) (hdg : decode cc pc = .ok (.invokestatic idx, 3)) (kk : ∀ (H1 : Heap) (locs1 : List Loc), Wd Z (cmb σ μ) s H1 locs1 → True → W p l e R s m args below meth c H1 locs1 cells slots Q (F0 m (pc + 3) ls (.int rv :: rest))) : W p l e R s m args below meth c H locs cells slots Q (F0 m pc ls (.int x0 :: rest)) :=
  x_is hc hw (c_Reader_isDigit hf) ys_Reader_isDigit hl (RO.call hR (by decide)) hcs rfl hls hst hdg rfl kk
set_option maxRecDepth 10000 in
theorem w_Reader_isSignByte {N : Nat} (hc : Cxz p s m meth c args prog_10_method_29_code "LabourExchange$Reader" 1 Z) (hr : meth.sig.returnType = (some .boolean)) (hR : RO R 0) {rv : Int32} {σ : St} : ∀ {x0 : Int32} {H : Heap} {locs : List Loc} {ls : Array Slot}, Wd Z (cmb σ μ) s H locs → lv_has ls 1 [(0, .int x0)] → fReader_isSignByte N x0 σ = some rv → W p l e R s m args below meth c H locs 0 0 (MQ below (Qr Z (some (.int rv)) True (cmb σ μ)) args s 0 0 (fun q => Z.1 ≤ q)) (F0 m 0 ls []) := by
  have hx := hc.hx
  have hb := hc.hb
  intro x0 H locs ls hw hl hf
  unfold fReader_isSignByte at hf
  refine lv_iload_n hx hb (dq tk_Reader_isSignByte 0 rfl) rfl (lv_at hl 0 rfl) ?_
  by_cases c1_0 : x0 = 40
  · replace hf := if_t hf c1_0
    refine lv_tableIn (tgt := 104) hx hb (dq tk_Reader_isSignByte 1 rfl) (by rw [c1_0]; decide) (by rw [c1_0]; decide) (by rw [c1_0]; first | done | rfl) (by decide) ?_
    refine lv_iconst (v := 1) hx hb (dq tk_Reader_isSignByte 2 rfl) (by decide) ?_
    cases hf
    exact x_zret hc hw hr (by decide) (dq tk_Reader_isSignByte 3 rfl)
  replace hf := if_f hf c1_0
  by_cases c1_1 : x0 = 41
  · replace hf := if_t hf c1_1
    refine lv_tableIn (tgt := 104) hx hb (dq tk_Reader_isSignByte 1 rfl) (by rw [c1_1]; decide) (by rw [c1_1]; decide) (by rw [c1_1]; first | done | rfl) (by decide) ?_
    refine lv_iconst (v := 1) hx hb (dq tk_Reader_isSignByte 2 rfl) (by decide) ?_
    cases hf
    exact x_zret hc hw hr (by decide) (dq tk_Reader_isSignByte 3 rfl)
  replace hf := if_f hf c1_1
  by_cases c1_2 : x0 = 42
  · replace hf := if_t hf c1_2
    refine lv_tableIn (tgt := 104) hx hb (dq tk_Reader_isSignByte 1 rfl) (by rw [c1_2]; decide) (by rw [c1_2]; decide) (by rw [c1_2]; first | done | rfl) (by decide) ?_
    refine lv_iconst (v := 1) hx hb (dq tk_Reader_isSignByte 2 rfl) (by decide) ?_
    cases hf
    exact x_zret hc hw hr (by decide) (dq tk_Reader_isSignByte 3 rfl)
  replace hf := if_f hf c1_2
  by_cases c1_3 : x0 = 43
  · replace hf := if_t hf c1_3
    refine lv_tableIn (tgt := 104) hx hb (dq tk_Reader_isSignByte 1 rfl) (by rw [c1_3]; decide) (by rw [c1_3]; decide) (by rw [c1_3]; first | done | rfl) (by decide) ?_
    refine lv_iconst (v := 1) hx hb (dq tk_Reader_isSignByte 2 rfl) (by decide) ?_
    cases hf
    exact x_zret hc hw hr (by decide) (dq tk_Reader_isSignByte 3 rfl)
  replace hf := if_f hf c1_3
  by_cases c1_4 : x0 = 44
  · replace hf := if_t hf c1_4
    refine lv_tableIn (tgt := 104) hx hb (dq tk_Reader_isSignByte 1 rfl) (by rw [c1_4]; decide) (by rw [c1_4]; decide) (by rw [c1_4]; first | done | rfl) (by decide) ?_
    refine lv_iconst (v := 1) hx hb (dq tk_Reader_isSignByte 2 rfl) (by decide) ?_
    cases hf
    exact x_zret hc hw hr (by decide) (dq tk_Reader_isSignByte 3 rfl)
  replace hf := if_f hf c1_4
  by_cases c1_5 : x0 = 45
  · replace hf := if_t hf c1_5
    refine lv_tableIn (tgt := 104) hx hb (dq tk_Reader_isSignByte 1 rfl) (by rw [c1_5]; decide) (by rw [c1_5]; decide) (by rw [c1_5]; first | done | rfl) (by decide) ?_
    refine lv_iconst (v := 1) hx hb (dq tk_Reader_isSignByte 2 rfl) (by decide) ?_
    cases hf
    exact x_zret hc hw hr (by decide) (dq tk_Reader_isSignByte 3 rfl)
  replace hf := if_f hf c1_5
  by_cases c1_6 : x0 = 46
  · replace hf := if_t hf c1_6
    refine lv_tableIn (tgt := 106) hx hb (dq tk_Reader_isSignByte 1 rfl) (by rw [c1_6]; decide) (by rw [c1_6]; decide) (by rw [c1_6]; first | done | rfl) (by decide) ?_
    refine lv_iconst (v := 0) hx hb (dq tk_Reader_isSignByte 4 rfl) (by decide) ?_
    cases hf
    exact x_zret hc hw hr (by decide) (dq tk_Reader_isSignByte 5 rfl)
  replace hf := if_f hf c1_6
  by_cases c1_7 : x0 = 47
  · replace hf := if_t hf c1_7
    refine lv_tableIn (tgt := 104) hx hb (dq tk_Reader_isSignByte 1 rfl) (by rw [c1_7]; decide) (by rw [c1_7]; decide) (by rw [c1_7]; first | done | rfl) (by decide) ?_
    refine lv_iconst (v := 1) hx hb (dq tk_Reader_isSignByte 2 rfl) (by decide) ?_
    cases hf
    exact x_zret hc hw hr (by decide) (dq tk_Reader_isSignByte 3 rfl)
  replace hf := if_f hf c1_7
  by_cases c1_8 : x0 = 48
  · replace hf := if_t hf c1_8
    refine lv_tableIn (tgt := 106) hx hb (dq tk_Reader_isSignByte 1 rfl) (by rw [c1_8]; decide) (by rw [c1_8]; decide) (by rw [c1_8]; first | done | rfl) (by decide) ?_
    refine lv_iconst (v := 0) hx hb (dq tk_Reader_isSignByte 4 rfl) (by decide) ?_
    cases hf
    exact x_zret hc hw hr (by decide) (dq tk_Reader_isSignByte 5 rfl)
  replace hf := if_f hf c1_8
  by_cases c1_9 : x0 = 49
  · replace hf := if_t hf c1_9
    refine lv_tableIn (tgt := 106) hx hb (dq tk_Reader_isSignByte 1 rfl) (by rw [c1_9]; decide) (by rw [c1_9]; decide) (by rw [c1_9]; first | done | rfl) (by decide) ?_
    refine lv_iconst (v := 0) hx hb (dq tk_Reader_isSignByte 4 rfl) (by decide) ?_
    cases hf
    exact x_zret hc hw hr (by decide) (dq tk_Reader_isSignByte 5 rfl)
  replace hf := if_f hf c1_9
  by_cases c1_10 : x0 = 50
  · replace hf := if_t hf c1_10
    refine lv_tableIn (tgt := 106) hx hb (dq tk_Reader_isSignByte 1 rfl) (by rw [c1_10]; decide) (by rw [c1_10]; decide) (by rw [c1_10]; first | done | rfl) (by decide) ?_
    refine lv_iconst (v := 0) hx hb (dq tk_Reader_isSignByte 4 rfl) (by decide) ?_
    cases hf
    exact x_zret hc hw hr (by decide) (dq tk_Reader_isSignByte 5 rfl)
  replace hf := if_f hf c1_10
  by_cases c1_11 : x0 = 51
  · replace hf := if_t hf c1_11
    refine lv_tableIn (tgt := 106) hx hb (dq tk_Reader_isSignByte 1 rfl) (by rw [c1_11]; decide) (by rw [c1_11]; decide) (by rw [c1_11]; first | done | rfl) (by decide) ?_
    refine lv_iconst (v := 0) hx hb (dq tk_Reader_isSignByte 4 rfl) (by decide) ?_
    cases hf
    exact x_zret hc hw hr (by decide) (dq tk_Reader_isSignByte 5 rfl)
  replace hf := if_f hf c1_11
  by_cases c1_12 : x0 = 52
  · replace hf := if_t hf c1_12
    refine lv_tableIn (tgt := 106) hx hb (dq tk_Reader_isSignByte 1 rfl) (by rw [c1_12]; decide) (by rw [c1_12]; decide) (by rw [c1_12]; first | done | rfl) (by decide) ?_
    refine lv_iconst (v := 0) hx hb (dq tk_Reader_isSignByte 4 rfl) (by decide) ?_
    cases hf
    exact x_zret hc hw hr (by decide) (dq tk_Reader_isSignByte 5 rfl)
  replace hf := if_f hf c1_12
  by_cases c1_13 : x0 = 53
  · replace hf := if_t hf c1_13
    refine lv_tableIn (tgt := 106) hx hb (dq tk_Reader_isSignByte 1 rfl) (by rw [c1_13]; decide) (by rw [c1_13]; decide) (by rw [c1_13]; first | done | rfl) (by decide) ?_
    refine lv_iconst (v := 0) hx hb (dq tk_Reader_isSignByte 4 rfl) (by decide) ?_
    cases hf
    exact x_zret hc hw hr (by decide) (dq tk_Reader_isSignByte 5 rfl)
  replace hf := if_f hf c1_13
  by_cases c1_14 : x0 = 54
  · replace hf := if_t hf c1_14
    refine lv_tableIn (tgt := 106) hx hb (dq tk_Reader_isSignByte 1 rfl) (by rw [c1_14]; decide) (by rw [c1_14]; decide) (by rw [c1_14]; first | done | rfl) (by decide) ?_
    refine lv_iconst (v := 0) hx hb (dq tk_Reader_isSignByte 4 rfl) (by decide) ?_
    cases hf
    exact x_zret hc hw hr (by decide) (dq tk_Reader_isSignByte 5 rfl)
  replace hf := if_f hf c1_14
  by_cases c1_15 : x0 = 55
  · replace hf := if_t hf c1_15
    refine lv_tableIn (tgt := 106) hx hb (dq tk_Reader_isSignByte 1 rfl) (by rw [c1_15]; decide) (by rw [c1_15]; decide) (by rw [c1_15]; first | done | rfl) (by decide) ?_
    refine lv_iconst (v := 0) hx hb (dq tk_Reader_isSignByte 4 rfl) (by decide) ?_
    cases hf
    exact x_zret hc hw hr (by decide) (dq tk_Reader_isSignByte 5 rfl)
  replace hf := if_f hf c1_15
  by_cases c1_16 : x0 = 56
  · replace hf := if_t hf c1_16
    refine lv_tableIn (tgt := 106) hx hb (dq tk_Reader_isSignByte 1 rfl) (by rw [c1_16]; decide) (by rw [c1_16]; decide) (by rw [c1_16]; first | done | rfl) (by decide) ?_
    refine lv_iconst (v := 0) hx hb (dq tk_Reader_isSignByte 4 rfl) (by decide) ?_
    cases hf
    exact x_zret hc hw hr (by decide) (dq tk_Reader_isSignByte 5 rfl)
  replace hf := if_f hf c1_16
  by_cases c1_17 : x0 = 57
  · replace hf := if_t hf c1_17
    refine lv_tableIn (tgt := 106) hx hb (dq tk_Reader_isSignByte 1 rfl) (by rw [c1_17]; decide) (by rw [c1_17]; decide) (by rw [c1_17]; first | done | rfl) (by decide) ?_
    refine lv_iconst (v := 0) hx hb (dq tk_Reader_isSignByte 4 rfl) (by decide) ?_
    cases hf
    exact x_zret hc hw hr (by decide) (dq tk_Reader_isSignByte 5 rfl)
  replace hf := if_f hf c1_17
  by_cases c1_18 : x0 = 58
  · replace hf := if_t hf c1_18
    refine lv_tableIn (tgt := 106) hx hb (dq tk_Reader_isSignByte 1 rfl) (by rw [c1_18]; decide) (by rw [c1_18]; decide) (by rw [c1_18]; first | done | rfl) (by decide) ?_
    refine lv_iconst (v := 0) hx hb (dq tk_Reader_isSignByte 4 rfl) (by decide) ?_
    cases hf
    exact x_zret hc hw hr (by decide) (dq tk_Reader_isSignByte 5 rfl)
  replace hf := if_f hf c1_18
  by_cases c1_19 : x0 = 59
  · replace hf := if_t hf c1_19
    refine lv_tableIn (tgt := 104) hx hb (dq tk_Reader_isSignByte 1 rfl) (by rw [c1_19]; decide) (by rw [c1_19]; decide) (by rw [c1_19]; first | done | rfl) (by decide) ?_
    refine lv_iconst (v := 1) hx hb (dq tk_Reader_isSignByte 2 rfl) (by decide) ?_
    cases hf
    exact x_zret hc hw hr (by decide) (dq tk_Reader_isSignByte 3 rfl)
  replace hf := if_f hf c1_19
  by_cases c1_20 : x0 = 60
  · replace hf := if_t hf c1_20
    refine lv_tableIn (tgt := 104) hx hb (dq tk_Reader_isSignByte 1 rfl) (by rw [c1_20]; decide) (by rw [c1_20]; decide) (by rw [c1_20]; first | done | rfl) (by decide) ?_
    refine lv_iconst (v := 1) hx hb (dq tk_Reader_isSignByte 2 rfl) (by decide) ?_
    cases hf
    exact x_zret hc hw hr (by decide) (dq tk_Reader_isSignByte 3 rfl)
  replace hf := if_f hf c1_20
  by_cases c1_21 : x0 = 61
  · replace hf := if_t hf c1_21
    refine lv_tableIn (tgt := 104) hx hb (dq tk_Reader_isSignByte 1 rfl) (by rw [c1_21]; decide) (by rw [c1_21]; decide) (by rw [c1_21]; first | done | rfl) (by decide) ?_
    refine lv_iconst (v := 1) hx hb (dq tk_Reader_isSignByte 2 rfl) (by decide) ?_
    cases hf
    exact x_zret hc hw hr (by decide) (dq tk_Reader_isSignByte 3 rfl)
  replace hf := if_f hf c1_21
  refine lv_tableOut (tgt := 106) hx hb (dq tk_Reader_isSignByte 1 rfl) (sw_out (fun k h1 h2 => by
    have h3 : k = 40 ∨ k = 41 ∨ k = 42 ∨ k = 43 ∨ k = 44 ∨ k = 45 ∨ k = 46 ∨ k = 47 ∨ k = 48 ∨ k = 49 ∨ k = 50 ∨ k = 51 ∨ k = 52 ∨ k = 53 ∨ k = 54 ∨ k = 55 ∨ k = 56 ∨ k = 57 ∨ k = 58 ∨ k = 59 ∨ k = 60 ∨ k = 61 := by omega
    rcases h3 with rfl | rfl | rfl | rfl | rfl | rfl | rfl | rfl | rfl | rfl | rfl | rfl | rfl | rfl | rfl | rfl | rfl | rfl | rfl | rfl | rfl | rfl
    · exact c1_0
    · exact c1_1
    · exact c1_2
    · exact c1_3
    · exact c1_4
    · exact c1_5
    · exact c1_6
    · exact c1_7
    · exact c1_8
    · exact c1_9
    · exact c1_10
    · exact c1_11
    · exact c1_12
    · exact c1_13
    · exact c1_14
    · exact c1_15
    · exact c1_16
    · exact c1_17
    · exact c1_18
    · exact c1_19
    · exact c1_20
    · exact c1_21
    )) (by decide) ?_
  refine lv_iconst (v := 0) hx hb (dq tk_Reader_isSignByte 4 rfl) (by decide) ?_
  cases hf
  exact x_zret hc hw hr (by decide) (dq tk_Reader_isSignByte 5 rfl)
theorem c_Reader_isSignByte {N : Nat}  {x0 : Int32} {rv : Int32} {σ : St} (hf : fReader_isSignByte N x0 σ = some rv) : Ct l Z y_Reader_isSignByte prog_10_method_29_code 1 (some .boolean) (rmo (0)) [.int x0] (cmb σ μ) (some (.int rv)) True (cmb σ μ) := by
  refine x_met (by decide) (Nat.le_of_ble_eq_true rfl) (fun p e s m args below meth c ls hc hr hw hl => ?_)
  exact w_Reader_isSignByte hc hr RO.self hw hl hf
theorem K_Reader_isSignByte {idx : Nat} {N : Nat}  {x0 : Int32} {rv : Int32} {σ : St} (hc : Cxz p s m meth c args cc own nL Z) (hw : Wd Z (cmb σ μ) s H locs) (hl : Cond.methodLink own idx y_Reader_isSignByte ∈ TB) (hf : fReader_isSignByte N x0 σ = some rv) (hR : RO R ((0) + 1)) (hcs : cells ≤ R.cells ∧ slots ≤ R.slots) (hls : ls.size = nL) (hst : (rest.map fun v => v.category).sum ≤ 8) (hdg : decode cc pc = .ok (.invokestatic idx, 3)) (kk : ∀ (H1 : Heap) (locs1 : List Loc), Wd Z (cmb σ μ) s H1 locs1 → True → W p l e R s m args below meth c H1 locs1 cells slots Q (F0 m (pc + 3) ls (.int rv :: rest))) : W p l e R s m args below meth c H locs cells slots Q (F0 m pc ls (.int x0 :: rest)) :=
  x_is hc hw (c_Reader_isSignByte hf) ys_Reader_isSignByte hl (RO.call hR (by decide)) hcs rfl hls hst hdg rfl kk
set_option maxRecDepth 10000 in
theorem w_Reader_placeIn_66 {N : Nat} {ks1 : Nat} (hc : Cxz p s m meth c args prog_10_method_26_code "LabourExchange$Reader" 6 Z) (hr : meth.sig.returnType = (some .int)) (hR : RO R 8) (hks1 : ks1 < 34) {rv : Int32} {σ : St} {go13 : Int32 → Int32 → Int32 → Int32 → St → Option Int32} (hgo13 : ∀ {x2 : Int32} {x3 : Int32} {x4 : Int32} {x5 : Int32} {H : Heap} {locs : List Loc} {ls : Array Slot}, Wd Z (cmb σ μ) s H locs → lv_has ls 6 [(0, .ref (Z.1 + 1)), (1, .ref (Z.2.2.2 ks1)), (2, .int x2), (3, .int x3), (4, .int x4), (5, .int x5)] → go13 x2 x3 x4 x5 σ = some rv → W p l e R s m args below meth c H locs 0 0 (MQ below (Qr Z (some (.int rv)) True (cmb σ μ)) args s 0 0 (fun q => Z.1 ≤ q)) (F0 m 13 ls [])) : ∀ {x2 : Int32} {x3 : Int32} {x5 : Int32} {s0 : Int32} {H : Heap} {locs : List Loc} {ls : Array Slot}, Wd Z (cmb σ μ) s H locs → lv_has ls 6 [(0, .ref (Z.1 + 1)), (1, .ref (Z.2.2.2 ks1)), (2, .int x2), (3, .int x3), (5, .int x5)] → fReader_placeIn_66 N ks1 go13 x2 x3 x5 s0 σ = some rv → W p l e R s m args below meth c H locs 0 0 (MQ below (Qr Z (some (.int rv)) True (cmb σ μ)) args s 0 0 (fun q => Z.1 ≤ q)) (F0 m 66 ls [.int s0]) := by
  have hx := hc.hx
  have hb := hc.hb
  intro x2 x3 x5 s0 H locs ls hw hl hf
  unfold fReader_placeIn_66 at hf
  refine lv_istore (lv' := [(4, .int s0), (0, .ref (Z.1 + 1)), (1, .ref (Z.2.2.2 ks1)), (2, .int x2), (3, .int x3), (5, .int x5)]) hx hb (dq tk_Reader_placeIn 35 rfl) hl (by decide) rfl (fun ls hl => ?_)
  refine lv_iinc (v := (x3 + 1)) (lv' := [(3, .int (x3 + 1)), (4, .int s0), (0, .ref (Z.1 + 1)), (1, .ref (Z.2.2.2 ks1)), (2, .int x2), (5, .int x5)]) hx hb (dq tk_Reader_placeIn 36 rfl) hl (k := 4) rfl rfl (by decide) rfl (fun ls hl => ?_)
  refine lv_goto (tgt := 100) hx hb (dq tk_Reader_placeIn 37 rfl) (by decide) ?_
  refine lv_iinc (v := (x5 + 1)) (lv' := [(5, .int (x5 + 1)), (3, .int (x3 + 1)), (4, .int s0), (0, .ref (Z.1 + 1)), (1, .ref (Z.2.2.2 ks1)), (2, .int x2)]) hx hb (dq tk_Reader_placeIn 52 rfl) hl (k := 5) rfl rfl (by decide) rfl (fun ls hl => ?_)
  refine lv_goto (tgt := 13) hx hb (dq tk_Reader_placeIn 53 rfl) (by decide) ?_
  exact hgo13 hw (lv_sub hl [3, 4, 5, 1, 2, 0] rfl) hf
set_option maxRecDepth 10000 in
theorem w_Reader_placeIn_65 {N : Nat} {ks1 : Nat} (hc : Cxz p s m meth c args prog_10_method_26_code "LabourExchange$Reader" 6 Z) (hr : meth.sig.returnType = (some .int)) (hR : RO R 8) (hks1 : ks1 < 34) {rv : Int32} {σ : St} {go13 : Int32 → Int32 → Int32 → Int32 → St → Option Int32} (hgo13 : ∀ {x2 : Int32} {x3 : Int32} {x4 : Int32} {x5 : Int32} {H : Heap} {locs : List Loc} {ls : Array Slot}, Wd Z (cmb σ μ) s H locs → lv_has ls 6 [(0, .ref (Z.1 + 1)), (1, .ref (Z.2.2.2 ks1)), (2, .int x2), (3, .int x3), (4, .int x4), (5, .int x5)] → go13 x2 x3 x4 x5 σ = some rv → W p l e R s m args below meth c H locs 0 0 (MQ below (Qr Z (some (.int rv)) True (cmb σ μ)) args s 0 0 (fun q => Z.1 ≤ q)) (F0 m 13 ls [])) : ∀ {x2 : Int32} {x3 : Int32} {x5 : Int32} {H : Heap} {locs : List Loc} {ls : Array Slot}, Wd Z (cmb σ μ) s H locs → lv_has ls 6 [(0, .ref (Z.1 + 1)), (1, .ref (Z.2.2.2 ks1)), (2, .int x2), (3, .int x3), (5, .int x5)] → fReader_placeIn_65 N ks1 go13 x2 x3 x5 σ = some rv → W p l e R s m args below meth c H locs 0 0 (MQ below (Qr Z (some (.int rv)) True (cmb σ μ)) args s 0 0 (fun q => Z.1 ≤ q)) (F0 m 65 ls []) := by
  have hx := hc.hx
  have hb := hc.hb
  intro x2 x3 x5 H locs ls hw hl hf
  unfold fReader_placeIn_65 at hf
  refine lv_iconst (v := 0) hx hb (dq tk_Reader_placeIn 34 rfl) (by decide) ?_
  exact w_Reader_placeIn_66 hc hr hR hks1 hgo13 hw (lv_sub hl [0, 1, 2, 3, 4] rfl) hf
set_option maxRecDepth 10000 in
theorem w_Reader_placeIn_89 {N : Nat} {ks1 : Nat} (hc : Cxz p s m meth c args prog_10_method_26_code "LabourExchange$Reader" 6 Z) (hr : meth.sig.returnType = (some .int)) (hR : RO R 8) (hks1 : ks1 < 34) {rv : Int32} {σ : St} {go13 : Int32 → Int32 → Int32 → Int32 → St → Option Int32} (hgo13 : ∀ {x2 : Int32} {x3 : Int32} {x4 : Int32} {x5 : Int32} {H : Heap} {locs : List Loc} {ls : Array Slot}, Wd Z (cmb σ μ) s H locs → lv_has ls 6 [(0, .ref (Z.1 + 1)), (1, .ref (Z.2.2.2 ks1)), (2, .int x2), (3, .int x3), (4, .int x4), (5, .int x5)] → go13 x2 x3 x4 x5 σ = some rv → W p l e R s m args below meth c H locs 0 0 (MQ below (Qr Z (some (.int rv)) True (cmb σ μ)) args s 0 0 (fun q => Z.1 ≤ q)) (F0 m 13 ls [])) : ∀ {x2 : Int32} {x5 : Int32} {H : Heap} {locs : List Loc} {ls : Array Slot}, Wd Z (cmb σ μ) s H locs → lv_has ls 6 [(0, .ref (Z.1 + 1)), (1, .ref (Z.2.2.2 ks1)), (2, .int x2), (5, .int x5)] → fReader_placeIn_89 N ks1 go13 x2 x5 σ = some rv → W p l e R s m args below meth c H locs 0 0 (MQ below (Qr Z (some (.int rv)) True (cmb σ μ)) args s 0 0 (fun q => Z.1 ≤ q)) (F0 m 89 ls []) := by
  have hx := hc.hx
  have hb := hc.hb
  intro x2 x5 H locs ls hw hl hf
  unfold fReader_placeIn_89 at hf
  refine lv_iinc (v := (x2 + 1)) (lv' := [(2, .int (x2 + 1)), (0, .ref (Z.1 + 1)), (1, .ref (Z.2.2.2 ks1)), (5, .int x5)]) hx hb (dq tk_Reader_placeIn 46 rfl) hl (k := 2) rfl rfl (by decide) rfl (fun ls hl => ?_)
  refine lv_aload_n hx hb (dq tk_Reader_placeIn 47 rfl) rfl (lv_at hl 1 rfl) ?_
  refine G_Reader_start hc hw wd_48 (dq tk_Reader_placeIn 48 rfl) ?_
  obtain ⟨y1, hy1, hf⟩ := nm_some hf
  refine tst (congrArg Value.int hy1) ?_
  refine lv_istore_n (lv' := [(3, .int y1), (2, .int (x2 + 1)), (0, .ref (Z.1 + 1)), (1, .ref (Z.2.2.2 ks1)), (5, .int x5)]) hx hb (dq tk_Reader_placeIn 49 rfl) rfl hl (by decide) rfl (fun ls hl => ?_)
  refine lv_iconst (v := 1) hx hb (dq tk_Reader_placeIn 50 rfl) (by decide) ?_
  refine lv_istore (lv' := [(4, .int 1), (3, .int y1), (2, .int (x2 + 1)), (0, .ref (Z.1 + 1)), (1, .ref (Z.2.2.2 ks1)), (5, .int x5)]) hx hb (dq tk_Reader_placeIn 51 rfl) hl (by decide) rfl (fun ls hl => ?_)
  refine lv_iinc (v := (x5 + 1)) (lv' := [(5, .int (x5 + 1)), (4, .int 1), (3, .int y1), (2, .int (x2 + 1)), (0, .ref (Z.1 + 1)), (1, .ref (Z.2.2.2 ks1))]) hx hb (dq tk_Reader_placeIn 52 rfl) hl (k := 5) rfl rfl (by decide) rfl (fun ls hl => ?_)
  refine lv_goto (tgt := 13) hx hb (dq tk_Reader_placeIn 53 rfl) (by decide) ?_
  exact hgo13 hw (lv_sub hl [4, 5, 3, 2, 1, 0] rfl) hf
set_option maxRecDepth 10000 in
theorem w_Reader_placeIn_13 {N : Nat} {ks1 : Nat} (hc : Cxz p s m meth c args prog_10_method_26_code "LabourExchange$Reader" 6 Z) (hr : meth.sig.returnType = (some .int)) (hR : RO R 8) (hks1 : ks1 < 34) {rv : Int32} {σ : St} (n : Nat) : ∀ {x2 : Int32} {x3 : Int32} {x4 : Int32} {x5 : Int32} {H : Heap} {locs : List Loc} {ls : Array Slot}, Wd Z (cmb σ μ) s H locs → lv_has ls 6 [(0, .ref (Z.1 + 1)), (1, .ref (Z.2.2.2 ks1)), (2, .int x2), (3, .int x3), (4, .int x4), (5, .int x5)] → fReader_placeIn_13 N ks1 n x2 x3 x4 x5 σ = some rv → W p l e R s m args below meth c H locs 0 0 (MQ below (Qr Z (some (.int rv)) True (cmb σ μ)) args s 0 0 (fun q => Z.1 ≤ q)) (F0 m 13 ls []) := by
  have hx := hc.hx
  have hb := hc.hb
  induction n with
  | zero =>
    intro x2 x3 x4 x5 H locs ls hw hl hf
    have hf : none = some _ := hf
    cases hf
  | succ n ih =>
    intro x2 x3 x4 x5 H locs ls hw hl hf
    unfold fReader_placeIn_13 at hf
    refine lv_iload hx hb (dq tk_Reader_placeIn 9 rfl) (lv_at hl 5 rfl) ?_
    refine lv_aload_n hx hb (dq tk_Reader_placeIn 10 rfl) rfl (lv_at hl 1 rfl) ?_
    refine SL_length hks1 hc hw wd_1195 (hR.mono (by decide)) hl.1 (Nat.le_of_ble_eq_true rfl) (dq tk_Reader_placeIn 11 rfl) (fun H locs hw => ?_)
    refine lv_icmp_ge (tgt := 106) hx hb (dq tk_Reader_placeIn 12 rfl) (by decide) (fun c1 => ?_) (fun c1 => ?_)
    · replace hf := if_t hf c1
      refine lv_iconst (v := (-1)) hx hb (dq tk_Reader_placeIn 54 rfl) (by decide) ?_
      cases hf
      exact x_iret hc hw hr (dq tk_Reader_placeIn 55 rfl)
    · replace hf := if_f hf c1
      refine lv_aload_n hx hb (dq tk_Reader_placeIn 13 rfl) rfl (lv_at hl 1 rfl) ?_
      refine lv_iload hx hb (dq tk_Reader_placeIn 14 rfl) (lv_at hl 5 rfl) ?_
      obtain ⟨c2, hf⟩ := chk_some hf
      refine SL_charAt hks1 hc hw wd_1205 (hR.mono (by decide)) hl.1 (Nat.le_of_ble_eq_true rfl) c2 (dq tk_Reader_placeIn 15 rfl) (fun H locs hw => ?_)
      refine lv_bipush (v := 32) hx hb (dq tk_Reader_placeIn 16 rfl) (by decide) ?_
      refine lv_icmp_eq (tgt := 74) hx hb (dq tk_Reader_placeIn 17 rfl) (by decide) (fun c3 => ?_) (fun c3 => ?_)
      · replace hf := if_t hf c3
        refine lv_iload hx hb (dq tk_Reader_placeIn 38 rfl) (lv_at hl 4 rfl) ?_
        refine lv_if_eq (tgt := 89) hx hb (dq tk_Reader_placeIn 39 rfl) (by decide) (fun c4 => ?_) (fun c4 => ?_)
        · replace hf := if_t hf c4
          exact w_Reader_placeIn_89 hc hr hR hks1 ih hw (lv_sub hl [0, 1, 2, 5] rfl) hf
        · replace hf := if_f hf c4
          refine lv_iload_n hx hb (dq tk_Reader_placeIn 40 rfl) rfl (lv_at hl 3 rfl) ?_
          refine lv_aload_n hx hb (dq tk_Reader_placeIn 41 rfl) rfl (lv_at hl 0 rfl) ?_
          refine G_Reader_at hc hw wd_49 (dq tk_Reader_placeIn 42 rfl) ?_
          refine lv_icmp_ne (tgt := 89) hx hb (dq tk_Reader_placeIn 43 rfl) (by decide) (fun c5 => ?_) (fun c5 => ?_)
          · replace hf := if_f hf c5
            exact w_Reader_placeIn_89 hc hr hR hks1 ih hw (lv_sub hl [0, 1, 2, 5] rfl) hf
          · replace hf := if_t hf c5
            refine lv_iload_n hx hb (dq tk_Reader_placeIn 44 rfl) rfl (lv_at hl 2 rfl) ?_
            cases hf
            exact x_iret hc hw hr (dq tk_Reader_placeIn 45 rfl)
      · replace hf := if_f hf c3
        refine lv_iload hx hb (dq tk_Reader_placeIn 18 rfl) (lv_at hl 4 rfl) ?_
        refine lv_if_eq (tgt := 65) hx hb (dq tk_Reader_placeIn 19 rfl) (by decide) (fun c6 => ?_) (fun c6 => ?_)
        · replace hf := if_t hf c6
          exact w_Reader_placeIn_65 hc hr hR hks1 ih hw (lv_sub hl [0, 1, 2, 3, 5] rfl) hf
        · replace hf := if_f hf c6
          refine lv_iload_n hx hb (dq tk_Reader_placeIn 20 rfl) rfl (lv_at hl 3 rfl) ?_
          refine lv_aload_n hx hb (dq tk_Reader_placeIn 21 rfl) rfl (lv_at hl 0 rfl) ?_
          refine G_Reader_at hc hw wd_49 (dq tk_Reader_placeIn 22 rfl) ?_
          refine lv_icmp_ge (tgt := 65) hx hb (dq tk_Reader_placeIn 23 rfl) (by decide) (fun c7 => ?_) (fun c7 => ?_)
          · replace hf := if_t hf c7
            exact w_Reader_placeIn_65 hc hr hR hks1 ih hw (lv_sub hl [0, 1, 2, 3, 5] rfl) hf
          · replace hf := if_f hf c7
            refine lv_aload_n hx hb (dq tk_Reader_placeIn 24 rfl) rfl (lv_at hl 0 rfl) ?_
            refine G_Reader_tape hc hw wd_40 (dq tk_Reader_placeIn 25 rfl) ?_
            refine lv_iload_n hx hb (dq tk_Reader_placeIn 26 rfl) rfl (lv_at hl 3 rfl) ?_
            obtain ⟨c8, hf⟩ := chk_some hf
            refine AL_Reader_tape hc hw c8 (dq tk_Reader_placeIn 27 rfl) ?_
            refine lv_aload_n hx hb (dq tk_Reader_placeIn 28 rfl) rfl (lv_at hl 1 rfl) ?_
            refine lv_iload hx hb (dq tk_Reader_placeIn 29 rfl) (lv_at hl 5 rfl) ?_
            refine SL_charAt hks1 hc hw wd_1205 (hR.mono (by decide)) hl.1 (Nat.le_of_ble_eq_true rfl) c2 (dq tk_Reader_placeIn 30 rfl) (fun H locs hw => ?_)
            refine lv_icmp_ne (tgt := 65) hx hb (dq tk_Reader_placeIn 31 rfl) (by decide) (fun c9 => ?_) (fun c9 => ?_)
            · replace hf := if_f hf c9
              exact w_Reader_placeIn_65 hc hr hR hks1 ih hw (lv_sub hl [0, 1, 2, 3, 5] rfl) hf
            · replace hf := if_t hf c9
              refine lv_iconst (v := 1) hx hb (dq tk_Reader_placeIn 32 rfl) (by decide) ?_
              refine lv_goto (tgt := 66) hx hb (dq tk_Reader_placeIn 33 rfl) (by decide) ?_
              exact w_Reader_placeIn_66 hc hr hR hks1 ih hw (lv_sub hl [0, 1, 2, 3, 5] rfl) hf
set_option maxRecDepth 10000 in
theorem w_Reader_placeIn {N : Nat} {ks1 : Nat} (hc : Cxz p s m meth c args prog_10_method_26_code "LabourExchange$Reader" 6 Z) (hr : meth.sig.returnType = (some .int)) (hR : RO R 8) (hks1 : ks1 < 34) {rv : Int32} {σ : St} : ∀ {H : Heap} {locs : List Loc} {ls : Array Slot}, Wd Z (cmb σ μ) s H locs → lv_has ls 6 [(0, .ref (Z.1 + 1)), (1, .ref (Z.2.2.2 ks1))] → fReader_placeIn N ks1 σ = some rv → W p l e R s m args below meth c H locs 0 0 (MQ below (Qr Z (some (.int rv)) True (cmb σ μ)) args s 0 0 (fun q => Z.1 ≤ q)) (F0 m 0 ls []) := by
  have hx := hc.hx
  have hb := hc.hb
  intro H locs ls hw hl hf
  unfold fReader_placeIn at hf
  refine lv_iconst (v := 0) hx hb (dq tk_Reader_placeIn 0 rfl) (by decide) ?_
  refine lv_istore_n (lv' := [(2, .int 0), (0, .ref (Z.1 + 1)), (1, .ref (Z.2.2.2 ks1))]) hx hb (dq tk_Reader_placeIn 1 rfl) rfl hl (by decide) rfl (fun ls hl => ?_)
  refine lv_aload_n hx hb (dq tk_Reader_placeIn 2 rfl) rfl (lv_at hl 1 rfl) ?_
  refine G_Reader_start hc hw wd_48 (dq tk_Reader_placeIn 3 rfl) ?_
  obtain ⟨y1, hy1, hf⟩ := nm_some hf
  refine tst (congrArg Value.int hy1) ?_
  refine lv_istore_n (lv' := [(3, .int y1), (2, .int 0), (0, .ref (Z.1 + 1)), (1, .ref (Z.2.2.2 ks1))]) hx hb (dq tk_Reader_placeIn 4 rfl) rfl hl (by decide) rfl (fun ls hl => ?_)
  refine lv_iconst (v := 1) hx hb (dq tk_Reader_placeIn 5 rfl) (by decide) ?_
  refine lv_istore (lv' := [(4, .int 1), (3, .int y1), (2, .int 0), (0, .ref (Z.1 + 1)), (1, .ref (Z.2.2.2 ks1))]) hx hb (dq tk_Reader_placeIn 6 rfl) hl (by decide) rfl (fun ls hl => ?_)
  refine lv_iconst (v := 0) hx hb (dq tk_Reader_placeIn 7 rfl) (by decide) ?_
  refine lv_istore (lv' := [(5, .int 0), (4, .int 1), (3, .int y1), (2, .int 0), (0, .ref (Z.1 + 1)), (1, .ref (Z.2.2.2 ks1))]) hx hb (dq tk_Reader_placeIn 8 rfl) hl (by decide) rfl (fun ls hl => ?_)
  exact w_Reader_placeIn_13 hc hr hR hks1 N hw (lv_sub hl [4, 5, 3, 2, 1, 0] rfl) hf
theorem c_Reader_placeIn {N : Nat} {ks1 : Nat}  {rv : Int32} {σ : St} (hks1 : ks1 < 34) (hf : fReader_placeIn N ks1 σ = some rv) : Ct l Z y_Reader_placeIn prog_10_method_26_code 6 (some .int) (rmo (8)) [.ref (Z.1 + 1), .ref (Z.2.2.2 ks1)] (cmb σ μ) (some (.int rv)) True (cmb σ μ) := by
  refine x_met (by decide) (Nat.le_of_ble_eq_true rfl) (fun p e s m args below meth c ls hc hr hw hl => ?_)
  exact w_Reader_placeIn hc hr RO.self hks1 hw hl hf
theorem K_Reader_placeIn {idx : Nat} {N : Nat} {ks1 : Nat}  {rv : Int32} {σ : St} (hc : Cxz p s m meth c args cc own nL Z) (hw : Wd Z (cmb σ μ) s H locs) (hks1 : ks1 < 34) (hl : Cond.methodLink own idx y_Reader_placeIn ∈ TB) (hf : fReader_placeIn N ks1 σ = some rv) (hR : RO R ((8) + 1)) (hcs : cells ≤ R.cells ∧ slots ≤ R.slots) (hls : ls.size = nL) (hst : (rest.map fun v => v.category).sum ≤ 8) (hdg : decode cc pc = .ok (.invokevirtual idx, 3)) (kk : ∀ (H1 : Heap) (locs1 : List Loc), Wd Z (cmb σ μ) s H1 locs1 → True → W p l e R s m args below meth c H1 locs1 cells slots Q (F0 m (pc + 3) ls (.int rv :: rest))) : W p l e R s m args below meth c H locs cells slots Q (F0 m pc ls (.ref (Z.2.2.2 ks1) :: .ref (Z.1 + 1) :: rest)) :=
  x_iv hc hw (c_Reader_placeIn hks1 hf) yv_Reader_placeIn (Nat.le_of_ble_eq_true rfl) rfl rfl hl (RO.call hR (by decide)) hcs rfl hls hst hdg rfl kk
set_option maxRecDepth 10000 in
theorem w_Reader_advance_39 {N : Nat} (hc : Cxz p s m meth c args prog_10_method_25_code "LabourExchange$Reader" 2 Z) (hr : meth.sig.returnType = none) (hR : RO R 9) {σ' : St} {go0 : St → Option St} (hgo0 : ∀ {σ : St} {H : Heap} {locs : List Loc} {ls : Array Slot}, Wd Z (cmb σ μ) s H locs → lv_has ls 2 [(0, .ref (Z.1 + 1))] → go0 σ = some σ' → W p l e R s m args below meth c H locs 0 0 (MQ below (Qr Z none True (cmb σ' μ)) args s 0 0 (fun q => Z.1 ≤ q)) (F0 m 0 ls [])) : ∀ {σ : St} {H : Heap} {locs : List Loc} {ls : Array Slot}, Wd Z (cmb σ μ) s H locs → lv_has ls 2 [(0, .ref (Z.1 + 1))] → fReader_advance_39 N go0 σ = some σ' → W p l e R s m args below meth c H locs 0 0 (MQ below (Qr Z none True (cmb σ' μ)) args s 0 0 (fun q => Z.1 ≤ q)) (F0 m 39 ls []) := by
  have hx := hc.hx
  have hb := hc.hb
  intro σ H locs ls hw hl hf
  unfold fReader_advance_39 at hf
  refine lv_aload_n hx hb (dq tk_Reader_advance 19 rfl) rfl (lv_at hl 0 rfl) ?_
  refine lv_dup hx hb (dq tk_Reader_advance 20 rfl) rfl ?_
  refine G_Reader_at hc hw wd_49 (dq tk_Reader_advance 21 rfl) ?_
  refine lv_iconst (v := 1) hx hb (dq tk_Reader_advance 22 rfl) (by decide) ?_
  refine lv_iadd hx hb (dq tk_Reader_advance 23 rfl) ?_
  obtain ⟨σ1, hσ1, hf⟩ := nm_some hf
  refine P_Reader_at hc hw wd_49 hσ1 (dq tk_Reader_advance 24 rfl) (fun H locs hw => ?_)
  refine lv_goto (tgt := 0) hx hb (dq tk_Reader_advance 25 rfl) (by decide) ?_
  exact hgo0 hw (lv_sub hl [0] rfl) hf
set_option maxRecDepth 10000 in
theorem w_Reader_advance_174 {N : Nat} (hc : Cxz p s m meth c args prog_10_method_25_code "LabourExchange$Reader" 2 Z) (hr : meth.sig.returnType = none) (hR : RO R 9) {σ' : St} : ∀ {s1 : Int32} {σ : St} {H : Heap} {locs : List Loc} {ls : Array Slot}, Wd Z (cmb σ μ) s H locs → lv_has ls 2 [] → fReader_advance_174 N s1 σ = some σ' → W p l e R s m args below meth c H locs 0 0 (MQ below (Qr Z none True (cmb σ' μ)) args s 0 0 (fun q => Z.1 ≤ q)) (F0 m 174 ls [.int s1, .ref (Z.1 + 1)]) := by
  have hx := hc.hx
  have hb := hc.hb
  intro s1 σ H locs ls hw hl hf
  unfold fReader_advance_174 at hf
  obtain ⟨σ1, hσ1, hf⟩ := nm_some hf
  refine P_Reader_value hc hw wd_52 hσ1 (dq tk_Reader_advance 88 rfl) (fun H locs hw => ?_)
  refine lv_goto (tgt := 328) hx hb (dq tk_Reader_advance 89 rfl) (by decide) ?_
  cases hf
  exact x_vret hc hw hr (dq tk_Reader_advance 167 rfl)
set_option maxRecDepth 10000 in
theorem w_Reader_advance_138 {N : Nat} (hc : Cxz p s m meth c args prog_10_method_25_code "LabourExchange$Reader" 2 Z) (hr : meth.sig.returnType = none) (hR : RO R 9) {σ' : St} : ∀ {σ : St} {H : Heap} {locs : List Loc} {ls : Array Slot}, Wd Z (cmb σ μ) s H locs → lv_has ls 2 [(0, .ref (Z.1 + 1))] → fReader_advance_138 N σ = some σ' → W p l e R s m args below meth c H locs 0 0 (MQ below (Qr Z none True (cmb σ' μ)) args s 0 0 (fun q => Z.1 ≤ q)) (F0 m 138 ls []) := by
  have hx := hc.hx
  have hb := hc.hb
  intro σ H locs ls hw hl hf
  unfold fReader_advance_138 at hf
  refine lv_aload_n hx hb (dq tk_Reader_advance 68 rfl) rfl (lv_at hl 0 rfl) ?_
  refine lv_aload_n hx hb (dq tk_Reader_advance 69 rfl) rfl (lv_at hl 0 rfl) ?_
  refine LS_Reader_163 hc hw (dq tk_Reader_advance 70 rfl) ?_
  obtain ⟨r1, h71, hf⟩ := bn1_someZ hf
  refine K_Reader_placeIn hc hw (by decide) wd_1191 h71 (hR.mono (by decide)) ⟨Nat.zero_le _, Nat.zero_le _⟩ hl.1 (Nat.le_of_ble_eq_true rfl) (dq tk_Reader_advance 71 rfl) (fun H locs hw _ => ?_)
  obtain ⟨σ2, hσ2, hf⟩ := nm_some hf
  refine P_Reader_keyword hc hw wd_51 hσ2 (dq tk_Reader_advance 72 rfl) (fun H locs hw => ?_)
  refine lv_aload_n hx hb (dq tk_Reader_advance 73 rfl) rfl (lv_at hl 0 rfl) ?_
  refine LS_Reader_169 hc hw (dq tk_Reader_advance 74 rfl) ?_
  obtain ⟨r3, h75, hf⟩ := bn1_someZ hf
  refine K_Reader_placeIn hc hw (by decide) wd_1191 h75 (hR.mono (by decide)) ⟨Nat.zero_le _, Nat.zero_le _⟩ hl.1 (Nat.le_of_ble_eq_true rfl) (dq tk_Reader_advance 75 rfl) (fun H locs hw _ => ?_)
  refine lv_istore_n (lv' := [(1, .int r3), (0, .ref (Z.1 + 1))]) hx hb (dq tk_Reader_advance 76 rfl) rfl hl (by decide) rfl (fun ls hl => ?_)
  refine lv_aload_n hx hb (dq tk_Reader_advance 77 rfl) rfl (lv_at hl 1 rfl) ?_
  refine lv_iload_n hx hb (dq tk_Reader_advance 78 rfl) rfl (lv_at hl 0 rfl) ?_
  refine lv_iconst (v := (-1)) hx hb (dq tk_Reader_advance 79 rfl) (by decide) ?_
  refine lv_icmp_ne (tgt := 170) hx hb (dq tk_Reader_advance 80 rfl) (by decide) (fun c1 => ?_) (fun c1 => ?_)
  · replace hf := if_f hf c1
    refine lv_bipush (v := 8) hx hb (dq tk_Reader_advance 85 rfl) (by decide) ?_
    refine lv_iload_n hx hb (dq tk_Reader_advance 86 rfl) rfl (lv_at hl 0 rfl) ?_
    refine lv_iadd hx hb (dq tk_Reader_advance 87 rfl) ?_
    exact w_Reader_advance_174 hc hr hR hw (lv_sub hl [] rfl) hf
  · replace hf := if_t hf c1
    refine lv_aload_n hx hb (dq tk_Reader_advance 81 rfl) rfl (lv_at hl 1 rfl) ?_
    refine LS_Reader_171 hc hw (dq tk_Reader_advance 82 rfl) ?_
    obtain ⟨r4, h83, hf⟩ := bn1_someZ hf
    refine K_Reader_placeIn hc hw (by decide) wd_1191 h83 (hR.mono (by decide)) ⟨Nat.zero_le _, Nat.zero_le _⟩ hl.1 (Nat.le_of_ble_eq_true rfl) (dq tk_Reader_advance 83 rfl) (fun H locs hw _ => ?_)
    refine lv_goto (tgt := 174) hx hb (dq tk_Reader_advance 84 rfl) (by decide) ?_
    exact w_Reader_advance_174 hc hr hR hw (lv_sub hl [] rfl) hf
set_option maxRecDepth 10000 in
theorem w_Reader_advance_99 {N : Nat} (hc : Cxz p s m meth c args prog_10_method_25_code "LabourExchange$Reader" 2 Z) (hr : meth.sig.returnType = none) (hR : RO R 9) {σ' : St} (n : Nat) : ∀ {σ : St} {H : Heap} {locs : List Loc} {ls : Array Slot}, Wd Z (cmb σ μ) s H locs → lv_has ls 2 [(0, .ref (Z.1 + 1))] → fReader_advance_99 N n σ = some σ' → W p l e R s m args below meth c H locs 0 0 (MQ below (Qr Z none True (cmb σ' μ)) args s 0 0 (fun q => Z.1 ≤ q)) (F0 m 99 ls []) := by
  have hx := hc.hx
  have hb := hc.hb
  induction n with
  | zero =>
    intro σ H locs ls hw hl hf
    have hf : none = some _ := hf
    cases hf
  | succ n ih =>
    intro σ H locs ls hw hl hf
    unfold fReader_advance_99 at hf
    refine lv_aload_n hx hb (dq tk_Reader_advance 49 rfl) rfl (lv_at hl 0 rfl) ?_
    refine G_Reader_at hc hw wd_49 (dq tk_Reader_advance 50 rfl) ?_
    refine lv_aload_n hx hb (dq tk_Reader_advance 51 rfl) rfl (lv_at hl 0 rfl) ?_
    refine G_Reader_length hc hw wd_47 (dq tk_Reader_advance 52 rfl) ?_
    refine lv_icmp_ge (tgt := 138) hx hb (dq tk_Reader_advance 53 rfl) (by decide) (fun c1 => ?_) (fun c1 => ?_)
    · replace hf := if_t hf c1
      exact w_Reader_advance_138 hc hr hR hw (lv_sub hl [0] rfl) hf
    · replace hf := if_f hf c1
      refine lv_aload_n hx hb (dq tk_Reader_advance 54 rfl) rfl (lv_at hl 0 rfl) ?_
      refine G_Reader_tape hc hw wd_40 (dq tk_Reader_advance 55 rfl) ?_
      refine lv_aload_n hx hb (dq tk_Reader_advance 56 rfl) rfl (lv_at hl 0 rfl) ?_
      refine G_Reader_at hc hw wd_49 (dq tk_Reader_advance 57 rfl) ?_
      obtain ⟨c2, hf⟩ := chk_some hf
      refine AL_Reader_tape hc hw c2 (dq tk_Reader_advance 58 rfl) ?_
      obtain ⟨r1, h59, hf⟩ := bn1_someZ hf
      refine K_Reader_isLetter hc hw wd_1187 h59 (hR.mono (by decide)) ⟨Nat.zero_le _, Nat.zero_le _⟩ hl.1 (Nat.le_of_ble_eq_true rfl) (dq tk_Reader_advance 59 rfl) (fun H locs hw _ => ?_)
      refine lv_if_eq (tgt := 138) hx hb (dq tk_Reader_advance 60 rfl) (by decide) (fun c3 => ?_) (fun c3 => ?_)
      · replace hf := if_t hf c3
        exact w_Reader_advance_138 hc hr hR hw (lv_sub hl [0] rfl) hf
      · replace hf := if_f hf c3
        refine lv_aload_n hx hb (dq tk_Reader_advance 61 rfl) rfl (lv_at hl 0 rfl) ?_
        refine lv_dup hx hb (dq tk_Reader_advance 62 rfl) rfl ?_
        refine G_Reader_at hc hw wd_49 (dq tk_Reader_advance 63 rfl) ?_
        refine lv_iconst (v := 1) hx hb (dq tk_Reader_advance 64 rfl) (by decide) ?_
        refine lv_iadd hx hb (dq tk_Reader_advance 65 rfl) ?_
        obtain ⟨σ2, hσ2, hf⟩ := nm_some hf
        refine P_Reader_at hc hw wd_49 hσ2 (dq tk_Reader_advance 66 rfl) (fun H locs hw => ?_)
        refine lv_goto (tgt := 99) hx hb (dq tk_Reader_advance 67 rfl) (by decide) ?_
        exact ih hw (lv_sub hl [0] rfl) hf
set_option maxRecDepth 10000 in
theorem w_Reader_advance_270 {N : Nat} (hc : Cxz p s m meth c args prog_10_method_25_code "LabourExchange$Reader" 2 Z) (hr : meth.sig.returnType = none) (hR : RO R 9) {σ' : St} {go205 : St → Option St} (hgo205 : ∀ {σ : St} {H : Heap} {locs : List Loc} {ls : Array Slot}, Wd Z (cmb σ μ) s H locs → lv_has ls 2 [(0, .ref (Z.1 + 1))] → go205 σ = some σ' → W p l e R s m args below meth c H locs 0 0 (MQ below (Qr Z none True (cmb σ' μ)) args s 0 0 (fun q => Z.1 ≤ q)) (F0 m 205 ls [])) : ∀ {s1 : Int32} {σ : St} {H : Heap} {locs : List Loc} {ls : Array Slot}, Wd Z (cmb σ μ) s H locs → lv_has ls 2 [(0, .ref (Z.1 + 1))] → fReader_advance_270 N go205 s1 σ = some σ' → W p l e R s m args below meth c H locs 0 0 (MQ below (Qr Z none True (cmb σ' μ)) args s 0 0 (fun q => Z.1 ≤ q)) (F0 m 270 ls [.int s1, .ref (Z.1 + 1)]) := by
  have hx := hc.hx
  have hb := hc.hb
  intro s1 σ H locs ls hw hl hf
  unfold fReader_advance_270 at hf
  obtain ⟨σ1, hσ1, hf⟩ := nm_some hf
  refine P_Reader_number hc hw wd_53 hσ1 (dq tk_Reader_advance 137 rfl) (fun H locs hw => ?_)
  refine lv_aload_n hx hb (dq tk_Reader_advance 138 rfl) rfl (lv_at hl 0 rfl) ?_
  refine lv_dup hx hb (dq tk_Reader_advance 139 rfl) rfl ?_
  refine G_Reader_at hc hw wd_49 (dq tk_Reader_advance 140 rfl) ?_
  refine lv_iconst (v := 1) hx hb (dq tk_Reader_advance 141 rfl) (by decide) ?_
  refine lv_iadd hx hb (dq tk_Reader_advance 142 rfl) ?_
  obtain ⟨σ2, hσ2, hf⟩ := nm_some hf
  refine P_Reader_at hc hw wd_49 hσ2 (dq tk_Reader_advance 143 rfl) (fun H locs hw => ?_)
  refine lv_goto (tgt := 205) hx hb (dq tk_Reader_advance 144 rfl) (by decide) ?_
  exact hgo205 hw (lv_sub hl [0] rfl) hf
set_option maxRecDepth 10000 in
theorem w_Reader_advance_205 {N : Nat} (hc : Cxz p s m meth c args prog_10_method_25_code "LabourExchange$Reader" 2 Z) (hr : meth.sig.returnType = none) (hR : RO R 9) {σ' : St} (n : Nat) : ∀ {σ : St} {H : Heap} {locs : List Loc} {ls : Array Slot}, Wd Z (cmb σ μ) s H locs → lv_has ls 2 [(0, .ref (Z.1 + 1))] → fReader_advance_205 N n σ = some σ' → W p l e R s m args below meth c H locs 0 0 (MQ below (Qr Z none True (cmb σ' μ)) args s 0 0 (fun q => Z.1 ≤ q)) (F0 m 205 ls []) := by
  have hx := hc.hx
  have hb := hc.hb
  induction n with
  | zero =>
    intro σ H locs ls hw hl hf
    have hf : none = some _ := hf
    cases hf
  | succ n ih =>
    intro σ H locs ls hw hl hf
    unfold fReader_advance_205 at hf
    refine lv_aload_n hx hb (dq tk_Reader_advance 103 rfl) rfl (lv_at hl 0 rfl) ?_
    refine G_Reader_at hc hw wd_49 (dq tk_Reader_advance 104 rfl) ?_
    refine lv_aload_n hx hb (dq tk_Reader_advance 105 rfl) rfl (lv_at hl 0 rfl) ?_
    refine G_Reader_length hc hw wd_47 (dq tk_Reader_advance 106 rfl) ?_
    refine lv_icmp_ge (tgt := 328) hx hb (dq tk_Reader_advance 107 rfl) (by decide) (fun c1 => ?_) (fun c1 => ?_)
    · replace hf := if_t hf c1
      cases hf
      exact x_vret hc hw hr (dq tk_Reader_advance 167 rfl)
    · replace hf := if_f hf c1
      refine lv_aload_n hx hb (dq tk_Reader_advance 108 rfl) rfl (lv_at hl 0 rfl) ?_
      refine G_Reader_tape hc hw wd_40 (dq tk_Reader_advance 109 rfl) ?_
      refine lv_aload_n hx hb (dq tk_Reader_advance 110 rfl) rfl (lv_at hl 0 rfl) ?_
      refine G_Reader_at hc hw wd_49 (dq tk_Reader_advance 111 rfl) ?_
      obtain ⟨c2, hf⟩ := chk_some hf
      refine AL_Reader_tape hc hw c2 (dq tk_Reader_advance 112 rfl) ?_
      obtain ⟨r1, h113, hf⟩ := bn1_someZ hf
      refine K_Reader_isDigit hc hw wd_1245 h113 (hR.mono (by decide)) ⟨Nat.zero_le _, Nat.zero_le _⟩ hl.1 (Nat.le_of_ble_eq_true rfl) (dq tk_Reader_advance 113 rfl) (fun H locs hw _ => ?_)
      refine lv_if_eq (tgt := 328) hx hb (dq tk_Reader_advance 114 rfl) (by decide) (fun c3 => ?_) (fun c3 => ?_)
      · replace hf := if_t hf c3
        cases hf
        exact x_vret hc hw hr (dq tk_Reader_advance 167 rfl)
      · replace hf := if_f hf c3
        refine lv_aload_n hx hb (dq tk_Reader_advance 115 rfl) rfl (lv_at hl 0 rfl) ?_
        refine lv_aload_n hx hb (dq tk_Reader_advance 116 rfl) rfl (lv_at hl 0 rfl) ?_
        refine G_Reader_at hc hw wd_49 (dq tk_Reader_advance 117 rfl) ?_
        refine lv_aload_n hx hb (dq tk_Reader_advance 118 rfl) rfl (lv_at hl 0 rfl) ?_
        refine G_Reader_start hc hw wd_48 (dq tk_Reader_advance 119 rfl) ?_
        refine lv_isub hx hb (dq tk_Reader_advance 120 rfl) ?_
        refine lv_iconst (v := 5) hx hb (dq tk_Reader_advance 121 rfl) (by decide) ?_
        refine lv_icmp_ge (tgt := 268) hx hb (dq tk_Reader_advance 122 rfl) (by decide) (fun c4 => ?_) (fun c4 => ?_)
        · replace hf := if_t hf c4
          refine lv_ldc hx hb hc.ho (hc.ht _ wd_1248) (dq tk_Reader_advance 136 rfl) ?_
          exact w_Reader_advance_270 hc hr hR ih hw (lv_sub hl [0] rfl) hf
        · replace hf := if_f hf c4
          refine lv_aload_n hx hb (dq tk_Reader_advance 123 rfl) rfl (lv_at hl 0 rfl) ?_
          refine G_Reader_number hc hw wd_53 (dq tk_Reader_advance 124 rfl) ?_
          refine lv_bipush (v := 10) hx hb (dq tk_Reader_advance 125 rfl) (by decide) ?_
          refine lv_imul hx hb (dq tk_Reader_advance 126 rfl) ?_
          refine lv_aload_n hx hb (dq tk_Reader_advance 127 rfl) rfl (lv_at hl 0 rfl) ?_
          refine G_Reader_tape hc hw wd_40 (dq tk_Reader_advance 128 rfl) ?_
          refine lv_aload_n hx hb (dq tk_Reader_advance 129 rfl) rfl (lv_at hl 0 rfl) ?_
          refine G_Reader_at hc hw wd_49 (dq tk_Reader_advance 130 rfl) ?_
          refine AL_Reader_tape hc hw c2 (dq tk_Reader_advance 131 rfl) ?_
          refine lv_iadd hx hb (dq tk_Reader_advance 132 rfl) ?_
          refine lv_bipush (v := 48) hx hb (dq tk_Reader_advance 133 rfl) (by decide) ?_
          refine lv_isub hx hb (dq tk_Reader_advance 134 rfl) ?_
          refine lv_goto (tgt := 270) hx hb (dq tk_Reader_advance 135 rfl) (by decide) ?_
          exact w_Reader_advance_270 hc hr hR ih hw (lv_sub hl [0] rfl) hf
set_option maxRecDepth 10000 in
theorem w_Reader_advance_315 {N : Nat} (hc : Cxz p s m meth c args prog_10_method_25_code "LabourExchange$Reader" 2 Z) (hr : meth.sig.returnType = none) (hR : RO R 9) {σ' : St} : ∀ {s1 : Int32} {σ : St} {H : Heap} {locs : List Loc} {ls : Array Slot}, Wd Z (cmb σ μ) s H locs → lv_has ls 2 [(0, .ref (Z.1 + 1))] → fReader_advance_315 N s1 σ = some σ' → W p l e R s m args below meth c H locs 0 0 (MQ below (Qr Z none True (cmb σ' μ)) args s 0 0 (fun q => Z.1 ≤ q)) (F0 m 315 ls [.int s1, .ref (Z.1 + 1)]) := by
  have hx := hc.hx
  have hb := hc.hb
  intro s1 σ H locs ls hw hl hf
  unfold fReader_advance_315 at hf
  obtain ⟨σ1, hσ1, hf⟩ := nm_some hf
  refine P_Reader_token hc hw wd_50 hσ1 (dq tk_Reader_advance 160 rfl) (fun H locs hw => ?_)
  refine lv_aload_n hx hb (dq tk_Reader_advance 161 rfl) rfl (lv_at hl 0 rfl) ?_
  refine lv_dup hx hb (dq tk_Reader_advance 162 rfl) rfl ?_
  refine G_Reader_at hc hw wd_49 (dq tk_Reader_advance 163 rfl) ?_
  refine lv_iconst (v := 1) hx hb (dq tk_Reader_advance 164 rfl) (by decide) ?_
  refine lv_iadd hx hb (dq tk_Reader_advance 165 rfl) ?_
  obtain ⟨σ2, hσ2, hf⟩ := nm_some hf
  refine P_Reader_at hc hw wd_49 hσ2 (dq tk_Reader_advance 166 rfl) (fun H locs hw => ?_)
  cases hf
  exact x_vret hc hw hr (dq tk_Reader_advance 167 rfl)
set_option maxRecDepth 10000 in
theorem w_Reader_advance_52 {N : Nat} (hc : Cxz p s m meth c args prog_10_method_25_code "LabourExchange$Reader" 2 Z) (hr : meth.sig.returnType = none) (hR : RO R 9) {σ' : St} : ∀ {σ : St} {H : Heap} {locs : List Loc} {ls : Array Slot}, Wd Z (cmb σ μ) s H locs → lv_has ls 2 [(0, .ref (Z.1 + 1))] → fReader_advance_52 N σ = some σ' → W p l e R s m args below meth c H locs 0 0 (MQ below (Qr Z none True (cmb σ' μ)) args s 0 0 (fun q => Z.1 ≤ q)) (F0 m 52 ls []) := by
  have hx := hc.hx
  have hb := hc.hb
  intro σ H locs ls hw hl hf
  unfold fReader_advance_52 at hf
  refine lv_aload_n hx hb (dq tk_Reader_advance 26 rfl) rfl (lv_at hl 0 rfl) ?_
  refine lv_aload_n hx hb (dq tk_Reader_advance 27 rfl) rfl (lv_at hl 0 rfl) ?_
  refine G_Reader_at hc hw wd_49 (dq tk_Reader_advance 28 rfl) ?_
  obtain ⟨σ1, hσ1, hf⟩ := nm_some hf
  refine P_Reader_start hc hw wd_48 hσ1 (dq tk_Reader_advance 29 rfl) (fun H locs hw => ?_)
  refine lv_aload_n hx hb (dq tk_Reader_advance 30 rfl) rfl (lv_at hl 0 rfl) ?_
  refine G_Reader_at hc hw wd_49 (dq tk_Reader_advance 31 rfl) ?_
  refine lv_aload_n hx hb (dq tk_Reader_advance 32 rfl) rfl (lv_at hl 0 rfl) ?_
  refine G_Reader_length hc hw wd_47 (dq tk_Reader_advance 33 rfl) ?_
  refine lv_icmp_lt (tgt := 79) hx hb (dq tk_Reader_advance 34 rfl) (by decide) (fun c1 => ?_) (fun c1 => ?_)
  · replace hf := if_t hf c1
    refine lv_aload_n hx hb (dq tk_Reader_advance 39 rfl) rfl (lv_at hl 0 rfl) ?_
    refine G_Reader_tape hc hw wd_40 (dq tk_Reader_advance 40 rfl) ?_
    refine lv_aload_n hx hb (dq tk_Reader_advance 41 rfl) rfl (lv_at hl 0 rfl) ?_
    refine G_Reader_at hc hw wd_49 (dq tk_Reader_advance 42 rfl) ?_
    obtain ⟨c2, hf⟩ := chk_some hf
    refine AL_Reader_tape hc hw c2 (dq tk_Reader_advance 43 rfl) ?_
    obtain ⟨r2, h44, hf⟩ := bn1_someZ hf
    refine K_Reader_isLetter hc hw wd_1187 h44 (hR.mono (by decide)) ⟨Nat.zero_le _, Nat.zero_le _⟩ hl.1 (Nat.le_of_ble_eq_true rfl) (dq tk_Reader_advance 44 rfl) (fun H locs hw _ => ?_)
    refine lv_if_eq (tgt := 180) hx hb (dq tk_Reader_advance 45 rfl) (by decide) (fun c3 => ?_) (fun c3 => ?_)
    · replace hf := if_t hf c3
      refine lv_aload_n hx hb (dq tk_Reader_advance 90 rfl) rfl (lv_at hl 0 rfl) ?_
      refine G_Reader_tape hc hw wd_40 (dq tk_Reader_advance 91 rfl) ?_
      refine lv_aload_n hx hb (dq tk_Reader_advance 92 rfl) rfl (lv_at hl 0 rfl) ?_
      refine G_Reader_at hc hw wd_49 (dq tk_Reader_advance 93 rfl) ?_
      refine AL_Reader_tape hc hw c2 (dq tk_Reader_advance 94 rfl) ?_
      obtain ⟨r3, h95, hf⟩ := bn1_someZ hf
      refine K_Reader_isDigit hc hw wd_1245 h95 (hR.mono (by decide)) ⟨Nat.zero_le _, Nat.zero_le _⟩ hl.1 (Nat.le_of_ble_eq_true rfl) (dq tk_Reader_advance 95 rfl) (fun H locs hw _ => ?_)
      refine lv_if_eq (tgt := 286) hx hb (dq tk_Reader_advance 96 rfl) (by decide) (fun c4 => ?_) (fun c4 => ?_)
      · replace hf := if_t hf c4
        refine lv_aload_n hx hb (dq tk_Reader_advance 145 rfl) rfl (lv_at hl 0 rfl) ?_
        refine lv_aload_n hx hb (dq tk_Reader_advance 146 rfl) rfl (lv_at hl 0 rfl) ?_
        refine G_Reader_tape hc hw wd_40 (dq tk_Reader_advance 147 rfl) ?_
        refine lv_aload_n hx hb (dq tk_Reader_advance 148 rfl) rfl (lv_at hl 0 rfl) ?_
        refine G_Reader_at hc hw wd_49 (dq tk_Reader_advance 149 rfl) ?_
        refine AL_Reader_tape hc hw c2 (dq tk_Reader_advance 150 rfl) ?_
        obtain ⟨r4, h151, hf⟩ := bn1_someZ hf
        refine K_Reader_isSignByte hc hw wd_1249 h151 (hR.mono (by decide)) ⟨Nat.zero_le _, Nat.zero_le _⟩ hl.1 (Nat.le_of_ble_eq_true rfl) (dq tk_Reader_advance 151 rfl) (fun H locs hw _ => ?_)
        refine lv_if_eq (tgt := 314) hx hb (dq tk_Reader_advance 152 rfl) (by decide) (fun c5 => ?_) (fun c5 => ?_)
        · replace hf := if_t hf c5
          refine lv_iconst (v := 3) hx hb (dq tk_Reader_advance 159 rfl) (by decide) ?_
          exact w_Reader_advance_315 hc hr hR hw (lv_sub hl [0] rfl) hf
        · replace hf := if_f hf c5
          refine lv_aload_n hx hb (dq tk_Reader_advance 153 rfl) rfl (lv_at hl 0 rfl) ?_
          refine G_Reader_tape hc hw wd_40 (dq tk_Reader_advance 154 rfl) ?_
          refine lv_aload_n hx hb (dq tk_Reader_advance 155 rfl) rfl (lv_at hl 0 rfl) ?_
          refine G_Reader_at hc hw wd_49 (dq tk_Reader_advance 156 rfl) ?_
          refine AL_Reader_tape hc hw c2 (dq tk_Reader_advance 157 rfl) ?_
          refine lv_goto (tgt := 315) hx hb (dq tk_Reader_advance 158 rfl) (by decide) ?_
          exact w_Reader_advance_315 hc hr hR hw (lv_sub hl [0] rfl) hf
      · replace hf := if_f hf c4
        refine lv_aload_n hx hb (dq tk_Reader_advance 97 rfl) rfl (lv_at hl 0 rfl) ?_
        refine lv_iconst (v := 2) hx hb (dq tk_Reader_advance 98 rfl) (by decide) ?_
        obtain ⟨σ5, hσ5, hf⟩ := nm_some hf
        refine P_Reader_token hc hw wd_50 hσ5 (dq tk_Reader_advance 99 rfl) (fun H locs hw => ?_)
        refine lv_aload_n hx hb (dq tk_Reader_advance 100 rfl) rfl (lv_at hl 0 rfl) ?_
        refine lv_iconst (v := 0) hx hb (dq tk_Reader_advance 101 rfl) (by decide) ?_
        obtain ⟨σ6, hσ6, hf⟩ := nm_some hf
        refine P_Reader_number hc hw wd_53 hσ6 (dq tk_Reader_advance 102 rfl) (fun H locs hw => ?_)
        exact w_Reader_advance_205 hc hr hR N hw (lv_sub hl [0] rfl) hf
    · replace hf := if_f hf c3
      refine lv_aload_n hx hb (dq tk_Reader_advance 46 rfl) rfl (lv_at hl 0 rfl) ?_
      refine lv_iconst (v := 1) hx hb (dq tk_Reader_advance 47 rfl) (by decide) ?_
      obtain ⟨σ7, hσ7, hf⟩ := nm_some hf
      refine P_Reader_token hc hw wd_50 hσ7 (dq tk_Reader_advance 48 rfl) (fun H locs hw => ?_)
      exact w_Reader_advance_99 hc hr hR N hw (lv_sub hl [0] rfl) hf
  · replace hf := if_f hf c1
    refine lv_aload_n hx hb (dq tk_Reader_advance 35 rfl) rfl (lv_at hl 0 rfl) ?_
    refine lv_iconst (v := 0) hx hb (dq tk_Reader_advance 36 rfl) (by decide) ?_
    obtain ⟨σ8, hσ8, hf⟩ := nm_some hf
    refine P_Reader_token hc hw wd_50 hσ8 (dq tk_Reader_advance 37 rfl) (fun H locs hw => ?_)
    refine lv_goto (tgt := 328) hx hb (dq tk_Reader_advance 38 rfl) (by decide) ?_
    cases hf
    exact x_vret hc hw hr (dq tk_Reader_advance 167 rfl)
set_option maxRecDepth 10000 in
theorem w_Reader_advance_0 {N : Nat} (hc : Cxz p s m meth c args prog_10_method_25_code "LabourExchange$Reader" 2 Z) (hr : meth.sig.returnType = none) (hR : RO R 9) {σ' : St} (n : Nat) : ∀ {σ : St} {H : Heap} {locs : List Loc} {ls : Array Slot}, Wd Z (cmb σ μ) s H locs → lv_has ls 2 [(0, .ref (Z.1 + 1))] → fReader_advance_0 N n σ = some σ' → W p l e R s m args below meth c H locs 0 0 (MQ below (Qr Z none True (cmb σ' μ)) args s 0 0 (fun q => Z.1 ≤ q)) (F0 m 0 ls []) := by
  have hx := hc.hx
  have hb := hc.hb
  induction n with
  | zero =>
    intro σ H locs ls hw hl hf
    have hf : none = some _ := hf
    cases hf
  | succ n ih =>
    intro σ H locs ls hw hl hf
    unfold fReader_advance_0 at hf
    refine lv_aload_n hx hb (dq tk_Reader_advance 0 rfl) rfl (lv_at hl 0 rfl) ?_
    refine G_Reader_at hc hw wd_49 (dq tk_Reader_advance 1 rfl) ?_
    refine lv_aload_n hx hb (dq tk_Reader_advance 2 rfl) rfl (lv_at hl 0 rfl) ?_
    refine G_Reader_length hc hw wd_47 (dq tk_Reader_advance 3 rfl) ?_
    refine lv_icmp_ge (tgt := 52) hx hb (dq tk_Reader_advance 4 rfl) (by decide) (fun c1 => ?_) (fun c1 => ?_)
    · replace hf := if_t hf c1
      exact w_Reader_advance_52 hc hr hR hw (lv_sub hl [0] rfl) hf
    · replace hf := if_f hf c1
      refine lv_aload_n hx hb (dq tk_Reader_advance 5 rfl) rfl (lv_at hl 0 rfl) ?_
      refine G_Reader_tape hc hw wd_40 (dq tk_Reader_advance 6 rfl) ?_
      refine lv_aload_n hx hb (dq tk_Reader_advance 7 rfl) rfl (lv_at hl 0 rfl) ?_
      refine G_Reader_at hc hw wd_49 (dq tk_Reader_advance 8 rfl) ?_
      obtain ⟨c2, hf⟩ := chk_some hf
      refine AL_Reader_tape hc hw c2 (dq tk_Reader_advance 9 rfl) ?_
      refine lv_bipush (v := 32) hx hb (dq tk_Reader_advance 10 rfl) (by decide) ?_
      refine lv_icmp_eq (tgt := 39) hx hb (dq tk_Reader_advance 11 rfl) (by decide) (fun c3 => ?_) (fun c3 => ?_)
      · replace hf := if_t hf c3
        exact w_Reader_advance_39 hc hr hR ih hw (lv_sub hl [0] rfl) hf
      · replace hf := if_f hf c3
        refine lv_aload_n hx hb (dq tk_Reader_advance 12 rfl) rfl (lv_at hl 0 rfl) ?_
        refine G_Reader_tape hc hw wd_40 (dq tk_Reader_advance 13 rfl) ?_
        refine lv_aload_n hx hb (dq tk_Reader_advance 14 rfl) rfl (lv_at hl 0 rfl) ?_
        refine G_Reader_at hc hw wd_49 (dq tk_Reader_advance 15 rfl) ?_
        refine AL_Reader_tape hc hw c2 (dq tk_Reader_advance 16 rfl) ?_
        refine lv_bipush (v := 10) hx hb (dq tk_Reader_advance 17 rfl) (by decide) ?_
        refine lv_icmp_ne (tgt := 52) hx hb (dq tk_Reader_advance 18 rfl) (by decide) (fun c4 => ?_) (fun c4 => ?_)
        · replace hf := if_f hf c4
          exact w_Reader_advance_52 hc hr hR hw (lv_sub hl [0] rfl) hf
        · replace hf := if_t hf c4
          exact w_Reader_advance_39 hc hr hR ih hw (lv_sub hl [0] rfl) hf
theorem c_Reader_advance {N : Nat}  {σ' : St} {σ : St} (hf : fReader_advance N σ = some σ') : Ct l Z y_Reader_advance prog_10_method_25_code 2 none (rmo (9)) [.ref (Z.1 + 1)] (cmb σ μ) none True (cmb σ' μ) := by
  refine x_met (by decide) (Nat.le_of_ble_eq_true rfl) (fun p e s m args below meth c ls hc hr hw hl => ?_)
  exact w_Reader_advance_0 hc hr RO.self N hw hl hf
theorem K_Reader_advance {idx : Nat} {N : Nat}  {σ' : St} {σ : St} (hc : Cxz p s m meth c args cc own nL Z) (hw : Wd Z (cmb σ μ) s H locs) (hl : Cond.methodLink own idx y_Reader_advance ∈ TB) (hf : fReader_advance N σ = some σ') (hR : RO R ((9) + 1)) (hcs : cells ≤ R.cells ∧ slots ≤ R.slots) (hls : ls.size = nL) (hst : (rest.map fun v => v.category).sum ≤ 8) (hdg : decode cc pc = .ok (.invokevirtual idx, 3)) (kk : ∀ (H1 : Heap) (locs1 : List Loc), Wd Z (cmb σ' μ) s H1 locs1 → True → W p l e R s m args below meth c H1 locs1 cells slots Q (F0 m (pc + 3) ls rest)) : W p l e R s m args below meth c H locs cells slots Q (F0 m pc ls (.ref (Z.1 + 1) :: rest)) :=
  x_iv hc hw (c_Reader_advance hf) yv_Reader_advance (Nat.le_of_ble_eq_true rfl) rfl rfl hl (RO.call hR (by decide)) hcs rfl hls hst hdg rfl kk
set_option maxRecDepth 10000 in
theorem w_Reader_fail {N : Nat} (hc : Cxz p s m meth c args prog_10_method_24_code "LabourExchange$Reader" 2 Z) (hr : meth.sig.returnType = none) (hR : RO R 0) {σ' : St} : ∀ {x1 : Int32} {σ : St} {H : Heap} {locs : List Loc} {ls : Array Slot}, Wd Z (cmb σ μ) s H locs → lv_has ls 2 [(0, .ref (Z.1 + 1)), (1, .int x1)] → fReader_fail N x1 σ = some σ' → W p l e R s m args below meth c H locs 0 0 (MQ below (Qr Z none True (cmb σ' μ)) args s 0 0 (fun q => Z.1 ≤ q)) (F0 m 0 ls []) := by
  have hx := hc.hx
  have hb := hc.hb
  intro x1 σ H locs ls hw hl hf
  unfold fReader_fail at hf
  refine lv_aload_n hx hb (dq tk_Reader_fail 0 rfl) rfl (lv_at hl 0 rfl) ?_
  refine G_Reader_fault hc hw wd_46 (dq tk_Reader_fail 1 rfl) ?_
  refine lv_if_ne (tgt := 20) hx hb (dq tk_Reader_fail 2 rfl) (by decide) (fun c1 => ?_) (fun c1 => ?_)
  · replace hf := if_f hf c1
    cases hf
    exact x_vret hc hw hr (dq tk_Reader_fail 10 rfl)
  · replace hf := if_t hf c1
    refine lv_aload_n hx hb (dq tk_Reader_fail 3 rfl) rfl (lv_at hl 0 rfl) ?_
    refine lv_iload_n hx hb (dq tk_Reader_fail 4 rfl) rfl (lv_at hl 1 rfl) ?_
    obtain ⟨σ1, hσ1, hf⟩ := nm_some hf
    refine P_Reader_fault hc hw wd_46 hσ1 (dq tk_Reader_fail 5 rfl) (fun H locs hw => ?_)
    refine lv_aload_n hx hb (dq tk_Reader_fail 6 rfl) rfl (lv_at hl 0 rfl) ?_
    refine lv_aload_n hx hb (dq tk_Reader_fail 7 rfl) rfl (lv_at hl 0 rfl) ?_
    refine G_Reader_start hc hw wd_48 (dq tk_Reader_fail 8 rfl) ?_
    obtain ⟨σ2, hσ2, hf⟩ := nm_some hf
    refine P_Reader_place hc hw wd_44 hσ2 (dq tk_Reader_fail 9 rfl) (fun H locs hw => ?_)
    cases hf
    exact x_vret hc hw hr (dq tk_Reader_fail 10 rfl)
theorem c_Reader_fail {N : Nat}  {x1 : Int32} {σ' : St} {σ : St} (hf : fReader_fail N x1 σ = some σ') : Ct l Z y_Reader_fail prog_10_method_24_code 2 none (rmo (0)) [.ref (Z.1 + 1), .int x1] (cmb σ μ) none True (cmb σ' μ) := by
  refine x_met (by decide) (Nat.le_of_ble_eq_true rfl) (fun p e s m args below meth c ls hc hr hw hl => ?_)
  exact w_Reader_fail hc hr RO.self hw hl hf
theorem K_Reader_fail {idx : Nat} {N : Nat}  {x1 : Int32} {σ' : St} {σ : St} (hc : Cxz p s m meth c args cc own nL Z) (hw : Wd Z (cmb σ μ) s H locs) (hl : Cond.methodLink own idx y_Reader_fail ∈ TB) (hf : fReader_fail N x1 σ = some σ') (hR : RO R ((0) + 1)) (hcs : cells ≤ R.cells ∧ slots ≤ R.slots) (hls : ls.size = nL) (hst : (rest.map fun v => v.category).sum ≤ 8) (hdg : decode cc pc = .ok (.invokevirtual idx, 3)) (kk : ∀ (H1 : Heap) (locs1 : List Loc), Wd Z (cmb σ' μ) s H1 locs1 → True → W p l e R s m args below meth c H1 locs1 cells slots Q (F0 m (pc + 3) ls rest)) : W p l e R s m args below meth c H locs cells slots Q (F0 m pc ls (.int x1 :: .ref (Z.1 + 1) :: rest)) :=
  x_iv hc hw (c_Reader_fail hf) yv_Reader_fail (Nat.le_of_ble_eq_true rfl) rfl rfl hl (RO.call hR (by decide)) hcs rfl hls hst hdg rfl kk
set_option maxRecDepth 10000 in
theorem w_Reader_readTrade {N : Nat} (hc : Cxz p s m meth c args prog_10_method_8_code "LabourExchange$Reader" 3 Z) (hr : meth.sig.returnType = (some .int)) (hR : RO R 10) {rv : Int32} {σ' : St} : ∀ {x1 : Int32} {σ : St} {H : Heap} {locs : List Loc} {ls : Array Slot}, Wd Z (cmb σ μ) s H locs → lv_has ls 3 [(0, .ref (Z.1 + 1)), (1, .int x1)] → fReader_readTrade N x1 σ = some (rv, σ') → W p l e R s m args below meth c H locs 0 0 (MQ below (Qr Z (some (.int rv)) True (cmb σ' μ)) args s 0 0 (fun q => Z.1 ≤ q)) (F0 m 0 ls []) := by
  have hx := hc.hx
  have hb := hc.hb
  intro x1 σ H locs ls hw hl hf
  unfold fReader_readTrade at hf
  refine lv_aload_n hx hb (dq tk_Reader_readTrade 0 rfl) rfl (lv_at hl 0 rfl) ?_
  refine G_Reader_token hc hw wd_50 (dq tk_Reader_readTrade 1 rfl) ?_
  refine lv_iconst (v := 2) hx hb (dq tk_Reader_readTrade 2 rfl) (by decide) ?_
  refine lv_icmp_eq (tgt := 16) hx hb (dq tk_Reader_readTrade 3 rfl) (by decide) (fun c1 => ?_) (fun c1 => ?_)
  · replace hf := if_t hf c1
    refine lv_aload_n hx hb (dq tk_Reader_readTrade 8 rfl) rfl (lv_at hl 0 rfl) ?_
    refine G_Reader_number hc hw wd_53 (dq tk_Reader_readTrade 9 rfl) ?_
    refine lv_bipush (v := 8) hx hb (dq tk_Reader_readTrade 10 rfl) (by decide) ?_
    refine lv_icmp_lt (tgt := 33) hx hb (dq tk_Reader_readTrade 11 rfl) (by decide) (fun c2 => ?_) (fun c2 => ?_)
    · replace hf := if_t hf c2
      refine lv_iload_n hx hb (dq tk_Reader_readTrade 16 rfl) rfl (lv_at hl 1 rfl) ?_
      refine lv_iconst (v := 1) hx hb (dq tk_Reader_readTrade 17 rfl) (by decide) ?_
      refine lv_aload_n hx hb (dq tk_Reader_readTrade 18 rfl) rfl (lv_at hl 0 rfl) ?_
      refine G_Reader_number hc hw wd_53 (dq tk_Reader_readTrade 19 rfl) ?_
      refine lv_ishl hx hb (dq tk_Reader_readTrade 20 rfl) ?_
      refine lv_iand hx hb (dq tk_Reader_readTrade 21 rfl) ?_
      refine lv_if_eq (tgt := 52) hx hb (dq tk_Reader_readTrade 22 rfl) (by decide) (fun c3 => ?_) (fun c3 => ?_)
      · replace hf := if_t hf c3
        refine lv_aload_n hx hb (dq tk_Reader_readTrade 27 rfl) rfl (lv_at hl 0 rfl) ?_
        refine G_Reader_number hc hw wd_53 (dq tk_Reader_readTrade 28 rfl) ?_
        obtain ⟨y1, hy1, hf⟩ := nm_some hf
        refine tst (congrArg Value.int hy1) ?_
        refine lv_istore_n (lv' := [(2, .int y1), (0, .ref (Z.1 + 1)), (1, .int x1)]) hx hb (dq tk_Reader_readTrade 29 rfl) rfl hl (by decide) rfl (fun ls hl => ?_)
        refine lv_aload_n hx hb (dq tk_Reader_readTrade 30 rfl) rfl (lv_at hl 1 rfl) ?_
        obtain ⟨σ2, h31, hf⟩ := bn1_someZ hf
        refine K_Reader_advance hc hw wd_1183 h31 (hR.mono (by decide)) ⟨Nat.zero_le _, Nat.zero_le _⟩ hl.1 (Nat.le_of_ble_eq_true rfl) (dq tk_Reader_readTrade 31 rfl) (fun H locs hw _ => ?_)
        refine lv_iload_n hx hb (dq tk_Reader_readTrade 32 rfl) rfl (lv_at hl 2 rfl) ?_
        refine lv_iconst (v := 1) hx hb (dq tk_Reader_readTrade 33 rfl) (by decide) ?_
        refine lv_iload_n hx hb (dq tk_Reader_readTrade 34 rfl) rfl (lv_at hl 0 rfl) ?_
        refine lv_ishl hx hb (dq tk_Reader_readTrade 35 rfl) ?_
        refine lv_ior hx hb (dq tk_Reader_readTrade 36 rfl) ?_
        cases hf
        exact x_iret hc hw hr (dq tk_Reader_readTrade 37 rfl)
      · replace hf := if_f hf c3
        refine lv_aload_n hx hb (dq tk_Reader_readTrade 23 rfl) rfl (lv_at hl 0 rfl) ?_
        refine lv_iconst (v := 4) hx hb (dq tk_Reader_readTrade 24 rfl) (by decide) ?_
        obtain ⟨σ3, h25, hf⟩ := bn1_someZ hf
        refine K_Reader_fail hc hw wd_1256 h25 (hR.mono (by decide)) ⟨Nat.zero_le _, Nat.zero_le _⟩ hl.1 (Nat.le_of_ble_eq_true rfl) (dq tk_Reader_readTrade 25 rfl) (fun H locs hw _ => ?_)
        refine lv_goto (tgt := 67) hx hb (dq tk_Reader_readTrade 26 rfl) (by decide) ?_
        refine lv_iload_n hx hb (dq tk_Reader_readTrade 38 rfl) rfl (lv_at hl 1 rfl) ?_
        cases hf
        exact x_iret hc hw hr (dq tk_Reader_readTrade 39 rfl)
    · replace hf := if_f hf c2
      refine lv_aload_n hx hb (dq tk_Reader_readTrade 12 rfl) rfl (lv_at hl 0 rfl) ?_
      refine lv_iconst (v := 2) hx hb (dq tk_Reader_readTrade 13 rfl) (by decide) ?_
      obtain ⟨σ4, h14, hf⟩ := bn1_someZ hf
      refine K_Reader_fail hc hw wd_1256 h14 (hR.mono (by decide)) ⟨Nat.zero_le _, Nat.zero_le _⟩ hl.1 (Nat.le_of_ble_eq_true rfl) (dq tk_Reader_readTrade 14 rfl) (fun H locs hw _ => ?_)
      refine lv_goto (tgt := 67) hx hb (dq tk_Reader_readTrade 15 rfl) (by decide) ?_
      refine lv_iload_n hx hb (dq tk_Reader_readTrade 38 rfl) rfl (lv_at hl 1 rfl) ?_
      cases hf
      exact x_iret hc hw hr (dq tk_Reader_readTrade 39 rfl)
  · replace hf := if_f hf c1
    refine lv_aload_n hx hb (dq tk_Reader_readTrade 4 rfl) rfl (lv_at hl 0 rfl) ?_
    refine lv_iconst (v := 1) hx hb (dq tk_Reader_readTrade 5 rfl) (by decide) ?_
    obtain ⟨σ5, h6, hf⟩ := bn1_someZ hf
    refine K_Reader_fail hc hw wd_1256 h6 (hR.mono (by decide)) ⟨Nat.zero_le _, Nat.zero_le _⟩ hl.1 (Nat.le_of_ble_eq_true rfl) (dq tk_Reader_readTrade 6 rfl) (fun H locs hw _ => ?_)
    refine lv_goto (tgt := 67) hx hb (dq tk_Reader_readTrade 7 rfl) (by decide) ?_
    refine lv_iload_n hx hb (dq tk_Reader_readTrade 38 rfl) rfl (lv_at hl 1 rfl) ?_
    cases hf
    exact x_iret hc hw hr (dq tk_Reader_readTrade 39 rfl)
theorem c_Reader_readTrade {N : Nat}  {x1 : Int32} {rv : Int32} {σ' : St} {σ : St} (hf : fReader_readTrade N x1 σ = some (rv, σ')) : Ct l Z y_Reader_readTrade prog_10_method_8_code 3 (some .int) (rmo (10)) [.ref (Z.1 + 1), .int x1] (cmb σ μ) (some (.int rv)) True (cmb σ' μ) := by
  refine x_met (by decide) (Nat.le_of_ble_eq_true rfl) (fun p e s m args below meth c ls hc hr hw hl => ?_)
  exact w_Reader_readTrade hc hr RO.self hw hl hf
theorem K_Reader_readTrade {idx : Nat} {N : Nat}  {x1 : Int32} {rv : Int32} {σ' : St} {σ : St} (hc : Cxz p s m meth c args cc own nL Z) (hw : Wd Z (cmb σ μ) s H locs) (hl : Cond.methodLink own idx y_Reader_readTrade ∈ TB) (hf : fReader_readTrade N x1 σ = some (rv, σ')) (hR : RO R ((10) + 1)) (hcs : cells ≤ R.cells ∧ slots ≤ R.slots) (hls : ls.size = nL) (hst : (rest.map fun v => v.category).sum ≤ 8) (hdg : decode cc pc = .ok (.invokevirtual idx, 3)) (kk : ∀ (H1 : Heap) (locs1 : List Loc), Wd Z (cmb σ' μ) s H1 locs1 → True → W p l e R s m args below meth c H1 locs1 cells slots Q (F0 m (pc + 3) ls (.int rv :: rest))) : W p l e R s m args below meth c H locs cells slots Q (F0 m pc ls (.int x1 :: .ref (Z.1 + 1) :: rest)) :=
  x_iv hc hw (c_Reader_readTrade hf) yv_Reader_readTrade (Nat.le_of_ble_eq_true rfl) rfl rfl hl (RO.call hR (by decide)) hcs rfl hls hst hdg rfl kk
set_option maxRecDepth 10000 in
theorem w_Reader_readInsured_46 {N : Nat} (hc : Cxz p s m meth c args prog_10_method_7_code "LabourExchange$Reader" 3 Z) (hr : meth.sig.returnType = none) (hR : RO R 11) {σ' : St} : ∀ {x1 : Int32} {σ : St} {H : Heap} {locs : List Loc} {ls : Array Slot}, Wd Z (cmb σ μ) s H locs → lv_has ls 3 [(0, .ref (Z.1 + 1)), (1, .int x1)] → fReader_readInsured_46 N x1 σ = some σ' → W p l e R s m args below meth c H locs 0 0 (MQ below (Qr Z none True (cmb σ' μ)) args s 0 0 (fun q => Z.1 ≤ q)) (F0 m 46 ls []) := by
  have hx := hc.hx
  have hb := hc.hb
  intro x1 σ H locs ls hw hl hf
  unfold fReader_readInsured_46 at hf
  refine lv_aload_n hx hb (dq tk_Reader_readInsured 24 rfl) rfl (lv_at hl 0 rfl) ?_
  obtain ⟨c1, hf⟩ := chk_some hf
  refine G_Reader_act hc hw wd_54 c1 (dq tk_Reader_readInsured 25 rfl) ?_
  refine lv_iload_n hx hb (dq tk_Reader_readInsured 26 rfl) rfl (lv_at hl 1 rfl) ?_
  obtain ⟨σ1, hσ1, hf⟩ := nm_some hf
  refine P_Act_insured (inb_lt c1) hc hw wd_423 hσ1 (dq tk_Reader_readInsured 27 rfl) (fun H locs hw => ?_)
  cases hf
  exact x_vret hc hw hr (dq tk_Reader_readInsured 28 rfl)
set_option maxRecDepth 10000 in
theorem w_Reader_readInsured_8 {N : Nat} (hc : Cxz p s m meth c args prog_10_method_7_code "LabourExchange$Reader" 3 Z) (hr : meth.sig.returnType = none) (hR : RO R 11) {σ' : St} (n : Nat) : ∀ {x1 : Int32} {x2 : Int32} {σ : St} {H : Heap} {locs : List Loc} {ls : Array Slot}, Wd Z (cmb σ μ) s H locs → lv_has ls 3 [(0, .ref (Z.1 + 1)), (1, .int x1), (2, .int x2)] → fReader_readInsured_8 N n x1 x2 σ = some σ' → W p l e R s m args below meth c H locs 0 0 (MQ below (Qr Z none True (cmb σ' μ)) args s 0 0 (fun q => Z.1 ≤ q)) (F0 m 8 ls []) := by
  have hx := hc.hx
  have hb := hc.hb
  induction n with
  | zero =>
    intro x1 x2 σ H locs ls hw hl hf
    have hf : none = some _ := hf
    cases hf
  | succ n ih =>
    intro x1 x2 σ H locs ls hw hl hf
    unfold fReader_readInsured_8 at hf
    refine lv_iload_n hx hb (dq tk_Reader_readInsured 6 rfl) rfl (lv_at hl 2 rfl) ?_
    refine lv_bipush (v := 8) hx hb (dq tk_Reader_readInsured 7 rfl) (by decide) ?_
    refine lv_icmp_ge (tgt := 46) hx hb (dq tk_Reader_readInsured 8 rfl) (by decide) (fun c1 => ?_) (fun c1 => ?_)
    · replace hf := if_t hf c1
      exact w_Reader_readInsured_46 hc hr hR hw (lv_sub hl [0, 1] rfl) hf
    · replace hf := if_f hf c1
      refine lv_aload_n hx hb (dq tk_Reader_readInsured 9 rfl) rfl (lv_at hl 0 rfl) ?_
      refine G_Reader_fault hc hw wd_46 (dq tk_Reader_readInsured 10 rfl) ?_
      refine lv_if_ne (tgt := 46) hx hb (dq tk_Reader_readInsured 11 rfl) (by decide) (fun c2 => ?_) (fun c2 => ?_)
      · replace hf := if_f hf c2
        exact w_Reader_readInsured_46 hc hr hR hw (lv_sub hl [0, 1] rfl) hf
      · replace hf := if_t hf c2
        refine lv_aload_n hx hb (dq tk_Reader_readInsured 12 rfl) rfl (lv_at hl 0 rfl) ?_
        refine G_Reader_token hc hw wd_50 (dq tk_Reader_readInsured 13 rfl) ?_
        refine lv_bipush (v := 44) hx hb (dq tk_Reader_readInsured 14 rfl) (by decide) ?_
        refine lv_icmp_ne (tgt := 46) hx hb (dq tk_Reader_readInsured 15 rfl) (by decide) (fun c3 => ?_) (fun c3 => ?_)
        · replace hf := if_f hf c3
          exact w_Reader_readInsured_46 hc hr hR hw (lv_sub hl [0, 1] rfl) hf
        · replace hf := if_t hf c3
          refine lv_aload_n hx hb (dq tk_Reader_readInsured 16 rfl) rfl (lv_at hl 0 rfl) ?_
          obtain ⟨σ1, h17, hf⟩ := bn1_someZ hf
          refine K_Reader_advance hc hw wd_1183 h17 (hR.mono (by decide)) ⟨Nat.zero_le _, Nat.zero_le _⟩ hl.1 (Nat.le_of_ble_eq_true rfl) (dq tk_Reader_readInsured 17 rfl) (fun H locs hw _ => ?_)
          refine lv_aload_n hx hb (dq tk_Reader_readInsured 18 rfl) rfl (lv_at hl 0 rfl) ?_
          refine lv_iload_n hx hb (dq tk_Reader_readInsured 19 rfl) rfl (lv_at hl 1 rfl) ?_
          obtain ⟨r2, σ3, h20, hf⟩ := bnd_some hf
          refine K_Reader_readTrade hc hw wd_1264 h20 (hR.mono (by decide)) ⟨Nat.zero_le _, Nat.zero_le _⟩ hl.1 (Nat.le_of_ble_eq_true rfl) (dq tk_Reader_readInsured 20 rfl) (fun H locs hw _ => ?_)
          refine lv_istore_n (lv' := [(1, .int r2), (0, .ref (Z.1 + 1)), (2, .int x2)]) hx hb (dq tk_Reader_readInsured 21 rfl) rfl hl (by decide) rfl (fun ls hl => ?_)
          refine lv_iinc (v := (x2 + 1)) (lv' := [(2, .int (x2 + 1)), (1, .int r2), (0, .ref (Z.1 + 1))]) hx hb (dq tk_Reader_readInsured 22 rfl) hl (k := 2) rfl rfl (by decide) rfl (fun ls hl => ?_)
          refine lv_goto (tgt := 8) hx hb (dq tk_Reader_readInsured 23 rfl) (by decide) ?_
          exact ih hw (lv_sub hl [2, 1, 0] rfl) hf
set_option maxRecDepth 10000 in
theorem w_Reader_readInsured {N : Nat} (hc : Cxz p s m meth c args prog_10_method_7_code "LabourExchange$Reader" 3 Z) (hr : meth.sig.returnType = none) (hR : RO R 11) {σ' : St} : ∀ {σ : St} {H : Heap} {locs : List Loc} {ls : Array Slot}, Wd Z (cmb σ μ) s H locs → lv_has ls 3 [(0, .ref (Z.1 + 1))] → fReader_readInsured N σ = some σ' → W p l e R s m args below meth c H locs 0 0 (MQ below (Qr Z none True (cmb σ' μ)) args s 0 0 (fun q => Z.1 ≤ q)) (F0 m 0 ls []) := by
  have hx := hc.hx
  have hb := hc.hb
  intro σ H locs ls hw hl hf
  unfold fReader_readInsured at hf
  refine lv_aload_n hx hb (dq tk_Reader_readInsured 0 rfl) rfl (lv_at hl 0 rfl) ?_
  refine lv_iconst (v := 0) hx hb (dq tk_Reader_readInsured 1 rfl) (by decide) ?_
  obtain ⟨r1, σ2, h2, hf⟩ := bnd_some hf
  refine K_Reader_readTrade hc hw wd_1264 h2 (hR.mono (by decide)) ⟨Nat.zero_le _, Nat.zero_le _⟩ hl.1 (Nat.le_of_ble_eq_true rfl) (dq tk_Reader_readInsured 2 rfl) (fun H locs hw _ => ?_)
  refine lv_istore_n (lv' := [(1, .int r1), (0, .ref (Z.1 + 1))]) hx hb (dq tk_Reader_readInsured 3 rfl) rfl hl (by decide) rfl (fun ls hl => ?_)
  refine lv_iconst (v := 0) hx hb (dq tk_Reader_readInsured 4 rfl) (by decide) ?_
  refine lv_istore_n (lv' := [(2, .int 0), (1, .int r1), (0, .ref (Z.1 + 1))]) hx hb (dq tk_Reader_readInsured 5 rfl) rfl hl (by decide) rfl (fun ls hl => ?_)
  exact w_Reader_readInsured_8 hc hr hR N hw (lv_sub hl [2, 1, 0] rfl) hf
theorem c_Reader_readInsured {N : Nat}  {σ' : St} {σ : St} (hf : fReader_readInsured N σ = some σ') : Ct l Z y_Reader_readInsured prog_10_method_7_code 3 none (rmo (11)) [.ref (Z.1 + 1)] (cmb σ μ) none True (cmb σ' μ) := by
  refine x_met (by decide) (Nat.le_of_ble_eq_true rfl) (fun p e s m args below meth c ls hc hr hw hl => ?_)
  exact w_Reader_readInsured hc hr RO.self hw hl hf
theorem K_Reader_readInsured {idx : Nat} {N : Nat}  {σ' : St} {σ : St} (hc : Cxz p s m meth c args cc own nL Z) (hw : Wd Z (cmb σ μ) s H locs) (hl : Cond.methodLink own idx y_Reader_readInsured ∈ TB) (hf : fReader_readInsured N σ = some σ') (hR : RO R ((11) + 1)) (hcs : cells ≤ R.cells ∧ slots ≤ R.slots) (hls : ls.size = nL) (hst : (rest.map fun v => v.category).sum ≤ 8) (hdg : decode cc pc = .ok (.invokevirtual idx, 3)) (kk : ∀ (H1 : Heap) (locs1 : List Loc), Wd Z (cmb σ' μ) s H1 locs1 → True → W p l e R s m args below meth c H1 locs1 cells slots Q (F0 m (pc + 3) ls rest)) : W p l e R s m args below meth c H locs cells slots Q (F0 m pc ls (.ref (Z.1 + 1) :: rest)) :=
  x_iv hc hw (c_Reader_readInsured hf) yv_Reader_readInsured (Nat.le_of_ble_eq_true rfl) rfl rfl hl (RO.call hR (by decide)) hcs rfl hls hst hdg rfl kk
set_option maxRecDepth 10000 in
theorem w_Reader_readNumber {N : Nat} (hc : Cxz p s m meth c args prog_10_method_10_code "LabourExchange$Reader" 2 Z) (hr : meth.sig.returnType = (some .int)) (hR : RO R 10) {rv : Int32} {σ' : St} : ∀ {σ : St} {H : Heap} {locs : List Loc} {ls : Array Slot}, Wd Z (cmb σ μ) s H locs → lv_has ls 2 [(0, .ref (Z.1 + 1))] → fReader_readNumber N σ = some (rv, σ') → W p l e R s m args below meth c H locs 0 0 (MQ below (Qr Z (some (.int rv)) True (cmb σ' μ)) args s 0 0 (fun q => Z.1 ≤ q)) (F0 m 0 ls []) := by
  have hx := hc.hx
  have hb := hc.hb
  intro σ H locs ls hw hl hf
  unfold fReader_readNumber at hf
  refine lv_aload_n hx hb (dq tk_Reader_readNumber 0 rfl) rfl (lv_at hl 0 rfl) ?_
  refine G_Reader_number hc hw wd_53 (dq tk_Reader_readNumber 1 rfl) ?_
  obtain ⟨y1, hy1, hf⟩ := nm_some hf
  refine tst (congrArg Value.int hy1) ?_
  refine lv_istore_n (lv' := [(1, .int y1), (0, .ref (Z.1 + 1))]) hx hb (dq tk_Reader_readNumber 2 rfl) rfl hl (by decide) rfl (fun ls hl => ?_)
  refine lv_aload_n hx hb (dq tk_Reader_readNumber 3 rfl) rfl (lv_at hl 1 rfl) ?_
  refine G_Reader_token hc hw wd_50 (dq tk_Reader_readNumber 4 rfl) ?_
  refine lv_iconst (v := 2) hx hb (dq tk_Reader_readNumber 5 rfl) (by decide) ?_
  refine lv_icmp_eq (tgt := 21) hx hb (dq tk_Reader_readNumber 6 rfl) (by decide) (fun c1 => ?_) (fun c1 => ?_)
  · replace hf := if_t hf c1
    refine lv_iload_n hx hb (dq tk_Reader_readNumber 11 rfl) rfl (lv_at hl 0 rfl) ?_
    refine lv_ldc hx hb hc.ho (hc.ht _ wd_1248) (dq tk_Reader_readNumber 12 rfl) ?_
    refine lv_icmp_lt (tgt := 35) hx hb (dq tk_Reader_readNumber 13 rfl) (by decide) (fun c2 => ?_) (fun c2 => ?_)
    · replace hf := if_t hf c2
      refine lv_aload_n hx hb (dq tk_Reader_readNumber 18 rfl) rfl (lv_at hl 1 rfl) ?_
      obtain ⟨σ2, h19, hf⟩ := bn1_someZ hf
      refine K_Reader_advance hc hw wd_1183 h19 (hR.mono (by decide)) ⟨Nat.zero_le _, Nat.zero_le _⟩ hl.1 (Nat.le_of_ble_eq_true rfl) (dq tk_Reader_readNumber 19 rfl) (fun H locs hw _ => ?_)
      refine lv_iload_n hx hb (dq tk_Reader_readNumber 20 rfl) rfl (lv_at hl 0 rfl) ?_
      cases hf
      exact x_iret hc hw hr (dq tk_Reader_readNumber 21 rfl)
    · replace hf := if_f hf c2
      refine lv_aload_n hx hb (dq tk_Reader_readNumber 14 rfl) rfl (lv_at hl 1 rfl) ?_
      refine lv_iconst (v := 2) hx hb (dq tk_Reader_readNumber 15 rfl) (by decide) ?_
      obtain ⟨σ3, h16, hf⟩ := bn1_someZ hf
      refine K_Reader_fail hc hw wd_1256 h16 (hR.mono (by decide)) ⟨Nat.zero_le _, Nat.zero_le _⟩ hl.1 (Nat.le_of_ble_eq_true rfl) (dq tk_Reader_readNumber 16 rfl) (fun H locs hw _ => ?_)
      refine lv_goto (tgt := 39) hx hb (dq tk_Reader_readNumber 17 rfl) (by decide) ?_
      refine lv_iload_n hx hb (dq tk_Reader_readNumber 20 rfl) rfl (lv_at hl 0 rfl) ?_
      cases hf
      exact x_iret hc hw hr (dq tk_Reader_readNumber 21 rfl)
  · replace hf := if_f hf c1
    refine lv_aload_n hx hb (dq tk_Reader_readNumber 7 rfl) rfl (lv_at hl 1 rfl) ?_
    refine lv_iconst (v := 1) hx hb (dq tk_Reader_readNumber 8 rfl) (by decide) ?_
    obtain ⟨σ4, h9, hf⟩ := bn1_someZ hf
    refine K_Reader_fail hc hw wd_1256 h9 (hR.mono (by decide)) ⟨Nat.zero_le _, Nat.zero_le _⟩ hl.1 (Nat.le_of_ble_eq_true rfl) (dq tk_Reader_readNumber 9 rfl) (fun H locs hw _ => ?_)
    refine lv_goto (tgt := 39) hx hb (dq tk_Reader_readNumber 10 rfl) (by decide) ?_
    refine lv_iload_n hx hb (dq tk_Reader_readNumber 20 rfl) rfl (lv_at hl 0 rfl) ?_
    cases hf
    exact x_iret hc hw hr (dq tk_Reader_readNumber 21 rfl)
theorem c_Reader_readNumber {N : Nat}  {rv : Int32} {σ' : St} {σ : St} (hf : fReader_readNumber N σ = some (rv, σ')) : Ct l Z y_Reader_readNumber prog_10_method_10_code 2 (some .int) (rmo (10)) [.ref (Z.1 + 1)] (cmb σ μ) (some (.int rv)) True (cmb σ' μ) := by
  refine x_met (by decide) (Nat.le_of_ble_eq_true rfl) (fun p e s m args below meth c ls hc hr hw hl => ?_)
  exact w_Reader_readNumber hc hr RO.self hw hl hf
theorem K_Reader_readNumber {idx : Nat} {N : Nat}  {rv : Int32} {σ' : St} {σ : St} (hc : Cxz p s m meth c args cc own nL Z) (hw : Wd Z (cmb σ μ) s H locs) (hl : Cond.methodLink own idx y_Reader_readNumber ∈ TB) (hf : fReader_readNumber N σ = some (rv, σ')) (hR : RO R ((10) + 1)) (hcs : cells ≤ R.cells ∧ slots ≤ R.slots) (hls : ls.size = nL) (hst : (rest.map fun v => v.category).sum ≤ 8) (hdg : decode cc pc = .ok (.invokevirtual idx, 3)) (kk : ∀ (H1 : Heap) (locs1 : List Loc), Wd Z (cmb σ' μ) s H1 locs1 → True → W p l e R s m args below meth c H1 locs1 cells slots Q (F0 m (pc + 3) ls (.int rv :: rest))) : W p l e R s m args below meth c H locs cells slots Q (F0 m pc ls (.ref (Z.1 + 1) :: rest)) :=
  x_iv hc hw (c_Reader_readNumber hf) yv_Reader_readNumber (Nat.le_of_ble_eq_true rfl) rfl rfl hl (RO.call hR (by decide)) hcs rfl hls hst hdg rfl kk
set_option maxRecDepth 10000 in
theorem w_Reader_readParam_31 {N : Nat} (hc : Cxz p s m meth c args prog_10_method_9_code "LabourExchange$Reader" 2 Z) (hr : meth.sig.returnType = none) (hR : RO R 11) {σ' : St} : ∀ {σ : St} {H : Heap} {locs : List Loc} {ls : Array Slot}, Wd Z (cmb σ μ) s H locs → lv_has ls 2 [(0, .ref (Z.1 + 1))] → fReader_readParam_31 N σ = some σ' → W p l e R s m args below meth c H locs 0 0 (MQ below (Qr Z none True (cmb σ' μ)) args s 0 0 (fun q => Z.1 ≤ q)) (F0 m 31 ls []) := by
  have hx := hc.hx
  have hb := hc.hb
  intro σ H locs ls hw hl hf
  unfold fReader_readParam_31 at hf
  refine lv_aload_n hx hb (dq tk_Reader_readParam 16 rfl) rfl (lv_at hl 0 rfl) ?_
  refine lv_iconst (v := 3) hx hb (dq tk_Reader_readParam 17 rfl) (by decide) ?_
  obtain ⟨σ1, h18, hf⟩ := bn1_someZ hf
  refine K_Reader_fail hc hw wd_1256 h18 (hR.mono (by decide)) ⟨Nat.zero_le _, Nat.zero_le _⟩ hl.1 (Nat.le_of_ble_eq_true rfl) (dq tk_Reader_readParam 18 rfl) (fun H locs hw _ => ?_)
  refine lv_goto (tgt := 56) hx hb (dq tk_Reader_readParam 19 rfl) (by decide) ?_
  cases hf
  exact x_vret hc hw hr (dq tk_Reader_readParam 29 rfl)
set_option maxRecDepth 10000 in
theorem w_Reader_readParam {N : Nat} (hc : Cxz p s m meth c args prog_10_method_9_code "LabourExchange$Reader" 2 Z) (hr : meth.sig.returnType = none) (hR : RO R 11) {σ' : St} : ∀ {σ : St} {H : Heap} {locs : List Loc} {ls : Array Slot}, Wd Z (cmb σ μ) s H locs → lv_has ls 2 [(0, .ref (Z.1 + 1))] → fReader_readParam N σ = some σ' → W p l e R s m args below meth c H locs 0 0 (MQ below (Qr Z none True (cmb σ' μ)) args s 0 0 (fun q => Z.1 ≤ q)) (F0 m 0 ls []) := by
  have hx := hc.hx
  have hb := hc.hb
  intro σ H locs ls hw hl hf
  unfold fReader_readParam at hf
  refine lv_aload_n hx hb (dq tk_Reader_readParam 0 rfl) rfl (lv_at hl 0 rfl) ?_
  refine G_Reader_value hc hw wd_52 (dq tk_Reader_readParam 1 rfl) ?_
  obtain ⟨y1, hy1, hf⟩ := nm_some hf
  refine tst (congrArg Value.int hy1) ?_
  refine lv_istore_n (lv' := [(1, .int y1), (0, .ref (Z.1 + 1))]) hx hb (dq tk_Reader_readParam 2 rfl) rfl hl (by decide) rfl (fun ls hl => ?_)
  refine lv_aload_n hx hb (dq tk_Reader_readParam 3 rfl) rfl (lv_at hl 1 rfl) ?_
  refine G_Reader_token hc hw wd_50 (dq tk_Reader_readParam 4 rfl) ?_
  refine lv_iconst (v := 1) hx hb (dq tk_Reader_readParam 5 rfl) (by decide) ?_
  refine lv_icmp_eq (tgt := 21) hx hb (dq tk_Reader_readParam 6 rfl) (by decide) (fun c1 => ?_) (fun c1 => ?_)
  · replace hf := if_t hf c1
    refine lv_iload_n hx hb (dq tk_Reader_readParam 11 rfl) rfl (lv_at hl 0 rfl) ?_
    refine lv_if_lt (tgt := 31) hx hb (dq tk_Reader_readParam 12 rfl) (by decide) (fun c2 => ?_) (fun c2 => ?_)
    · replace hf := if_t hf c2
      exact w_Reader_readParam_31 hc hr hR hw (lv_sub hl [1] rfl) hf
    · replace hf := if_f hf c2
      refine lv_iload_n hx hb (dq tk_Reader_readParam 13 rfl) rfl (lv_at hl 0 rfl) ?_
      refine lv_bipush (v := 8) hx hb (dq tk_Reader_readParam 14 rfl) (by decide) ?_
      refine lv_icmp_lt (tgt := 39) hx hb (dq tk_Reader_readParam 15 rfl) (by decide) (fun c3 => ?_) (fun c3 => ?_)
      · replace hf := if_t hf c3
        refine lv_aload_n hx hb (dq tk_Reader_readParam 20 rfl) rfl (lv_at hl 1 rfl) ?_
        obtain ⟨σ2, h21, hf⟩ := bn1_someZ hf
        refine K_Reader_advance hc hw wd_1183 h21 (hR.mono (by decide)) ⟨Nat.zero_le _, Nat.zero_le _⟩ hl.1 (Nat.le_of_ble_eq_true rfl) (dq tk_Reader_readParam 21 rfl) (fun H locs hw _ => ?_)
        refine lv_aload_n hx hb (dq tk_Reader_readParam 22 rfl) rfl (lv_at hl 1 rfl) ?_
        obtain ⟨c4, hf⟩ := chk_some hf
        refine G_Reader_act hc hw wd_54 c4 (dq tk_Reader_readParam 23 rfl) ?_
        refine G_Act_params (inb_lt c4) hc hw wd_420 (dq tk_Reader_readParam 24 rfl) ?_
        refine lv_iload_n hx hb (dq tk_Reader_readParam 25 rfl) rfl (lv_at hl 0 rfl) ?_
        refine lv_aload_n hx hb (dq tk_Reader_readParam 26 rfl) rfl (lv_at hl 1 rfl) ?_
        obtain ⟨r3, σ4, h27, hf⟩ := bnd_some hf
        refine K_Reader_readNumber hc hw wd_1272 h27 (hR.mono (by decide)) ⟨Nat.zero_le _, Nat.zero_le _⟩ hl.1 (Nat.le_of_ble_eq_true rfl) (dq tk_Reader_readParam 27 rfl) (fun H locs hw _ => ?_)
        obtain ⟨c5, hf⟩ := chk_some hf
        obtain ⟨σ5, hσ5, hf⟩ := nm_some hf
        refine AS_Act_params (inb_lt c4) hc hw c5 hσ5 (dq tk_Reader_readParam 28 rfl) (fun H locs hw => ?_)
        cases hf
        exact x_vret hc hw hr (dq tk_Reader_readParam 29 rfl)
      · replace hf := if_f hf c3
        exact w_Reader_readParam_31 hc hr hR hw (lv_sub hl [1] rfl) hf
  · replace hf := if_f hf c1
    refine lv_aload_n hx hb (dq tk_Reader_readParam 7 rfl) rfl (lv_at hl 1 rfl) ?_
    refine lv_iconst (v := 1) hx hb (dq tk_Reader_readParam 8 rfl) (by decide) ?_
    obtain ⟨σ6, h9, hf⟩ := bn1_someZ hf
    refine K_Reader_fail hc hw wd_1256 h9 (hR.mono (by decide)) ⟨Nat.zero_le _, Nat.zero_le _⟩ hl.1 (Nat.le_of_ble_eq_true rfl) (dq tk_Reader_readParam 9 rfl) (fun H locs hw _ => ?_)
    refine lv_goto (tgt := 56) hx hb (dq tk_Reader_readParam 10 rfl) (by decide) ?_
    cases hf
    exact x_vret hc hw hr (dq tk_Reader_readParam 29 rfl)
theorem c_Reader_readParam {N : Nat}  {σ' : St} {σ : St} (hf : fReader_readParam N σ = some σ') : Ct l Z y_Reader_readParam prog_10_method_9_code 2 none (rmo (11)) [.ref (Z.1 + 1)] (cmb σ μ) none True (cmb σ' μ) := by
  refine x_met (by decide) (Nat.le_of_ble_eq_true rfl) (fun p e s m args below meth c ls hc hr hw hl => ?_)
  exact w_Reader_readParam hc hr RO.self hw hl hf
theorem K_Reader_readParam {idx : Nat} {N : Nat}  {σ' : St} {σ : St} (hc : Cxz p s m meth c args cc own nL Z) (hw : Wd Z (cmb σ μ) s H locs) (hl : Cond.methodLink own idx y_Reader_readParam ∈ TB) (hf : fReader_readParam N σ = some σ') (hR : RO R ((11) + 1)) (hcs : cells ≤ R.cells ∧ slots ≤ R.slots) (hls : ls.size = nL) (hst : (rest.map fun v => v.category).sum ≤ 8) (hdg : decode cc pc = .ok (.invokevirtual idx, 3)) (kk : ∀ (H1 : Heap) (locs1 : List Loc), Wd Z (cmb σ' μ) s H1 locs1 → True → W p l e R s m args below meth c H1 locs1 cells slots Q (F0 m (pc + 3) ls rest)) : W p l e R s m args below meth c H locs cells slots Q (F0 m pc ls (.ref (Z.1 + 1) :: rest)) :=
  x_iv hc hw (c_Reader_readParam hf) yv_Reader_readParam (Nat.le_of_ble_eq_true rfl) rfl rfl hl (RO.call hR (by decide)) hcs rfl hls hst hdg rfl kk
set_option maxRecDepth 10000 in
theorem w_Reader_isWord {N : Nat} (hc : Cxz p s m meth c args prog_10_method_20_code "LabourExchange$Reader" 2 Z) (hr : meth.sig.returnType = (some .boolean)) (hR : RO R 0) {rv : Int32} {σ : St} : ∀ {x1 : Int32} {H : Heap} {locs : List Loc} {ls : Array Slot}, Wd Z (cmb σ μ) s H locs → lv_has ls 2 [(0, .ref (Z.1 + 1)), (1, .int x1)] → fReader_isWord N x1 σ = some rv → W p l e R s m args below meth c H locs 0 0 (MQ below (Qr Z (some (.int rv)) True (cmb σ μ)) args s 0 0 (fun q => Z.1 ≤ q)) (F0 m 0 ls []) := by
  have hx := hc.hx
  have hb := hc.hb
  intro x1 H locs ls hw hl hf
  unfold fReader_isWord at hf
  refine lv_aload_n hx hb (dq tk_Reader_isWord 0 rfl) rfl (lv_at hl 0 rfl) ?_
  refine G_Reader_fault hc hw wd_46 (dq tk_Reader_isWord 1 rfl) ?_
  refine lv_if_ne (tgt := 27) hx hb (dq tk_Reader_isWord 2 rfl) (by decide) (fun c1 => ?_) (fun c1 => ?_)
  · replace hf := if_f hf c1
    refine lv_iconst (v := 0) hx hb (dq tk_Reader_isWord 13 rfl) (by decide) ?_
    cases hf
    exact x_zret hc hw hr (by decide) (dq tk_Reader_isWord 14 rfl)
  · replace hf := if_t hf c1
    refine lv_aload_n hx hb (dq tk_Reader_isWord 3 rfl) rfl (lv_at hl 0 rfl) ?_
    refine G_Reader_token hc hw wd_50 (dq tk_Reader_isWord 4 rfl) ?_
    refine lv_iconst (v := 1) hx hb (dq tk_Reader_isWord 5 rfl) (by decide) ?_
    refine lv_icmp_ne (tgt := 27) hx hb (dq tk_Reader_isWord 6 rfl) (by decide) (fun c2 => ?_) (fun c2 => ?_)
    · replace hf := if_f hf c2
      refine lv_iconst (v := 0) hx hb (dq tk_Reader_isWord 13 rfl) (by decide) ?_
      cases hf
      exact x_zret hc hw hr (by decide) (dq tk_Reader_isWord 14 rfl)
    · replace hf := if_t hf c2
      refine lv_aload_n hx hb (dq tk_Reader_isWord 7 rfl) rfl (lv_at hl 0 rfl) ?_
      refine G_Reader_keyword hc hw wd_51 (dq tk_Reader_isWord 8 rfl) ?_
      refine lv_iload_n hx hb (dq tk_Reader_isWord 9 rfl) rfl (lv_at hl 1 rfl) ?_
      refine lv_icmp_ne (tgt := 27) hx hb (dq tk_Reader_isWord 10 rfl) (by decide) (fun c3 => ?_) (fun c3 => ?_)
      · replace hf := if_f hf c3
        refine lv_iconst (v := 0) hx hb (dq tk_Reader_isWord 13 rfl) (by decide) ?_
        cases hf
        exact x_zret hc hw hr (by decide) (dq tk_Reader_isWord 14 rfl)
      · replace hf := if_t hf c3
        refine lv_iconst (v := 1) hx hb (dq tk_Reader_isWord 11 rfl) (by decide) ?_
        refine lv_goto (tgt := 28) hx hb (dq tk_Reader_isWord 12 rfl) (by decide) ?_
        cases hf
        exact x_zret hc hw hr (by decide) (dq tk_Reader_isWord 14 rfl)
theorem c_Reader_isWord {N : Nat}  {x1 : Int32} {rv : Int32} {σ : St} (hf : fReader_isWord N x1 σ = some rv) : Ct l Z y_Reader_isWord prog_10_method_20_code 2 (some .boolean) (rmo (0)) [.ref (Z.1 + 1), .int x1] (cmb σ μ) (some (.int rv)) True (cmb σ μ) := by
  refine x_met (by decide) (Nat.le_of_ble_eq_true rfl) (fun p e s m args below meth c ls hc hr hw hl => ?_)
  exact w_Reader_isWord hc hr RO.self hw hl hf
theorem K_Reader_isWord {idx : Nat} {N : Nat}  {x1 : Int32} {rv : Int32} {σ : St} (hc : Cxz p s m meth c args cc own nL Z) (hw : Wd Z (cmb σ μ) s H locs) (hl : Cond.methodLink own idx y_Reader_isWord ∈ TB) (hf : fReader_isWord N x1 σ = some rv) (hR : RO R ((0) + 1)) (hcs : cells ≤ R.cells ∧ slots ≤ R.slots) (hls : ls.size = nL) (hst : (rest.map fun v => v.category).sum ≤ 8) (hdg : decode cc pc = .ok (.invokevirtual idx, 3)) (kk : ∀ (H1 : Heap) (locs1 : List Loc), Wd Z (cmb σ μ) s H1 locs1 → True → W p l e R s m args below meth c H1 locs1 cells slots Q (F0 m (pc + 3) ls (.int rv :: rest))) : W p l e R s m args below meth c H locs cells slots Q (F0 m pc ls (.int x1 :: .ref (Z.1 + 1) :: rest)) :=
  x_iv hc hw (c_Reader_isWord hf) yv_Reader_isWord (Nat.le_of_ble_eq_true rfl) rfl rfl hl (RO.call hR (by decide)) hcs rfl hls hst hdg rfl kk
set_option maxRecDepth 10000 in
theorem w_Reader_isSign {N : Nat} (hc : Cxz p s m meth c args prog_10_method_21_code "LabourExchange$Reader" 2 Z) (hr : meth.sig.returnType = (some .boolean)) (hR : RO R 0) {rv : Int32} {σ : St} : ∀ {x1 : Int32} {H : Heap} {locs : List Loc} {ls : Array Slot}, Wd Z (cmb σ μ) s H locs → lv_has ls 2 [(0, .ref (Z.1 + 1)), (1, .int x1)] → fReader_isSign N x1 σ = some rv → W p l e R s m args below meth c H locs 0 0 (MQ below (Qr Z (some (.int rv)) True (cmb σ μ)) args s 0 0 (fun q => Z.1 ≤ q)) (F0 m 0 ls []) := by
  have hx := hc.hx
  have hb := hc.hb
  intro x1 H locs ls hw hl hf
  unfold fReader_isSign at hf
  refine lv_aload_n hx hb (dq tk_Reader_isSign 0 rfl) rfl (lv_at hl 0 rfl) ?_
  refine G_Reader_fault hc hw wd_46 (dq tk_Reader_isSign 1 rfl) ?_
  refine lv_if_ne (tgt := 19) hx hb (dq tk_Reader_isSign 2 rfl) (by decide) (fun c1 => ?_) (fun c1 => ?_)
  · replace hf := if_f hf c1
    refine lv_iconst (v := 0) hx hb (dq tk_Reader_isSign 9 rfl) (by decide) ?_
    cases hf
    exact x_zret hc hw hr (by decide) (dq tk_Reader_isSign 10 rfl)
  · replace hf := if_t hf c1
    refine lv_aload_n hx hb (dq tk_Reader_isSign 3 rfl) rfl (lv_at hl 0 rfl) ?_
    refine G_Reader_token hc hw wd_50 (dq tk_Reader_isSign 4 rfl) ?_
    refine lv_iload_n hx hb (dq tk_Reader_isSign 5 rfl) rfl (lv_at hl 1 rfl) ?_
    refine lv_icmp_ne (tgt := 19) hx hb (dq tk_Reader_isSign 6 rfl) (by decide) (fun c2 => ?_) (fun c2 => ?_)
    · replace hf := if_f hf c2
      refine lv_iconst (v := 0) hx hb (dq tk_Reader_isSign 9 rfl) (by decide) ?_
      cases hf
      exact x_zret hc hw hr (by decide) (dq tk_Reader_isSign 10 rfl)
    · replace hf := if_t hf c2
      refine lv_iconst (v := 1) hx hb (dq tk_Reader_isSign 7 rfl) (by decide) ?_
      refine lv_goto (tgt := 20) hx hb (dq tk_Reader_isSign 8 rfl) (by decide) ?_
      cases hf
      exact x_zret hc hw hr (by decide) (dq tk_Reader_isSign 10 rfl)
theorem c_Reader_isSign {N : Nat}  {x1 : Int32} {rv : Int32} {σ : St} (hf : fReader_isSign N x1 σ = some rv) : Ct l Z y_Reader_isSign prog_10_method_21_code 2 (some .boolean) (rmo (0)) [.ref (Z.1 + 1), .int x1] (cmb σ μ) (some (.int rv)) True (cmb σ μ) := by
  refine x_met (by decide) (Nat.le_of_ble_eq_true rfl) (fun p e s m args below meth c ls hc hr hw hl => ?_)
  exact w_Reader_isSign hc hr RO.self hw hl hf
theorem K_Reader_isSign {idx : Nat} {N : Nat}  {x1 : Int32} {rv : Int32} {σ : St} (hc : Cxz p s m meth c args cc own nL Z) (hw : Wd Z (cmb σ μ) s H locs) (hl : Cond.methodLink own idx y_Reader_isSign ∈ TB) (hf : fReader_isSign N x1 σ = some rv) (hR : RO R ((0) + 1)) (hcs : cells ≤ R.cells ∧ slots ≤ R.slots) (hls : ls.size = nL) (hst : (rest.map fun v => v.category).sum ≤ 8) (hdg : decode cc pc = .ok (.invokevirtual idx, 3)) (kk : ∀ (H1 : Heap) (locs1 : List Loc), Wd Z (cmb σ μ) s H1 locs1 → True → W p l e R s m args below meth c H1 locs1 cells slots Q (F0 m (pc + 3) ls (.int rv :: rest))) : W p l e R s m args below meth c H locs cells slots Q (F0 m pc ls (.int x1 :: .ref (Z.1 + 1) :: rest)) :=
  x_iv hc hw (c_Reader_isSign hf) yv_Reader_isSign (Nat.le_of_ble_eq_true rfl) rfl rfl hl (RO.call hR (by decide)) hcs rfl hls hst hdg rfl kk
set_option maxRecDepth 10000 in
theorem w_Reader_expect {N : Nat} (hc : Cxz p s m meth c args prog_10_method_22_code "LabourExchange$Reader" 2 Z) (hr : meth.sig.returnType = none) (hR : RO R 10) {σ' : St} : ∀ {x1 : Int32} {σ : St} {H : Heap} {locs : List Loc} {ls : Array Slot}, Wd Z (cmb σ μ) s H locs → lv_has ls 2 [(0, .ref (Z.1 + 1)), (1, .int x1)] → fReader_expect N x1 σ = some σ' → W p l e R s m args below meth c H locs 0 0 (MQ below (Qr Z none True (cmb σ' μ)) args s 0 0 (fun q => Z.1 ≤ q)) (F0 m 0 ls []) := by
  have hx := hc.hx
  have hb := hc.hb
  intro x1 σ H locs ls hw hl hf
  unfold fReader_expect at hf
  refine lv_aload_n hx hb (dq tk_Reader_expect 0 rfl) rfl (lv_at hl 0 rfl) ?_
  refine lv_iload_n hx hb (dq tk_Reader_expect 1 rfl) rfl (lv_at hl 1 rfl) ?_
  obtain ⟨r1, h2, hf⟩ := bn1_someZ hf
  refine K_Reader_isSign hc hw wd_1316 h2 (hR.mono (by decide)) ⟨Nat.zero_le _, Nat.zero_le _⟩ hl.1 (Nat.le_of_ble_eq_true rfl) (dq tk_Reader_expect 2 rfl) (fun H locs hw _ => ?_)
  refine lv_if_eq (tgt := 15) hx hb (dq tk_Reader_expect 3 rfl) (by decide) (fun c1 => ?_) (fun c1 => ?_)
  · replace hf := if_t hf c1
    refine lv_aload_n hx hb (dq tk_Reader_expect 7 rfl) rfl (lv_at hl 0 rfl) ?_
    refine lv_iconst (v := 1) hx hb (dq tk_Reader_expect 8 rfl) (by decide) ?_
    obtain ⟨σ2, h9, hf⟩ := bn1_someZ hf
    refine K_Reader_fail hc hw wd_1256 h9 (hR.mono (by decide)) ⟨Nat.zero_le _, Nat.zero_le _⟩ hl.1 (Nat.le_of_ble_eq_true rfl) (dq tk_Reader_expect 9 rfl) (fun H locs hw _ => ?_)
    cases hf
    exact x_vret hc hw hr (dq tk_Reader_expect 10 rfl)
  · replace hf := if_f hf c1
    refine lv_aload_n hx hb (dq tk_Reader_expect 4 rfl) rfl (lv_at hl 0 rfl) ?_
    obtain ⟨σ3, h5, hf⟩ := bn1_someZ hf
    refine K_Reader_advance hc hw wd_1183 h5 (hR.mono (by decide)) ⟨Nat.zero_le _, Nat.zero_le _⟩ hl.1 (Nat.le_of_ble_eq_true rfl) (dq tk_Reader_expect 5 rfl) (fun H locs hw _ => ?_)
    refine lv_goto (tgt := 20) hx hb (dq tk_Reader_expect 6 rfl) (by decide) ?_
    cases hf
    exact x_vret hc hw hr (dq tk_Reader_expect 10 rfl)
theorem c_Reader_expect {N : Nat}  {x1 : Int32} {σ' : St} {σ : St} (hf : fReader_expect N x1 σ = some σ') : Ct l Z y_Reader_expect prog_10_method_22_code 2 none (rmo (10)) [.ref (Z.1 + 1), .int x1] (cmb σ μ) none True (cmb σ' μ) := by
  refine x_met (by decide) (Nat.le_of_ble_eq_true rfl) (fun p e s m args below meth c ls hc hr hw hl => ?_)
  exact w_Reader_expect hc hr RO.self hw hl hf
theorem K_Reader_expect {idx : Nat} {N : Nat}  {x1 : Int32} {σ' : St} {σ : St} (hc : Cxz p s m meth c args cc own nL Z) (hw : Wd Z (cmb σ μ) s H locs) (hl : Cond.methodLink own idx y_Reader_expect ∈ TB) (hf : fReader_expect N x1 σ = some σ') (hR : RO R ((10) + 1)) (hcs : cells ≤ R.cells ∧ slots ≤ R.slots) (hls : ls.size = nL) (hst : (rest.map fun v => v.category).sum ≤ 8) (hdg : decode cc pc = .ok (.invokevirtual idx, 3)) (kk : ∀ (H1 : Heap) (locs1 : List Loc), Wd Z (cmb σ' μ) s H1 locs1 → True → W p l e R s m args below meth c H1 locs1 cells slots Q (F0 m (pc + 3) ls rest)) : W p l e R s m args below meth c H locs cells slots Q (F0 m pc ls (.int x1 :: .ref (Z.1 + 1) :: rest)) :=
  x_iv hc hw (c_Reader_expect hf) yv_Reader_expect (Nat.le_of_ble_eq_true rfl) rfl rfl hl (RO.call hR (by decide)) hcs rfl hls hst hdg rfl kk
set_option maxRecDepth 10000 in
theorem w_Act_emit {N : Nat} {ka : Nat} (hc : Cxz p s m meth c args prog_2_method_4_code "LabourExchange$Act" 2 Z) (hr : meth.sig.returnType = none) (hR : RO R 0) (hka : ka < 17) {σ' : St} : ∀ {x1 : Int32} {σ : St} {H : Heap} {locs : List Loc} {ls : Array Slot}, Wd Z (cmb σ μ) s H locs → lv_has ls 2 [(0, .ref (Z.1 + (90 + 6 * ka))), (1, .int x1)] → fAct_emit N ka x1 σ = some σ' → W p l e R s m args below meth c H locs 0 0 (MQ below (Qr Z none True (cmb σ' μ)) args s 0 0 (fun q => Z.1 ≤ q)) (F0 m 0 ls []) := by
  have hx := hc.hx
  have hb := hc.hb
  intro x1 σ H locs ls hw hl hf
  unfold fAct_emit at hf
  refine lv_aload_n hx hb (dq tk_Act_emit 0 rfl) rfl (lv_at hl 0 rfl) ?_
  refine G_Act_length hka hc hw wd_416 (dq tk_Act_emit 1 rfl) ?_
  refine lv_aload_n hx hb (dq tk_Act_emit 2 rfl) rfl (lv_at hl 0 rfl) ?_
  refine G_Act_code hka hc hw wd_415 (dq tk_Act_emit 3 rfl) ?_
  refine LN_Act_code hka hc hw (dq tk_Act_emit 4 rfl) ?_
  refine lv_icmp_ge (tgt := 32) hx hb (dq tk_Act_emit 5 rfl) (by decide) (fun c1 => ?_) (fun c1 => ?_)
  · replace hf := if_t hf c1
    cases hf
    exact x_vret hc hw hr (dq tk_Act_emit 18 rfl)
  · replace hf := if_f hf c1
    refine lv_aload_n hx hb (dq tk_Act_emit 6 rfl) rfl (lv_at hl 0 rfl) ?_
    refine G_Act_code hka hc hw wd_415 (dq tk_Act_emit 7 rfl) ?_
    refine lv_aload_n hx hb (dq tk_Act_emit 8 rfl) rfl (lv_at hl 0 rfl) ?_
    refine G_Act_length hka hc hw wd_416 (dq tk_Act_emit 9 rfl) ?_
    refine lv_iload_n hx hb (dq tk_Act_emit 10 rfl) rfl (lv_at hl 1 rfl) ?_
    obtain ⟨c2, hf⟩ := chk_some hf
    obtain ⟨σ1, hσ1, hf⟩ := nm_some hf
    refine AS_Act_code hka hc hw c2 hσ1 (dq tk_Act_emit 11 rfl) (fun H locs hw => ?_)
    refine lv_aload_n hx hb (dq tk_Act_emit 12 rfl) rfl (lv_at hl 0 rfl) ?_
    refine lv_dup hx hb (dq tk_Act_emit 13 rfl) rfl ?_
    refine G_Act_length hka hc hw wd_416 (dq tk_Act_emit 14 rfl) ?_
    refine lv_iconst (v := 1) hx hb (dq tk_Act_emit 15 rfl) (by decide) ?_
    refine lv_iadd hx hb (dq tk_Act_emit 16 rfl) ?_
    obtain ⟨σ2, hσ2, hf⟩ := nm_some hf
    refine P_Act_length hka hc hw wd_416 hσ2 (dq tk_Act_emit 17 rfl) (fun H locs hw => ?_)
    cases hf
    exact x_vret hc hw hr (dq tk_Act_emit 18 rfl)
theorem c_Act_emit {N : Nat} {ka : Nat}  {x1 : Int32} {σ' : St} {σ : St} (hka : ka < 17) (hf : fAct_emit N ka x1 σ = some σ') : Ct l Z y_Act_emit prog_2_method_4_code 2 none (rmo (0)) [.ref (Z.1 + (90 + 6 * ka)), .int x1] (cmb σ μ) none True (cmb σ' μ) := by
  refine x_met (by decide) (Nat.le_of_ble_eq_true rfl) (fun p e s m args below meth c ls hc hr hw hl => ?_)
  exact w_Act_emit hc hr RO.self hka hw hl hf
theorem K_Act_emit {idx : Nat} {N : Nat} {ka : Nat}  {x1 : Int32} {σ' : St} {σ : St} (hc : Cxz p s m meth c args cc own nL Z) (hw : Wd Z (cmb σ μ) s H locs) (hka : ka < 17) (hl : Cond.methodLink own idx y_Act_emit ∈ TB) (hf : fAct_emit N ka x1 σ = some σ') (hR : RO R ((0) + 1)) (hcs : cells ≤ R.cells ∧ slots ≤ R.slots) (hls : ls.size = nL) (hst : (rest.map fun v => v.category).sum ≤ 8) (hdg : decode cc pc = .ok (.invokevirtual idx, 3)) (kk : ∀ (H1 : Heap) (locs1 : List Loc), Wd Z (cmb σ' μ) s H1 locs1 → True → W p l e R s m args below meth c H1 locs1 cells slots Q (F0 m (pc + 3) ls rest)) : W p l e R s m args below meth c H locs cells slots Q (F0 m pc ls (.int x1 :: .ref (Z.1 + (90 + 6 * ka)) :: rest)) :=
  x_iv hc hw (c_Act_emit hka hf) yv_Act_emit (wd_act (r := 0) hka (by decide) (by omega)).1 (wd_act (r := 0) hka (by decide) (by omega)).2 rfl hl (RO.call hR (by decide)) hcs rfl hls hst hdg rfl kk
set_option maxRecDepth 10000 in
theorem w_Reader_readPart {N : Nat} {dd : Nat} {rec : Int32 → St → Option St} (hc : Cxz p s m meth c args prog_10_method_19_code "LabourExchange$Reader" 2 Z) (hr : meth.sig.returnType = none) (hR : RO R (21 + 7 * dd)) (hrec : ∀ {x1 : Int32} {σ σ' : St}, rec x1 σ = some σ' → Ct l Z y_Reader_readExpression prog_10_method_13_code 4 none (rmo (20 + 7 * dd)) [.ref (Z.1 + 1), .int x1] (cmb σ μ) none True (cmb σ' μ)) {σ' : St} : ∀ {x1 : Int32} {σ : St} {H : Heap} {locs : List Loc} {ls : Array Slot}, Wd Z (cmb σ μ) s H locs → lv_has ls 2 [(0, .ref (Z.1 + 1)), (1, .int x1)] → fReader_readPart N rec x1 σ = some σ' → W p l e R s m args below meth c H locs 0 0 (MQ below (Qr Z none True (cmb σ' μ)) args s 0 0 (fun q => Z.1 ≤ q)) (F0 m 0 ls []) := by
  have hx := hc.hx
  have hb := hc.hb
  intro x1 σ H locs ls hw hl hf
  unfold fReader_readPart at hf
  refine lv_aload_n hx hb (dq tk_Reader_readPart 0 rfl) rfl (lv_at hl 0 rfl) ?_
  refine G_Reader_fault hc hw wd_46 (dq tk_Reader_readPart 1 rfl) ?_
  refine lv_if_eq (tgt := 8) hx hb (dq tk_Reader_readPart 2 rfl) (by decide) (fun c1 => ?_) (fun c1 => ?_)
  · replace hf := if_t hf c1
    refine lv_aload_n hx hb (dq tk_Reader_readPart 4 rfl) rfl (lv_at hl 0 rfl) ?_
    refine G_Reader_token hc hw wd_50 (dq tk_Reader_readPart 5 rfl) ?_
    refine lv_bipush (v := 40) hx hb (dq tk_Reader_readPart 6 rfl) (by decide) ?_
    refine lv_icmp_ne (tgt := 37) hx hb (dq tk_Reader_readPart 7 rfl) (by decide) (fun c2 => ?_) (fun c2 => ?_)
    · replace hf := if_f hf c2
      refine lv_aload_n hx hb (dq tk_Reader_readPart 19 rfl) rfl (lv_at hl 0 rfl) ?_
      refine G_Reader_token hc hw wd_50 (dq tk_Reader_readPart 20 rfl) ?_
      refine lv_iconst (v := 1) hx hb (dq tk_Reader_readPart 21 rfl) (by decide) ?_
      refine lv_icmp_eq (tgt := 59) hx hb (dq tk_Reader_readPart 22 rfl) (by decide) (fun c3 => ?_) (fun c3 => ?_)
      · replace hf := if_t hf c3
        refine lv_aload_n hx hb (dq tk_Reader_readPart 29 rfl) rfl (lv_at hl 0 rfl) ?_
        refine G_Reader_value hc hw wd_52 (dq tk_Reader_readPart 30 rfl) ?_
        refine lv_iconst (v := (-1)) hx hb (dq tk_Reader_readPart 31 rfl) (by decide) ?_
        refine lv_icmp_ne (tgt := 75) hx hb (dq tk_Reader_readPart 32 rfl) (by decide) (fun c4 => ?_) (fun c4 => ?_)
        · replace hf := if_f hf c4
          refine lv_aload_n hx hb (dq tk_Reader_readPart 37 rfl) rfl (lv_at hl 0 rfl) ?_
          obtain ⟨c5, hf⟩ := chk_some hf
          refine G_Reader_act hc hw wd_54 c5 (dq tk_Reader_readPart 38 rfl) ?_
          refine lv_ldc hx hb hc.ho (hc.ht _ wd_1248) (dq tk_Reader_readPart 39 rfl) ?_
          refine lv_aload_n hx hb (dq tk_Reader_readPart 40 rfl) rfl (lv_at hl 0 rfl) ?_
          refine G_Reader_value hc hw wd_52 (dq tk_Reader_readPart 41 rfl) ?_
          refine lv_iadd hx hb (dq tk_Reader_readPart 42 rfl) ?_
          obtain ⟨σ1, h43, hf⟩ := bn1_someZ hf
          refine K_Act_emit hc hw (inb_lt c5) wd_1320 h43 (hR.mono (by omega)) ⟨Nat.zero_le _, Nat.zero_le _⟩ hl.1 (Nat.le_of_ble_eq_true rfl) (dq tk_Reader_readPart 43 rfl) (fun H locs hw _ => ?_)
          refine lv_aload_n hx hb (dq tk_Reader_readPart 44 rfl) rfl (lv_at hl 0 rfl) ?_
          obtain ⟨σ2, h45, hf⟩ := bn1_someZ hf
          refine K_Reader_advance hc hw wd_1183 h45 (hR.mono (by omega)) ⟨Nat.zero_le _, Nat.zero_le _⟩ hl.1 (Nat.le_of_ble_eq_true rfl) (dq tk_Reader_readPart 45 rfl) (fun H locs hw _ => ?_)
          cases hf
          exact x_vret hc hw hr (dq tk_Reader_readPart 46 rfl)
        · replace hf := if_t hf c4
          refine lv_aload_n hx hb (dq tk_Reader_readPart 33 rfl) rfl (lv_at hl 0 rfl) ?_
          refine lv_iconst (v := 3) hx hb (dq tk_Reader_readPart 34 rfl) (by decide) ?_
          obtain ⟨σ3, h35, hf⟩ := bn1_someZ hf
          refine K_Reader_fail hc hw wd_1256 h35 (hR.mono (by omega)) ⟨Nat.zero_le _, Nat.zero_le _⟩ hl.1 (Nat.le_of_ble_eq_true rfl) (dq tk_Reader_readPart 35 rfl) (fun H locs hw _ => ?_)
          refine lv_goto (tgt := 93) hx hb (dq tk_Reader_readPart 36 rfl) (by decide) ?_
          cases hf
          exact x_vret hc hw hr (dq tk_Reader_readPart 46 rfl)
      · replace hf := if_f hf c3
        refine lv_aload_n hx hb (dq tk_Reader_readPart 23 rfl) rfl (lv_at hl 0 rfl) ?_
        obtain ⟨c6, hf⟩ := chk_some hf
        refine G_Reader_act hc hw wd_54 c6 (dq tk_Reader_readPart 24 rfl) ?_
        refine lv_aload_n hx hb (dq tk_Reader_readPart 25 rfl) rfl (lv_at hl 0 rfl) ?_
        obtain ⟨r4, σ5, h26, hf⟩ := bnd_some hf
        refine K_Reader_readNumber hc hw wd_1272 h26 (hR.mono (by omega)) ⟨Nat.zero_le _, Nat.zero_le _⟩ hl.1 (Nat.le_of_ble_eq_true rfl) (dq tk_Reader_readPart 26 rfl) (fun H locs hw _ => ?_)
        obtain ⟨σ6, h27, hf⟩ := bn1_someZ hf
        refine K_Act_emit hc hw (inb_lt c6) wd_1320 h27 (hR.mono (by omega)) ⟨Nat.zero_le _, Nat.zero_le _⟩ hl.1 (Nat.le_of_ble_eq_true rfl) (dq tk_Reader_readPart 27 rfl) (fun H locs hw _ => ?_)
        refine lv_goto (tgt := 93) hx hb (dq tk_Reader_readPart 28 rfl) (by decide) ?_
        cases hf
        exact x_vret hc hw hr (dq tk_Reader_readPart 46 rfl)
    · replace hf := if_t hf c2
      refine lv_aload_n hx hb (dq tk_Reader_readPart 8 rfl) rfl (lv_at hl 0 rfl) ?_
      obtain ⟨σ7, h9, hf⟩ := bn1_someZ hf
      refine K_Reader_advance hc hw wd_1183 h9 (hR.mono (by omega)) ⟨Nat.zero_le _, Nat.zero_le _⟩ hl.1 (Nat.le_of_ble_eq_true rfl) (dq tk_Reader_readPart 9 rfl) (fun H locs hw _ => ?_)
      refine lv_aload_n hx hb (dq tk_Reader_readPart 10 rfl) rfl (lv_at hl 0 rfl) ?_
      refine lv_iload_n hx hb (dq tk_Reader_readPart 11 rfl) rfl (lv_at hl 1 rfl) ?_
      refine lv_iconst (v := 1) hx hb (dq tk_Reader_readPart 12 rfl) (by decide) ?_
      refine lv_iadd hx hb (dq tk_Reader_readPart 13 rfl) ?_
      obtain ⟨σ8, h14, hf⟩ := bn1_someZ hf
      refine x_iv hc hw (hrec h14) yv_Reader_readExpression (Nat.le_of_ble_eq_true rfl) rfl rfl wd_1280 (RO.call (fr := 20 + 7 * dd) (hR.mono (by omega)) (by decide)) ⟨Nat.zero_le _, Nat.zero_le _⟩ rfl hl.1 (Nat.le_of_ble_eq_true rfl) (dq tk_Reader_readPart 14 rfl) rfl (fun H locs hw _ => ?_)
      refine lv_aload_n hx hb (dq tk_Reader_readPart 15 rfl) rfl (lv_at hl 0 rfl) ?_
      refine lv_bipush (v := 41) hx hb (dq tk_Reader_readPart 16 rfl) (by decide) ?_
      obtain ⟨σ9, h17, hf⟩ := bn1_someZ hf
      refine K_Reader_expect hc hw wd_1312 h17 (hR.mono (by omega)) ⟨Nat.zero_le _, Nat.zero_le _⟩ hl.1 (Nat.le_of_ble_eq_true rfl) (dq tk_Reader_readPart 17 rfl) (fun H locs hw _ => ?_)
      refine lv_goto (tgt := 93) hx hb (dq tk_Reader_readPart 18 rfl) (by decide) ?_
      cases hf
      exact x_vret hc hw hr (dq tk_Reader_readPart 46 rfl)
  · replace hf := if_f hf c1
    cases hf
    exact x_vret hc hw hr (dq tk_Reader_readPart 3 rfl)
theorem c_Reader_readPart {N : Nat} {dd : Nat} {rec : Int32 → St → Option St}  {x1 : Int32} {σ' : St} {σ : St} (hrec : ∀ {x1 : Int32} {σ σ' : St}, rec x1 σ = some σ' → Ct l Z y_Reader_readExpression prog_10_method_13_code 4 none (rmo (20 + 7 * dd)) [.ref (Z.1 + 1), .int x1] (cmb σ μ) none True (cmb σ' μ)) (hf : fReader_readPart N rec x1 σ = some σ') : Ct l Z y_Reader_readPart prog_10_method_19_code 2 none (rmo ((21 + 7 * dd))) [.ref (Z.1 + 1), .int x1] (cmb σ μ) none True (cmb σ' μ) := by
  refine x_met (by decide) (Nat.le_of_ble_eq_true rfl) (fun p e s m args below meth c ls hc hr hw hl => ?_)
  exact w_Reader_readPart hc hr RO.self hrec hw hl hf
theorem K_Reader_readPart {idx : Nat} {N : Nat} {dd : Nat} {rec : Int32 → St → Option St}  {x1 : Int32} {σ' : St} {σ : St} (hrec : ∀ {x1 : Int32} {σ σ' : St}, rec x1 σ = some σ' → Ct l Z y_Reader_readExpression prog_10_method_13_code 4 none (rmo (20 + 7 * dd)) [.ref (Z.1 + 1), .int x1] (cmb σ μ) none True (cmb σ' μ)) (hc : Cxz p s m meth c args cc own nL Z) (hw : Wd Z (cmb σ μ) s H locs) (hl : Cond.methodLink own idx y_Reader_readPart ∈ TB) (hf : fReader_readPart N rec x1 σ = some σ') (hR : RO R (((21 + 7 * dd)) + 1)) (hcs : cells ≤ R.cells ∧ slots ≤ R.slots) (hls : ls.size = nL) (hst : (rest.map fun v => v.category).sum ≤ 8) (hdg : decode cc pc = .ok (.invokevirtual idx, 3)) (kk : ∀ (H1 : Heap) (locs1 : List Loc), Wd Z (cmb σ' μ) s H1 locs1 → True → W p l e R s m args below meth c H1 locs1 cells slots Q (F0 m (pc + 3) ls rest)) : W p l e R s m args below meth c H locs cells slots Q (F0 m pc ls (.int x1 :: .ref (Z.1 + 1) :: rest)) :=
  x_iv hc hw (c_Reader_readPart hrec hf) yv_Reader_readPart (Nat.le_of_ble_eq_true rfl) rfl rfl hl (RO.call hR (by decide)) hcs rfl hls hst hdg rfl kk
set_option maxRecDepth 10000 in
theorem w_Reader_readProduct_32 {N : Nat} {dd : Nat} {rec : Int32 → St → Option St} (hc : Cxz p s m meth c args prog_10_method_18_code "LabourExchange$Reader" 4 Z) (hr : meth.sig.returnType = none) (hR : RO R (22 + 7 * dd)) (hrec : ∀ {x1 : Int32} {σ σ' : St}, rec x1 σ = some σ' → Ct l Z y_Reader_readExpression prog_10_method_13_code 4 none (rmo (20 + 7 * dd)) [.ref (Z.1 + 1), .int x1] (cmb σ μ) none True (cmb σ' μ)) {σ' : St} {go7 : Int32 → Int32 → St → Option St} (hgo7 : ∀ {x1 : Int32} {x2 : Int32} {σ : St} {H : Heap} {locs : List Loc} {ls : Array Slot}, Wd Z (cmb σ μ) s H locs → lv_has ls 4 [(0, .ref (Z.1 + 1)), (1, .int x1), (2, .int x2)] → go7 x1 x2 σ = some σ' → W p l e R s m args below meth c H locs 0 0 (MQ below (Qr Z none True (cmb σ' μ)) args s 0 0 (fun q => Z.1 ≤ q)) (F0 m 7 ls [])) : ∀ {x1 : Int32} {x2 : Int32} {σ : St} {H : Heap} {locs : List Loc} {ls : Array Slot}, Wd Z (cmb σ μ) s H locs → lv_has ls 4 [(0, .ref (Z.1 + 1)), (1, .int x1), (2, .int x2)] → fReader_readProduct_32 N rec go7 x1 x2 σ = some σ' → W p l e R s m args below meth c H locs 0 0 (MQ below (Qr Z none True (cmb σ' μ)) args s 0 0 (fun q => Z.1 ≤ q)) (F0 m 32 ls []) := by
  have hx := hc.hx
  have hb := hc.hb
  intro x1 x2 σ H locs ls hw hl hf
  unfold fReader_readProduct_32 at hf
  refine lv_aload_n hx hb (dq tk_Reader_readProduct 16 rfl) rfl (lv_at hl 0 rfl) ?_
  refine G_Reader_token hc hw wd_50 (dq tk_Reader_readProduct 17 rfl) ?_
  obtain ⟨y1, hy1, hf⟩ := nm_some hf
  refine tst (congrArg Value.int hy1) ?_
  refine lv_istore_n (lv' := [(3, .int y1), (0, .ref (Z.1 + 1)), (1, .int x1), (2, .int x2)]) hx hb (dq tk_Reader_readProduct 18 rfl) rfl hl (by decide) rfl (fun ls hl => ?_)
  refine lv_aload_n hx hb (dq tk_Reader_readProduct 19 rfl) rfl (lv_at hl 1 rfl) ?_
  obtain ⟨σ2, h20, hf⟩ := bn1_someZ hf
  refine K_Reader_advance hc hw wd_1183 h20 (hR.mono (by omega)) ⟨Nat.zero_le _, Nat.zero_le _⟩ hl.1 (Nat.le_of_ble_eq_true rfl) (dq tk_Reader_readProduct 20 rfl) (fun H locs hw _ => ?_)
  refine lv_aload_n hx hb (dq tk_Reader_readProduct 21 rfl) rfl (lv_at hl 1 rfl) ?_
  refine lv_iload_n hx hb (dq tk_Reader_readProduct 22 rfl) rfl (lv_at hl 2 rfl) ?_
  obtain ⟨σ3, h23, hf⟩ := bn1_someZ hf
  refine K_Reader_readPart hrec hc hw wd_1308 h23 (hR.mono (by omega)) ⟨Nat.zero_le _, Nat.zero_le _⟩ hl.1 (Nat.le_of_ble_eq_true rfl) (dq tk_Reader_readProduct 23 rfl) (fun H locs hw _ => ?_)
  refine lv_aload_n hx hb (dq tk_Reader_readProduct 24 rfl) rfl (lv_at hl 1 rfl) ?_
  obtain ⟨c1, hf⟩ := chk_some hf
  refine G_Reader_act hc hw wd_54 c1 (dq tk_Reader_readProduct 25 rfl) ?_
  refine lv_iload_n hx hb (dq tk_Reader_readProduct 26 rfl) rfl (lv_at hl 0 rfl) ?_
  refine lv_ineg hx hb (dq tk_Reader_readProduct 27 rfl) ?_
  obtain ⟨σ4, h28, hf⟩ := bn1_someZ hf
  refine K_Act_emit hc hw (inb_lt c1) wd_1320 h28 (hR.mono (by omega)) ⟨Nat.zero_le _, Nat.zero_le _⟩ hl.1 (Nat.le_of_ble_eq_true rfl) (dq tk_Reader_readProduct 28 rfl) (fun H locs hw _ => ?_)
  refine lv_iinc (v := (x2 + 1)) (lv' := [(2, .int (x2 + 1)), (3, .int y1), (0, .ref (Z.1 + 1)), (1, .int x1)]) hx hb (dq tk_Reader_readProduct 29 rfl) hl (k := 3) rfl rfl (by decide) rfl (fun ls hl => ?_)
  refine lv_goto (tgt := 7) hx hb (dq tk_Reader_readProduct 30 rfl) (by decide) ?_
  exact hgo7 hw (lv_sub hl [2, 3, 0] rfl) hf
set_option maxRecDepth 10000 in
theorem w_Reader_readProduct_7 {N : Nat} {dd : Nat} {rec : Int32 → St → Option St} (hc : Cxz p s m meth c args prog_10_method_18_code "LabourExchange$Reader" 4 Z) (hr : meth.sig.returnType = none) (hR : RO R (22 + 7 * dd)) (hrec : ∀ {x1 : Int32} {σ σ' : St}, rec x1 σ = some σ' → Ct l Z y_Reader_readExpression prog_10_method_13_code 4 none (rmo (20 + 7 * dd)) [.ref (Z.1 + 1), .int x1] (cmb σ μ) none True (cmb σ' μ)) {σ' : St} (n : Nat) : ∀ {x1 : Int32} {x2 : Int32} {σ : St} {H : Heap} {locs : List Loc} {ls : Array Slot}, Wd Z (cmb σ μ) s H locs → lv_has ls 4 [(0, .ref (Z.1 + 1)), (1, .int x1), (2, .int x2)] → fReader_readProduct_7 N rec n x1 x2 σ = some σ' → W p l e R s m args below meth c H locs 0 0 (MQ below (Qr Z none True (cmb σ' μ)) args s 0 0 (fun q => Z.1 ≤ q)) (F0 m 7 ls []) := by
  have hx := hc.hx
  have hb := hc.hb
  induction n with
  | zero =>
    intro x1 x2 σ H locs ls hw hl hf
    have hf : none = some _ := hf
    cases hf
  | succ n ih =>
    intro x1 x2 σ H locs ls hw hl hf
    unfold fReader_readProduct_7 at hf
    refine lv_iload_n hx hb (dq tk_Reader_readProduct 5 rfl) rfl (lv_at hl 2 rfl) ?_
    refine lv_sipush (v := 600) hx hb (dq tk_Reader_readProduct 6 rfl) (by decide) ?_
    refine lv_icmp_ge (tgt := 61) hx hb (dq tk_Reader_readProduct 7 rfl) (by decide) (fun c1 => ?_) (fun c1 => ?_)
    · replace hf := if_t hf c1
      cases hf
      exact x_vret hc hw hr (dq tk_Reader_readProduct 31 rfl)
    · replace hf := if_f hf c1
      refine lv_aload_n hx hb (dq tk_Reader_readProduct 8 rfl) rfl (lv_at hl 0 rfl) ?_
      refine lv_bipush (v := 42) hx hb (dq tk_Reader_readProduct 9 rfl) (by decide) ?_
      obtain ⟨r1, h10, hf⟩ := bn1_someZ hf
      refine K_Reader_isSign hc hw wd_1316 h10 (hR.mono (by omega)) ⟨Nat.zero_le _, Nat.zero_le _⟩ hl.1 (Nat.le_of_ble_eq_true rfl) (dq tk_Reader_readProduct 10 rfl) (fun H locs hw _ => ?_)
      refine lv_if_ne (tgt := 32) hx hb (dq tk_Reader_readProduct 11 rfl) (by decide) (fun c2 => ?_) (fun c2 => ?_)
      · replace hf := if_f hf c2
        exact w_Reader_readProduct_32 hc hr hR hrec ih hw (lv_sub hl [0, 1, 2] rfl) hf
      · replace hf := if_t hf c2
        refine lv_aload_n hx hb (dq tk_Reader_readProduct 12 rfl) rfl (lv_at hl 0 rfl) ?_
        refine lv_bipush (v := 47) hx hb (dq tk_Reader_readProduct 13 rfl) (by decide) ?_
        obtain ⟨r2, h14, hf⟩ := bn1_someZ hf
        refine K_Reader_isSign hc hw wd_1316 h14 (hR.mono (by omega)) ⟨Nat.zero_le _, Nat.zero_le _⟩ hl.1 (Nat.le_of_ble_eq_true rfl) (dq tk_Reader_readProduct 14 rfl) (fun H locs hw _ => ?_)
        refine lv_if_eq (tgt := 61) hx hb (dq tk_Reader_readProduct 15 rfl) (by decide) (fun c3 => ?_) (fun c3 => ?_)
        · replace hf := if_t hf c3
          cases hf
          exact x_vret hc hw hr (dq tk_Reader_readProduct 31 rfl)
        · replace hf := if_f hf c3
          exact w_Reader_readProduct_32 hc hr hR hrec ih hw (lv_sub hl [0, 1, 2] rfl) hf
set_option maxRecDepth 10000 in
theorem w_Reader_readProduct {N : Nat} {dd : Nat} {rec : Int32 → St → Option St} (hc : Cxz p s m meth c args prog_10_method_18_code "LabourExchange$Reader" 4 Z) (hr : meth.sig.returnType = none) (hR : RO R (22 + 7 * dd)) (hrec : ∀ {x1 : Int32} {σ σ' : St}, rec x1 σ = some σ' → Ct l Z y_Reader_readExpression prog_10_method_13_code 4 none (rmo (20 + 7 * dd)) [.ref (Z.1 + 1), .int x1] (cmb σ μ) none True (cmb σ' μ)) {σ' : St} : ∀ {x1 : Int32} {σ : St} {H : Heap} {locs : List Loc} {ls : Array Slot}, Wd Z (cmb σ μ) s H locs → lv_has ls 4 [(0, .ref (Z.1 + 1)), (1, .int x1)] → fReader_readProduct N rec x1 σ = some σ' → W p l e R s m args below meth c H locs 0 0 (MQ below (Qr Z none True (cmb σ' μ)) args s 0 0 (fun q => Z.1 ≤ q)) (F0 m 0 ls []) := by
  have hx := hc.hx
  have hb := hc.hb
  intro x1 σ H locs ls hw hl hf
  unfold fReader_readProduct at hf
  refine lv_aload_n hx hb (dq tk_Reader_readProduct 0 rfl) rfl (lv_at hl 0 rfl) ?_
  refine lv_iload_n hx hb (dq tk_Reader_readProduct 1 rfl) rfl (lv_at hl 1 rfl) ?_
  obtain ⟨σ1, h2, hf⟩ := bn1_someZ hf
  refine K_Reader_readPart hrec hc hw wd_1308 h2 (hR.mono (by omega)) ⟨Nat.zero_le _, Nat.zero_le _⟩ hl.1 (Nat.le_of_ble_eq_true rfl) (dq tk_Reader_readProduct 2 rfl) (fun H locs hw _ => ?_)
  refine lv_iconst (v := 0) hx hb (dq tk_Reader_readProduct 3 rfl) (by decide) ?_
  refine lv_istore_n (lv' := [(2, .int 0), (0, .ref (Z.1 + 1)), (1, .int x1)]) hx hb (dq tk_Reader_readProduct 4 rfl) rfl hl (by decide) rfl (fun ls hl => ?_)
  exact w_Reader_readProduct_7 hc hr hR hrec N hw (lv_sub hl [1, 2, 0] rfl) hf
theorem c_Reader_readProduct {N : Nat} {dd : Nat} {rec : Int32 → St → Option St}  {x1 : Int32} {σ' : St} {σ : St} (hrec : ∀ {x1 : Int32} {σ σ' : St}, rec x1 σ = some σ' → Ct l Z y_Reader_readExpression prog_10_method_13_code 4 none (rmo (20 + 7 * dd)) [.ref (Z.1 + 1), .int x1] (cmb σ μ) none True (cmb σ' μ)) (hf : fReader_readProduct N rec x1 σ = some σ') : Ct l Z y_Reader_readProduct prog_10_method_18_code 4 none (rmo ((22 + 7 * dd))) [.ref (Z.1 + 1), .int x1] (cmb σ μ) none True (cmb σ' μ) := by
  refine x_met (by decide) (Nat.le_of_ble_eq_true rfl) (fun p e s m args below meth c ls hc hr hw hl => ?_)
  exact w_Reader_readProduct hc hr RO.self hrec hw hl hf
theorem K_Reader_readProduct {idx : Nat} {N : Nat} {dd : Nat} {rec : Int32 → St → Option St}  {x1 : Int32} {σ' : St} {σ : St} (hrec : ∀ {x1 : Int32} {σ σ' : St}, rec x1 σ = some σ' → Ct l Z y_Reader_readExpression prog_10_method_13_code 4 none (rmo (20 + 7 * dd)) [.ref (Z.1 + 1), .int x1] (cmb σ μ) none True (cmb σ' μ)) (hc : Cxz p s m meth c args cc own nL Z) (hw : Wd Z (cmb σ μ) s H locs) (hl : Cond.methodLink own idx y_Reader_readProduct ∈ TB) (hf : fReader_readProduct N rec x1 σ = some σ') (hR : RO R (((22 + 7 * dd)) + 1)) (hcs : cells ≤ R.cells ∧ slots ≤ R.slots) (hls : ls.size = nL) (hst : (rest.map fun v => v.category).sum ≤ 8) (hdg : decode cc pc = .ok (.invokevirtual idx, 3)) (kk : ∀ (H1 : Heap) (locs1 : List Loc), Wd Z (cmb σ' μ) s H1 locs1 → True → W p l e R s m args below meth c H1 locs1 cells slots Q (F0 m (pc + 3) ls rest)) : W p l e R s m args below meth c H locs cells slots Q (F0 m pc ls (.int x1 :: .ref (Z.1 + 1) :: rest)) :=
  x_iv hc hw (c_Reader_readProduct hrec hf) yv_Reader_readProduct (Nat.le_of_ble_eq_true rfl) rfl rfl hl (RO.call hR (by decide)) hcs rfl hls hst hdg rfl kk
set_option maxRecDepth 10000 in
theorem w_Reader_readSum_32 {N : Nat} {dd : Nat} {rec : Int32 → St → Option St} (hc : Cxz p s m meth c args prog_10_method_17_code "LabourExchange$Reader" 4 Z) (hr : meth.sig.returnType = none) (hR : RO R (23 + 7 * dd)) (hrec : ∀ {x1 : Int32} {σ σ' : St}, rec x1 σ = some σ' → Ct l Z y_Reader_readExpression prog_10_method_13_code 4 none (rmo (20 + 7 * dd)) [.ref (Z.1 + 1), .int x1] (cmb σ μ) none True (cmb σ' μ)) {σ' : St} {go7 : Int32 → Int32 → St → Option St} (hgo7 : ∀ {x1 : Int32} {x2 : Int32} {σ : St} {H : Heap} {locs : List Loc} {ls : Array Slot}, Wd Z (cmb σ μ) s H locs → lv_has ls 4 [(0, .ref (Z.1 + 1)), (1, .int x1), (2, .int x2)] → go7 x1 x2 σ = some σ' → W p l e R s m args below meth c H locs 0 0 (MQ below (Qr Z none True (cmb σ' μ)) args s 0 0 (fun q => Z.1 ≤ q)) (F0 m 7 ls [])) : ∀ {x1 : Int32} {x2 : Int32} {σ : St} {H : Heap} {locs : List Loc} {ls : Array Slot}, Wd Z (cmb σ μ) s H locs → lv_has ls 4 [(0, .ref (Z.1 + 1)), (1, .int x1), (2, .int x2)] → fReader_readSum_32 N rec go7 x1 x2 σ = some σ' → W p l e R s m args below meth c H locs 0 0 (MQ below (Qr Z none True (cmb σ' μ)) args s 0 0 (fun q => Z.1 ≤ q)) (F0 m 32 ls []) := by
  have hx := hc.hx
  have hb := hc.hb
  intro x1 x2 σ H locs ls hw hl hf
  unfold fReader_readSum_32 at hf
  refine lv_aload_n hx hb (dq tk_Reader_readSum 16 rfl) rfl (lv_at hl 0 rfl) ?_
  refine G_Reader_token hc hw wd_50 (dq tk_Reader_readSum 17 rfl) ?_
  obtain ⟨y1, hy1, hf⟩ := nm_some hf
  refine tst (congrArg Value.int hy1) ?_
  refine lv_istore_n (lv' := [(3, .int y1), (0, .ref (Z.1 + 1)), (1, .int x1), (2, .int x2)]) hx hb (dq tk_Reader_readSum 18 rfl) rfl hl (by decide) rfl (fun ls hl => ?_)
  refine lv_aload_n hx hb (dq tk_Reader_readSum 19 rfl) rfl (lv_at hl 1 rfl) ?_
  obtain ⟨σ2, h20, hf⟩ := bn1_someZ hf
  refine K_Reader_advance hc hw wd_1183 h20 (hR.mono (by omega)) ⟨Nat.zero_le _, Nat.zero_le _⟩ hl.1 (Nat.le_of_ble_eq_true rfl) (dq tk_Reader_readSum 20 rfl) (fun H locs hw _ => ?_)
  refine lv_aload_n hx hb (dq tk_Reader_readSum 21 rfl) rfl (lv_at hl 1 rfl) ?_
  refine lv_iload_n hx hb (dq tk_Reader_readSum 22 rfl) rfl (lv_at hl 2 rfl) ?_
  obtain ⟨σ3, h23, hf⟩ := bn1_someZ hf
  refine K_Reader_readProduct hrec hc hw wd_1304 h23 (hR.mono (by omega)) ⟨Nat.zero_le _, Nat.zero_le _⟩ hl.1 (Nat.le_of_ble_eq_true rfl) (dq tk_Reader_readSum 23 rfl) (fun H locs hw _ => ?_)
  refine lv_aload_n hx hb (dq tk_Reader_readSum 24 rfl) rfl (lv_at hl 1 rfl) ?_
  obtain ⟨c1, hf⟩ := chk_some hf
  refine G_Reader_act hc hw wd_54 c1 (dq tk_Reader_readSum 25 rfl) ?_
  refine lv_iload_n hx hb (dq tk_Reader_readSum 26 rfl) rfl (lv_at hl 0 rfl) ?_
  refine lv_ineg hx hb (dq tk_Reader_readSum 27 rfl) ?_
  obtain ⟨σ4, h28, hf⟩ := bn1_someZ hf
  refine K_Act_emit hc hw (inb_lt c1) wd_1320 h28 (hR.mono (by omega)) ⟨Nat.zero_le _, Nat.zero_le _⟩ hl.1 (Nat.le_of_ble_eq_true rfl) (dq tk_Reader_readSum 28 rfl) (fun H locs hw _ => ?_)
  refine lv_iinc (v := (x2 + 1)) (lv' := [(2, .int (x2 + 1)), (3, .int y1), (0, .ref (Z.1 + 1)), (1, .int x1)]) hx hb (dq tk_Reader_readSum 29 rfl) hl (k := 3) rfl rfl (by decide) rfl (fun ls hl => ?_)
  refine lv_goto (tgt := 7) hx hb (dq tk_Reader_readSum 30 rfl) (by decide) ?_
  exact hgo7 hw (lv_sub hl [2, 3, 0] rfl) hf
set_option maxRecDepth 10000 in
theorem w_Reader_readSum_7 {N : Nat} {dd : Nat} {rec : Int32 → St → Option St} (hc : Cxz p s m meth c args prog_10_method_17_code "LabourExchange$Reader" 4 Z) (hr : meth.sig.returnType = none) (hR : RO R (23 + 7 * dd)) (hrec : ∀ {x1 : Int32} {σ σ' : St}, rec x1 σ = some σ' → Ct l Z y_Reader_readExpression prog_10_method_13_code 4 none (rmo (20 + 7 * dd)) [.ref (Z.1 + 1), .int x1] (cmb σ μ) none True (cmb σ' μ)) {σ' : St} (n : Nat) : ∀ {x1 : Int32} {x2 : Int32} {σ : St} {H : Heap} {locs : List Loc} {ls : Array Slot}, Wd Z (cmb σ μ) s H locs → lv_has ls 4 [(0, .ref (Z.1 + 1)), (1, .int x1), (2, .int x2)] → fReader_readSum_7 N rec n x1 x2 σ = some σ' → W p l e R s m args below meth c H locs 0 0 (MQ below (Qr Z none True (cmb σ' μ)) args s 0 0 (fun q => Z.1 ≤ q)) (F0 m 7 ls []) := by
  have hx := hc.hx
  have hb := hc.hb
  induction n with
  | zero =>
    intro x1 x2 σ H locs ls hw hl hf
    have hf : none = some _ := hf
    cases hf
  | succ n ih =>
    intro x1 x2 σ H locs ls hw hl hf
    unfold fReader_readSum_7 at hf
    refine lv_iload_n hx hb (dq tk_Reader_readSum 5 rfl) rfl (lv_at hl 2 rfl) ?_
    refine lv_sipush (v := 600) hx hb (dq tk_Reader_readSum 6 rfl) (by decide) ?_
    refine lv_icmp_ge (tgt := 61) hx hb (dq tk_Reader_readSum 7 rfl) (by decide) (fun c1 => ?_) (fun c1 => ?_)
    · replace hf := if_t hf c1
      cases hf
      exact x_vret hc hw hr (dq tk_Reader_readSum 31 rfl)
    · replace hf := if_f hf c1
      refine lv_aload_n hx hb (dq tk_Reader_readSum 8 rfl) rfl (lv_at hl 0 rfl) ?_
      refine lv_bipush (v := 43) hx hb (dq tk_Reader_readSum 9 rfl) (by decide) ?_
      obtain ⟨r1, h10, hf⟩ := bn1_someZ hf
      refine K_Reader_isSign hc hw wd_1316 h10 (hR.mono (by omega)) ⟨Nat.zero_le _, Nat.zero_le _⟩ hl.1 (Nat.le_of_ble_eq_true rfl) (dq tk_Reader_readSum 10 rfl) (fun H locs hw _ => ?_)
      refine lv_if_ne (tgt := 32) hx hb (dq tk_Reader_readSum 11 rfl) (by decide) (fun c2 => ?_) (fun c2 => ?_)
      · replace hf := if_f hf c2
        exact w_Reader_readSum_32 hc hr hR hrec ih hw (lv_sub hl [0, 1, 2] rfl) hf
      · replace hf := if_t hf c2
        refine lv_aload_n hx hb (dq tk_Reader_readSum 12 rfl) rfl (lv_at hl 0 rfl) ?_
        refine lv_bipush (v := 45) hx hb (dq tk_Reader_readSum 13 rfl) (by decide) ?_
        obtain ⟨r2, h14, hf⟩ := bn1_someZ hf
        refine K_Reader_isSign hc hw wd_1316 h14 (hR.mono (by omega)) ⟨Nat.zero_le _, Nat.zero_le _⟩ hl.1 (Nat.le_of_ble_eq_true rfl) (dq tk_Reader_readSum 14 rfl) (fun H locs hw _ => ?_)
        refine lv_if_eq (tgt := 61) hx hb (dq tk_Reader_readSum 15 rfl) (by decide) (fun c3 => ?_) (fun c3 => ?_)
        · replace hf := if_t hf c3
          cases hf
          exact x_vret hc hw hr (dq tk_Reader_readSum 31 rfl)
        · replace hf := if_f hf c3
          exact w_Reader_readSum_32 hc hr hR hrec ih hw (lv_sub hl [0, 1, 2] rfl) hf
set_option maxRecDepth 10000 in
theorem w_Reader_readSum {N : Nat} {dd : Nat} {rec : Int32 → St → Option St} (hc : Cxz p s m meth c args prog_10_method_17_code "LabourExchange$Reader" 4 Z) (hr : meth.sig.returnType = none) (hR : RO R (23 + 7 * dd)) (hrec : ∀ {x1 : Int32} {σ σ' : St}, rec x1 σ = some σ' → Ct l Z y_Reader_readExpression prog_10_method_13_code 4 none (rmo (20 + 7 * dd)) [.ref (Z.1 + 1), .int x1] (cmb σ μ) none True (cmb σ' μ)) {σ' : St} : ∀ {x1 : Int32} {σ : St} {H : Heap} {locs : List Loc} {ls : Array Slot}, Wd Z (cmb σ μ) s H locs → lv_has ls 4 [(0, .ref (Z.1 + 1)), (1, .int x1)] → fReader_readSum N rec x1 σ = some σ' → W p l e R s m args below meth c H locs 0 0 (MQ below (Qr Z none True (cmb σ' μ)) args s 0 0 (fun q => Z.1 ≤ q)) (F0 m 0 ls []) := by
  have hx := hc.hx
  have hb := hc.hb
  intro x1 σ H locs ls hw hl hf
  unfold fReader_readSum at hf
  refine lv_aload_n hx hb (dq tk_Reader_readSum 0 rfl) rfl (lv_at hl 0 rfl) ?_
  refine lv_iload_n hx hb (dq tk_Reader_readSum 1 rfl) rfl (lv_at hl 1 rfl) ?_
  obtain ⟨σ1, h2, hf⟩ := bn1_someZ hf
  refine K_Reader_readProduct hrec hc hw wd_1304 h2 (hR.mono (by omega)) ⟨Nat.zero_le _, Nat.zero_le _⟩ hl.1 (Nat.le_of_ble_eq_true rfl) (dq tk_Reader_readSum 2 rfl) (fun H locs hw _ => ?_)
  refine lv_iconst (v := 0) hx hb (dq tk_Reader_readSum 3 rfl) (by decide) ?_
  refine lv_istore_n (lv' := [(2, .int 0), (0, .ref (Z.1 + 1)), (1, .int x1)]) hx hb (dq tk_Reader_readSum 4 rfl) rfl hl (by decide) rfl (fun ls hl => ?_)
  exact w_Reader_readSum_7 hc hr hR hrec N hw (lv_sub hl [1, 2, 0] rfl) hf
theorem c_Reader_readSum {N : Nat} {dd : Nat} {rec : Int32 → St → Option St}  {x1 : Int32} {σ' : St} {σ : St} (hrec : ∀ {x1 : Int32} {σ σ' : St}, rec x1 σ = some σ' → Ct l Z y_Reader_readExpression prog_10_method_13_code 4 none (rmo (20 + 7 * dd)) [.ref (Z.1 + 1), .int x1] (cmb σ μ) none True (cmb σ' μ)) (hf : fReader_readSum N rec x1 σ = some σ') : Ct l Z y_Reader_readSum prog_10_method_17_code 4 none (rmo ((23 + 7 * dd))) [.ref (Z.1 + 1), .int x1] (cmb σ μ) none True (cmb σ' μ) := by
  refine x_met (by decide) (Nat.le_of_ble_eq_true rfl) (fun p e s m args below meth c ls hc hr hw hl => ?_)
  exact w_Reader_readSum hc hr RO.self hrec hw hl hf
theorem K_Reader_readSum {idx : Nat} {N : Nat} {dd : Nat} {rec : Int32 → St → Option St}  {x1 : Int32} {σ' : St} {σ : St} (hrec : ∀ {x1 : Int32} {σ σ' : St}, rec x1 σ = some σ' → Ct l Z y_Reader_readExpression prog_10_method_13_code 4 none (rmo (20 + 7 * dd)) [.ref (Z.1 + 1), .int x1] (cmb σ μ) none True (cmb σ' μ)) (hc : Cxz p s m meth c args cc own nL Z) (hw : Wd Z (cmb σ μ) s H locs) (hl : Cond.methodLink own idx y_Reader_readSum ∈ TB) (hf : fReader_readSum N rec x1 σ = some σ') (hR : RO R (((23 + 7 * dd)) + 1)) (hcs : cells ≤ R.cells ∧ slots ≤ R.slots) (hls : ls.size = nL) (hst : (rest.map fun v => v.category).sum ≤ 8) (hdg : decode cc pc = .ok (.invokevirtual idx, 3)) (kk : ∀ (H1 : Heap) (locs1 : List Loc), Wd Z (cmb σ' μ) s H1 locs1 → True → W p l e R s m args below meth c H1 locs1 cells slots Q (F0 m (pc + 3) ls rest)) : W p l e R s m args below meth c H locs cells slots Q (F0 m pc ls (.int x1 :: .ref (Z.1 + 1) :: rest)) :=
  x_iv hc hw (c_Reader_readSum hrec hf) yv_Reader_readSum (Nat.le_of_ble_eq_true rfl) rfl rfl hl (RO.call hR (by decide)) hcs rfl hls hst hdg rfl kk
set_option maxRecDepth 10000 in
theorem w_Reader_readTest_28 {N : Nat} {dd : Nat} {rec : Int32 → St → Option St} (hc : Cxz p s m meth c args prog_10_method_16_code "LabourExchange$Reader" 3 Z) (hr : meth.sig.returnType = none) (hR : RO R (24 + 7 * dd)) (hrec : ∀ {x1 : Int32} {σ σ' : St}, rec x1 σ = some σ' → Ct l Z y_Reader_readExpression prog_10_method_13_code 4 none (rmo (20 + 7 * dd)) [.ref (Z.1 + 1), .int x1] (cmb σ μ) none True (cmb σ' μ)) {σ' : St} : ∀ {x1 : Int32} {x2 : Int32} {σ : St} {H : Heap} {locs : List Loc} {ls : Array Slot}, Wd Z (cmb σ μ) s H locs → lv_has ls 3 [(0, .ref (Z.1 + 1)), (1, .int x1), (2, .int x2)] → fReader_readTest_28 N rec x1 x2 σ = some σ' → W p l e R s m args below meth c H locs 0 0 (MQ below (Qr Z none True (cmb σ' μ)) args s 0 0 (fun q => Z.1 ≤ q)) (F0 m 28 ls []) := by
  have hx := hc.hx
  have hb := hc.hb
  intro x1 x2 σ H locs ls hw hl hf
  unfold fReader_readTest_28 at hf
  refine lv_aload_n hx hb (dq tk_Reader_readTest 14 rfl) rfl (lv_at hl 0 rfl) ?_
  obtain ⟨σ1, h15, hf⟩ := bn1_someZ hf
  refine K_Reader_advance hc hw wd_1183 h15 (hR.mono (by omega)) ⟨Nat.zero_le _, Nat.zero_le _⟩ hl.1 (Nat.le_of_ble_eq_true rfl) (dq tk_Reader_readTest 15 rfl) (fun H locs hw _ => ?_)
  refine lv_aload_n hx hb (dq tk_Reader_readTest 16 rfl) rfl (lv_at hl 0 rfl) ?_
  refine lv_iload_n hx hb (dq tk_Reader_readTest 17 rfl) rfl (lv_at hl 1 rfl) ?_
  obtain ⟨σ2, h18, hf⟩ := bn1_someZ hf
  refine K_Reader_readSum hrec hc hw wd_1300 h18 (hR.mono (by omega)) ⟨Nat.zero_le _, Nat.zero_le _⟩ hl.1 (Nat.le_of_ble_eq_true rfl) (dq tk_Reader_readTest 18 rfl) (fun H locs hw _ => ?_)
  refine lv_aload_n hx hb (dq tk_Reader_readTest 19 rfl) rfl (lv_at hl 0 rfl) ?_
  obtain ⟨c1, hf⟩ := chk_some hf
  refine G_Reader_act hc hw wd_54 c1 (dq tk_Reader_readTest 20 rfl) ?_
  refine lv_iload_n hx hb (dq tk_Reader_readTest 21 rfl) rfl (lv_at hl 2 rfl) ?_
  refine lv_ineg hx hb (dq tk_Reader_readTest 22 rfl) ?_
  obtain ⟨σ3, h23, hf⟩ := bn1_someZ hf
  refine K_Act_emit hc hw (inb_lt c1) wd_1320 h23 (hR.mono (by omega)) ⟨Nat.zero_le _, Nat.zero_le _⟩ hl.1 (Nat.le_of_ble_eq_true rfl) (dq tk_Reader_readTest 23 rfl) (fun H locs hw _ => ?_)
  cases hf
  exact x_vret hc hw hr (dq tk_Reader_readTest 24 rfl)
set_option maxRecDepth 10000 in
theorem w_Reader_readTest {N : Nat} {dd : Nat} {rec : Int32 → St → Option St} (hc : Cxz p s m meth c args prog_10_method_16_code "LabourExchange$Reader" 3 Z) (hr : meth.sig.returnType = none) (hR : RO R (24 + 7 * dd)) (hrec : ∀ {x1 : Int32} {σ σ' : St}, rec x1 σ = some σ' → Ct l Z y_Reader_readExpression prog_10_method_13_code 4 none (rmo (20 + 7 * dd)) [.ref (Z.1 + 1), .int x1] (cmb σ μ) none True (cmb σ' μ)) {σ' : St} : ∀ {x1 : Int32} {σ : St} {H : Heap} {locs : List Loc} {ls : Array Slot}, Wd Z (cmb σ μ) s H locs → lv_has ls 3 [(0, .ref (Z.1 + 1)), (1, .int x1)] → fReader_readTest N rec x1 σ = some σ' → W p l e R s m args below meth c H locs 0 0 (MQ below (Qr Z none True (cmb σ' μ)) args s 0 0 (fun q => Z.1 ≤ q)) (F0 m 0 ls []) := by
  have hx := hc.hx
  have hb := hc.hb
  intro x1 σ H locs ls hw hl hf
  unfold fReader_readTest at hf
  refine lv_aload_n hx hb (dq tk_Reader_readTest 0 rfl) rfl (lv_at hl 0 rfl) ?_
  refine lv_iload_n hx hb (dq tk_Reader_readTest 1 rfl) rfl (lv_at hl 1 rfl) ?_
  obtain ⟨σ1, h2, hf⟩ := bn1_someZ hf
  refine K_Reader_readSum hrec hc hw wd_1300 h2 (hR.mono (by omega)) ⟨Nat.zero_le _, Nat.zero_le _⟩ hl.1 (Nat.le_of_ble_eq_true rfl) (dq tk_Reader_readTest 2 rfl) (fun H locs hw _ => ?_)
  refine lv_aload_n hx hb (dq tk_Reader_readTest 3 rfl) rfl (lv_at hl 0 rfl) ?_
  refine G_Reader_token hc hw wd_50 (dq tk_Reader_readTest 4 rfl) ?_
  obtain ⟨y2, hy2, hf⟩ := nm_some hf
  refine tst (congrArg Value.int hy2) ?_
  refine lv_istore_n (lv' := [(2, .int y2), (0, .ref (Z.1 + 1)), (1, .int x1)]) hx hb (dq tk_Reader_readTest 5 rfl) rfl hl (by decide) rfl (fun ls hl => ?_)
  refine lv_aload_n hx hb (dq tk_Reader_readTest 6 rfl) rfl (lv_at hl 1 rfl) ?_
  refine lv_bipush (v := 60) hx hb (dq tk_Reader_readTest 7 rfl) (by decide) ?_
  obtain ⟨r3, h8, hf⟩ := bn1_someZ hf
  refine K_Reader_isSign hc hw wd_1316 h8 (hR.mono (by omega)) ⟨Nat.zero_le _, Nat.zero_le _⟩ hl.1 (Nat.le_of_ble_eq_true rfl) (dq tk_Reader_readTest 8 rfl) (fun H locs hw _ => ?_)
  refine lv_if_ne (tgt := 28) hx hb (dq tk_Reader_readTest 9 rfl) (by decide) (fun c1 => ?_) (fun c1 => ?_)
  · replace hf := if_f hf c1
    exact w_Reader_readTest_28 hc hr hR hrec hw (lv_sub hl [1, 2, 0] rfl) hf
  · replace hf := if_t hf c1
    refine lv_aload_n hx hb (dq tk_Reader_readTest 10 rfl) rfl (lv_at hl 1 rfl) ?_
    refine lv_bipush (v := 61) hx hb (dq tk_Reader_readTest 11 rfl) (by decide) ?_
    obtain ⟨r4, h12, hf⟩ := bn1_someZ hf
    refine K_Reader_isSign hc hw wd_1316 h12 (hR.mono (by omega)) ⟨Nat.zero_le _, Nat.zero_le _⟩ hl.1 (Nat.le_of_ble_eq_true rfl) (dq tk_Reader_readTest 12 rfl) (fun H locs hw _ => ?_)
    refine lv_if_eq (tgt := 46) hx hb (dq tk_Reader_readTest 13 rfl) (by decide) (fun c2 => ?_) (fun c2 => ?_)
    · replace hf := if_t hf c2
      cases hf
      exact x_vret hc hw hr (dq tk_Reader_readTest 24 rfl)
    · replace hf := if_f hf c2
      exact w_Reader_readTest_28 hc hr hR hrec hw (lv_sub hl [1, 2, 0] rfl) hf
theorem c_Reader_readTest {N : Nat} {dd : Nat} {rec : Int32 → St → Option St}  {x1 : Int32} {σ' : St} {σ : St} (hrec : ∀ {x1 : Int32} {σ σ' : St}, rec x1 σ = some σ' → Ct l Z y_Reader_readExpression prog_10_method_13_code 4 none (rmo (20 + 7 * dd)) [.ref (Z.1 + 1), .int x1] (cmb σ μ) none True (cmb σ' μ)) (hf : fReader_readTest N rec x1 σ = some σ') : Ct l Z y_Reader_readTest prog_10_method_16_code 3 none (rmo ((24 + 7 * dd))) [.ref (Z.1 + 1), .int x1] (cmb σ μ) none True (cmb σ' μ) := by
  refine x_met (by decide) (Nat.le_of_ble_eq_true rfl) (fun p e s m args below meth c ls hc hr hw hl => ?_)
  exact w_Reader_readTest hc hr RO.self hrec hw hl hf
theorem K_Reader_readTest {idx : Nat} {N : Nat} {dd : Nat} {rec : Int32 → St → Option St}  {x1 : Int32} {σ' : St} {σ : St} (hrec : ∀ {x1 : Int32} {σ σ' : St}, rec x1 σ = some σ' → Ct l Z y_Reader_readExpression prog_10_method_13_code 4 none (rmo (20 + 7 * dd)) [.ref (Z.1 + 1), .int x1] (cmb σ μ) none True (cmb σ' μ)) (hc : Cxz p s m meth c args cc own nL Z) (hw : Wd Z (cmb σ μ) s H locs) (hl : Cond.methodLink own idx y_Reader_readTest ∈ TB) (hf : fReader_readTest N rec x1 σ = some σ') (hR : RO R (((24 + 7 * dd)) + 1)) (hcs : cells ≤ R.cells ∧ slots ≤ R.slots) (hls : ls.size = nL) (hst : (rest.map fun v => v.category).sum ≤ 8) (hdg : decode cc pc = .ok (.invokevirtual idx, 3)) (kk : ∀ (H1 : Heap) (locs1 : List Loc), Wd Z (cmb σ' μ) s H1 locs1 → True → W p l e R s m args below meth c H1 locs1 cells slots Q (F0 m (pc + 3) ls rest)) : W p l e R s m args below meth c H locs cells slots Q (F0 m pc ls (.int x1 :: .ref (Z.1 + 1) :: rest)) :=
  x_iv hc hw (c_Reader_readTest hrec hf) yv_Reader_readTest (Nat.le_of_ble_eq_true rfl) rfl rfl hl (RO.call hR (by decide)) hcs rfl hls hst hdg rfl kk
set_option maxRecDepth 10000 in
theorem w_Reader_readNegation_49 {N : Nat} {dd : Nat} {rec : Int32 → St → Option St} (hc : Cxz p s m meth c args prog_10_method_15_code "LabourExchange$Reader" 4 Z) (hr : meth.sig.returnType = none) (hR : RO R (25 + 7 * dd)) (hrec : ∀ {x1 : Int32} {σ σ' : St}, rec x1 σ = some σ' → Ct l Z y_Reader_readExpression prog_10_method_13_code 4 none (rmo (20 + 7 * dd)) [.ref (Z.1 + 1), .int x1] (cmb σ μ) none True (cmb σ' μ)) {σ' : St} (n : Nat) : ∀ {x2 : Int32} {x3 : Int32} {σ : St} {H : Heap} {locs : List Loc} {ls : Array Slot}, Wd Z (cmb σ μ) s H locs → lv_has ls 4 [(0, .ref (Z.1 + 1)), (2, .int x2), (3, .int x3)] → fReader_readNegation_49 N rec n x2 x3 σ = some σ' → W p l e R s m args below meth c H locs 0 0 (MQ below (Qr Z none True (cmb σ' μ)) args s 0 0 (fun q => Z.1 ≤ q)) (F0 m 49 ls []) := by
  have hx := hc.hx
  have hb := hc.hb
  induction n with
  | zero =>
    intro x2 x3 σ H locs ls hw hl hf
    have hf : none = some _ := hf
    cases hf
  | succ n ih =>
    intro x2 x3 σ H locs ls hw hl hf
    unfold fReader_readNegation_49 at hf
    refine lv_iload_n hx hb (dq tk_Reader_readNegation 26 rfl) rfl (lv_at hl 2 rfl) ?_
    refine lv_iload_n hx hb (dq tk_Reader_readNegation 27 rfl) rfl (lv_at hl 1 rfl) ?_
    refine lv_icmp_ge (tgt := 69) hx hb (dq tk_Reader_readNegation 28 rfl) (by decide) (fun c1 => ?_) (fun c1 => ?_)
    · replace hf := if_t hf c1
      cases hf
      exact x_vret hc hw hr (dq tk_Reader_readNegation 35 rfl)
    · replace hf := if_f hf c1
      refine lv_aload_n hx hb (dq tk_Reader_readNegation 29 rfl) rfl (lv_at hl 0 rfl) ?_
      obtain ⟨c2, hf⟩ := chk_some hf
      refine G_Reader_act hc hw wd_54 c2 (dq tk_Reader_readNegation 30 rfl) ?_
      refine lv_bipush (v := (-4)) hx hb (dq tk_Reader_readNegation 31 rfl) (by decide) ?_
      obtain ⟨σ1, h32, hf⟩ := bn1_someZ hf
      refine K_Act_emit hc hw (inb_lt c2) wd_1320 h32 (hR.mono (by omega)) ⟨Nat.zero_le _, Nat.zero_le _⟩ hl.1 (Nat.le_of_ble_eq_true rfl) (dq tk_Reader_readNegation 32 rfl) (fun H locs hw _ => ?_)
      refine lv_iinc (v := (x3 + 1)) (lv' := [(3, .int (x3 + 1)), (0, .ref (Z.1 + 1)), (2, .int x2)]) hx hb (dq tk_Reader_readNegation 33 rfl) hl (k := 2) rfl rfl (by decide) rfl (fun ls hl => ?_)
      refine lv_goto (tgt := 49) hx hb (dq tk_Reader_readNegation 34 rfl) (by decide) ?_
      exact ih hw (lv_sub hl [1, 2, 0] rfl) hf
set_option maxRecDepth 10000 in
theorem w_Reader_readNegation_27 {N : Nat} {dd : Nat} {rec : Int32 → St → Option St} (hc : Cxz p s m meth c args prog_10_method_15_code "LabourExchange$Reader" 4 Z) (hr : meth.sig.returnType = none) (hR : RO R (25 + 7 * dd)) (hrec : ∀ {x1 : Int32} {σ σ' : St}, rec x1 σ = some σ' → Ct l Z y_Reader_readExpression prog_10_method_13_code 4 none (rmo (20 + 7 * dd)) [.ref (Z.1 + 1), .int x1] (cmb σ μ) none True (cmb σ' μ)) {σ' : St} : ∀ {x1 : Int32} {x2 : Int32} {σ : St} {H : Heap} {locs : List Loc} {ls : Array Slot}, Wd Z (cmb σ μ) s H locs → lv_has ls 4 [(0, .ref (Z.1 + 1)), (1, .int x1), (2, .int x2)] → fReader_readNegation_27 N rec x1 x2 σ = some σ' → W p l e R s m args below meth c H locs 0 0 (MQ below (Qr Z none True (cmb σ' μ)) args s 0 0 (fun q => Z.1 ≤ q)) (F0 m 27 ls []) := by
  have hx := hc.hx
  have hb := hc.hb
  intro x1 x2 σ H locs ls hw hl hf
  unfold fReader_readNegation_27 at hf
  refine lv_aload_n hx hb (dq tk_Reader_readNegation 13 rfl) rfl (lv_at hl 0 rfl) ?_
  refine lv_bipush (v := 10) hx hb (dq tk_Reader_readNegation 14 rfl) (by decide) ?_
  obtain ⟨r1, h15, hf⟩ := bn1_someZ hf
  refine K_Reader_isWord hc hw wd_1292 h15 (hR.mono (by omega)) ⟨Nat.zero_le _, Nat.zero_le _⟩ hl.1 (Nat.le_of_ble_eq_true rfl) (dq tk_Reader_readNegation 15 rfl) (fun H locs hw _ => ?_)
  refine lv_if_eq (tgt := 42) hx hb (dq tk_Reader_readNegation 16 rfl) (by decide) (fun c1 => ?_) (fun c1 => ?_)
  · replace hf := if_t hf c1
    refine lv_aload_n hx hb (dq tk_Reader_readNegation 21 rfl) rfl (lv_at hl 0 rfl) ?_
    refine lv_iload_n hx hb (dq tk_Reader_readNegation 22 rfl) rfl (lv_at hl 1 rfl) ?_
    obtain ⟨σ2, h23, hf⟩ := bn1_someZ hf
    refine K_Reader_readTest hrec hc hw wd_1296 h23 (hR.mono (by omega)) ⟨Nat.zero_le _, Nat.zero_le _⟩ hl.1 (Nat.le_of_ble_eq_true rfl) (dq tk_Reader_readNegation 23 rfl) (fun H locs hw _ => ?_)
    refine lv_iconst (v := 0) hx hb (dq tk_Reader_readNegation 24 rfl) (by decide) ?_
    refine lv_istore_n (lv' := [(3, .int 0), (0, .ref (Z.1 + 1)), (1, .int x1), (2, .int x2)]) hx hb (dq tk_Reader_readNegation 25 rfl) rfl hl (by decide) rfl (fun ls hl => ?_)
    exact w_Reader_readNegation_49 hc hr hR hrec N hw (lv_sub hl [1, 3, 0] rfl) hf
  · replace hf := if_f hf c1
    refine lv_aload_n hx hb (dq tk_Reader_readNegation 17 rfl) rfl (lv_at hl 0 rfl) ?_
    refine lv_iconst (v := 2) hx hb (dq tk_Reader_readNegation 18 rfl) (by decide) ?_
    obtain ⟨σ3, h19, hf⟩ := bn1_someZ hf
    refine K_Reader_fail hc hw wd_1256 h19 (hR.mono (by omega)) ⟨Nat.zero_le _, Nat.zero_le _⟩ hl.1 (Nat.le_of_ble_eq_true rfl) (dq tk_Reader_readNegation 19 rfl) (fun H locs hw _ => ?_)
    cases hf
    exact x_vret hc hw hr (dq tk_Reader_readNegation 20 rfl)
set_option maxRecDepth 10000 in
theorem w_Reader_readNegation_2 {N : Nat} {dd : Nat} {rec : Int32 → St → Option St} (hc : Cxz p s m meth c args prog_10_method_15_code "LabourExchange$Reader" 4 Z) (hr : meth.sig.returnType = none) (hR : RO R (25 + 7 * dd)) (hrec : ∀ {x1 : Int32} {σ σ' : St}, rec x1 σ = some σ' → Ct l Z y_Reader_readExpression prog_10_method_13_code 4 none (rmo (20 + 7 * dd)) [.ref (Z.1 + 1), .int x1] (cmb σ μ) none True (cmb σ' μ)) {σ' : St} (n : Nat) : ∀ {x1 : Int32} {x2 : Int32} {σ : St} {H : Heap} {locs : List Loc} {ls : Array Slot}, Wd Z (cmb σ μ) s H locs → lv_has ls 4 [(0, .ref (Z.1 + 1)), (1, .int x1), (2, .int x2)] → fReader_readNegation_2 N rec n x1 x2 σ = some σ' → W p l e R s m args below meth c H locs 0 0 (MQ below (Qr Z none True (cmb σ' μ)) args s 0 0 (fun q => Z.1 ≤ q)) (F0 m 2 ls []) := by
  have hx := hc.hx
  have hb := hc.hb
  induction n with
  | zero =>
    intro x1 x2 σ H locs ls hw hl hf
    have hf : none = some _ := hf
    cases hf
  | succ n ih =>
    intro x1 x2 σ H locs ls hw hl hf
    unfold fReader_readNegation_2 at hf
    refine lv_iload_n hx hb (dq tk_Reader_readNegation 2 rfl) rfl (lv_at hl 2 rfl) ?_
    refine lv_bipush (v := 6) hx hb (dq tk_Reader_readNegation 3 rfl) (by decide) ?_
    refine lv_icmp_ge (tgt := 27) hx hb (dq tk_Reader_readNegation 4 rfl) (by decide) (fun c1 => ?_) (fun c1 => ?_)
    · replace hf := if_t hf c1
      exact w_Reader_readNegation_27 hc hr hR hrec hw (lv_sub hl [0, 1, 2] rfl) hf
    · replace hf := if_f hf c1
      refine lv_aload_n hx hb (dq tk_Reader_readNegation 5 rfl) rfl (lv_at hl 0 rfl) ?_
      refine lv_bipush (v := 10) hx hb (dq tk_Reader_readNegation 6 rfl) (by decide) ?_
      obtain ⟨r1, h7, hf⟩ := bn1_someZ hf
      refine K_Reader_isWord hc hw wd_1292 h7 (hR.mono (by omega)) ⟨Nat.zero_le _, Nat.zero_le _⟩ hl.1 (Nat.le_of_ble_eq_true rfl) (dq tk_Reader_readNegation 7 rfl) (fun H locs hw _ => ?_)
      refine lv_if_eq (tgt := 27) hx hb (dq tk_Reader_readNegation 8 rfl) (by decide) (fun c2 => ?_) (fun c2 => ?_)
      · replace hf := if_t hf c2
        exact w_Reader_readNegation_27 hc hr hR hrec hw (lv_sub hl [0, 1, 2] rfl) hf
      · replace hf := if_f hf c2
        refine lv_aload_n hx hb (dq tk_Reader_readNegation 9 rfl) rfl (lv_at hl 0 rfl) ?_
        obtain ⟨σ2, h10, hf⟩ := bn1_someZ hf
        refine K_Reader_advance hc hw wd_1183 h10 (hR.mono (by omega)) ⟨Nat.zero_le _, Nat.zero_le _⟩ hl.1 (Nat.le_of_ble_eq_true rfl) (dq tk_Reader_readNegation 10 rfl) (fun H locs hw _ => ?_)
        refine lv_iinc (v := (x2 + 1)) (lv' := [(2, .int (x2 + 1)), (0, .ref (Z.1 + 1)), (1, .int x1)]) hx hb (dq tk_Reader_readNegation 11 rfl) hl (k := 2) rfl rfl (by decide) rfl (fun ls hl => ?_)
        refine lv_goto (tgt := 2) hx hb (dq tk_Reader_readNegation 12 rfl) (by decide) ?_
        exact ih hw (lv_sub hl [1, 2, 0] rfl) hf
set_option maxRecDepth 10000 in
theorem w_Reader_readNegation {N : Nat} {dd : Nat} {rec : Int32 → St → Option St} (hc : Cxz p s m meth c args prog_10_method_15_code "LabourExchange$Reader" 4 Z) (hr : meth.sig.returnType = none) (hR : RO R (25 + 7 * dd)) (hrec : ∀ {x1 : Int32} {σ σ' : St}, rec x1 σ = some σ' → Ct l Z y_Reader_readExpression prog_10_method_13_code 4 none (rmo (20 + 7 * dd)) [.ref (Z.1 + 1), .int x1] (cmb σ μ) none True (cmb σ' μ)) {σ' : St} : ∀ {x1 : Int32} {σ : St} {H : Heap} {locs : List Loc} {ls : Array Slot}, Wd Z (cmb σ μ) s H locs → lv_has ls 4 [(0, .ref (Z.1 + 1)), (1, .int x1)] → fReader_readNegation N rec x1 σ = some σ' → W p l e R s m args below meth c H locs 0 0 (MQ below (Qr Z none True (cmb σ' μ)) args s 0 0 (fun q => Z.1 ≤ q)) (F0 m 0 ls []) := by
  have hx := hc.hx
  have hb := hc.hb
  intro x1 σ H locs ls hw hl hf
  unfold fReader_readNegation at hf
  refine lv_iconst (v := 0) hx hb (dq tk_Reader_readNegation 0 rfl) (by decide) ?_
  refine lv_istore_n (lv' := [(2, .int 0), (0, .ref (Z.1 + 1)), (1, .int x1)]) hx hb (dq tk_Reader_readNegation 1 rfl) rfl hl (by decide) rfl (fun ls hl => ?_)
  exact w_Reader_readNegation_2 hc hr hR hrec N hw (lv_sub hl [1, 2, 0] rfl) hf
theorem c_Reader_readNegation {N : Nat} {dd : Nat} {rec : Int32 → St → Option St}  {x1 : Int32} {σ' : St} {σ : St} (hrec : ∀ {x1 : Int32} {σ σ' : St}, rec x1 σ = some σ' → Ct l Z y_Reader_readExpression prog_10_method_13_code 4 none (rmo (20 + 7 * dd)) [.ref (Z.1 + 1), .int x1] (cmb σ μ) none True (cmb σ' μ)) (hf : fReader_readNegation N rec x1 σ = some σ') : Ct l Z y_Reader_readNegation prog_10_method_15_code 4 none (rmo ((25 + 7 * dd))) [.ref (Z.1 + 1), .int x1] (cmb σ μ) none True (cmb σ' μ) := by
  refine x_met (by decide) (Nat.le_of_ble_eq_true rfl) (fun p e s m args below meth c ls hc hr hw hl => ?_)
  exact w_Reader_readNegation hc hr RO.self hrec hw hl hf
theorem K_Reader_readNegation {idx : Nat} {N : Nat} {dd : Nat} {rec : Int32 → St → Option St}  {x1 : Int32} {σ' : St} {σ : St} (hrec : ∀ {x1 : Int32} {σ σ' : St}, rec x1 σ = some σ' → Ct l Z y_Reader_readExpression prog_10_method_13_code 4 none (rmo (20 + 7 * dd)) [.ref (Z.1 + 1), .int x1] (cmb σ μ) none True (cmb σ' μ)) (hc : Cxz p s m meth c args cc own nL Z) (hw : Wd Z (cmb σ μ) s H locs) (hl : Cond.methodLink own idx y_Reader_readNegation ∈ TB) (hf : fReader_readNegation N rec x1 σ = some σ') (hR : RO R (((25 + 7 * dd)) + 1)) (hcs : cells ≤ R.cells ∧ slots ≤ R.slots) (hls : ls.size = nL) (hst : (rest.map fun v => v.category).sum ≤ 8) (hdg : decode cc pc = .ok (.invokevirtual idx, 3)) (kk : ∀ (H1 : Heap) (locs1 : List Loc), Wd Z (cmb σ' μ) s H1 locs1 → True → W p l e R s m args below meth c H1 locs1 cells slots Q (F0 m (pc + 3) ls rest)) : W p l e R s m args below meth c H locs cells slots Q (F0 m pc ls (.int x1 :: .ref (Z.1 + 1) :: rest)) :=
  x_iv hc hw (c_Reader_readNegation hrec hf) yv_Reader_readNegation (Nat.le_of_ble_eq_true rfl) rfl rfl hl (RO.call hR (by decide)) hcs rfl hls hst hdg rfl kk
set_option maxRecDepth 10000 in
theorem w_Reader_readConjunction_7 {N : Nat} {dd : Nat} {rec : Int32 → St → Option St} (hc : Cxz p s m meth c args prog_10_method_14_code "LabourExchange$Reader" 3 Z) (hr : meth.sig.returnType = none) (hR : RO R (26 + 7 * dd)) (hrec : ∀ {x1 : Int32} {σ σ' : St}, rec x1 σ = some σ' → Ct l Z y_Reader_readExpression prog_10_method_13_code 4 none (rmo (20 + 7 * dd)) [.ref (Z.1 + 1), .int x1] (cmb σ μ) none True (cmb σ' μ)) {σ' : St} (n : Nat) : ∀ {x1 : Int32} {x2 : Int32} {σ : St} {H : Heap} {locs : List Loc} {ls : Array Slot}, Wd Z (cmb σ μ) s H locs → lv_has ls 3 [(0, .ref (Z.1 + 1)), (1, .int x1), (2, .int x2)] → fReader_readConjunction_7 N rec n x1 x2 σ = some σ' → W p l e R s m args below meth c H locs 0 0 (MQ below (Qr Z none True (cmb σ' μ)) args s 0 0 (fun q => Z.1 ≤ q)) (F0 m 7 ls []) := by
  have hx := hc.hx
  have hb := hc.hb
  induction n with
  | zero =>
    intro x1 x2 σ H locs ls hw hl hf
    have hf : none = some _ := hf
    cases hf
  | succ n ih =>
    intro x1 x2 σ H locs ls hw hl hf
    unfold fReader_readConjunction_7 at hf
    refine lv_iload_n hx hb (dq tk_Reader_readConjunction 5 rfl) rfl (lv_at hl 2 rfl) ?_
    refine lv_sipush (v := 600) hx hb (dq tk_Reader_readConjunction 6 rfl) (by decide) ?_
    refine lv_icmp_ge (tgt := 47) hx hb (dq tk_Reader_readConjunction 7 rfl) (by decide) (fun c1 => ?_) (fun c1 => ?_)
    · replace hf := if_t hf c1
      cases hf
      exact x_vret hc hw hr (dq tk_Reader_readConjunction 23 rfl)
    · replace hf := if_f hf c1
      refine lv_aload_n hx hb (dq tk_Reader_readConjunction 8 rfl) rfl (lv_at hl 0 rfl) ?_
      refine lv_bipush (v := 9) hx hb (dq tk_Reader_readConjunction 9 rfl) (by decide) ?_
      obtain ⟨r1, h10, hf⟩ := bn1_someZ hf
      refine K_Reader_isWord hc hw wd_1292 h10 (hR.mono (by omega)) ⟨Nat.zero_le _, Nat.zero_le _⟩ hl.1 (Nat.le_of_ble_eq_true rfl) (dq tk_Reader_readConjunction 10 rfl) (fun H locs hw _ => ?_)
      refine lv_if_eq (tgt := 47) hx hb (dq tk_Reader_readConjunction 11 rfl) (by decide) (fun c2 => ?_) (fun c2 => ?_)
      · replace hf := if_t hf c2
        cases hf
        exact x_vret hc hw hr (dq tk_Reader_readConjunction 23 rfl)
      · replace hf := if_f hf c2
        refine lv_aload_n hx hb (dq tk_Reader_readConjunction 12 rfl) rfl (lv_at hl 0 rfl) ?_
        obtain ⟨σ2, h13, hf⟩ := bn1_someZ hf
        refine K_Reader_advance hc hw wd_1183 h13 (hR.mono (by omega)) ⟨Nat.zero_le _, Nat.zero_le _⟩ hl.1 (Nat.le_of_ble_eq_true rfl) (dq tk_Reader_readConjunction 13 rfl) (fun H locs hw _ => ?_)
        refine lv_aload_n hx hb (dq tk_Reader_readConjunction 14 rfl) rfl (lv_at hl 0 rfl) ?_
        refine lv_iload_n hx hb (dq tk_Reader_readConjunction 15 rfl) rfl (lv_at hl 1 rfl) ?_
        obtain ⟨σ3, h16, hf⟩ := bn1_someZ hf
        refine K_Reader_readNegation hrec hc hw wd_1288 h16 (hR.mono (by omega)) ⟨Nat.zero_le _, Nat.zero_le _⟩ hl.1 (Nat.le_of_ble_eq_true rfl) (dq tk_Reader_readConjunction 16 rfl) (fun H locs hw _ => ?_)
        refine lv_aload_n hx hb (dq tk_Reader_readConjunction 17 rfl) rfl (lv_at hl 0 rfl) ?_
        obtain ⟨c3, hf⟩ := chk_some hf
        refine G_Reader_act hc hw wd_54 c3 (dq tk_Reader_readConjunction 18 rfl) ?_
        refine lv_bipush (v := (-3)) hx hb (dq tk_Reader_readConjunction 19 rfl) (by decide) ?_
        obtain ⟨σ4, h20, hf⟩ := bn1_someZ hf
        refine K_Act_emit hc hw (inb_lt c3) wd_1320 h20 (hR.mono (by omega)) ⟨Nat.zero_le _, Nat.zero_le _⟩ hl.1 (Nat.le_of_ble_eq_true rfl) (dq tk_Reader_readConjunction 20 rfl) (fun H locs hw _ => ?_)
        refine lv_iinc (v := (x2 + 1)) (lv' := [(2, .int (x2 + 1)), (0, .ref (Z.1 + 1)), (1, .int x1)]) hx hb (dq tk_Reader_readConjunction 21 rfl) hl (k := 2) rfl rfl (by decide) rfl (fun ls hl => ?_)
        refine lv_goto (tgt := 7) hx hb (dq tk_Reader_readConjunction 22 rfl) (by decide) ?_
        exact ih hw (lv_sub hl [1, 2, 0] rfl) hf
set_option maxRecDepth 10000 in
theorem w_Reader_readConjunction {N : Nat} {dd : Nat} {rec : Int32 → St → Option St} (hc : Cxz p s m meth c args prog_10_method_14_code "LabourExchange$Reader" 3 Z) (hr : meth.sig.returnType = none) (hR : RO R (26 + 7 * dd)) (hrec : ∀ {x1 : Int32} {σ σ' : St}, rec x1 σ = some σ' → Ct l Z y_Reader_readExpression prog_10_method_13_code 4 none (rmo (20 + 7 * dd)) [.ref (Z.1 + 1), .int x1] (cmb σ μ) none True (cmb σ' μ)) {σ' : St} : ∀ {x1 : Int32} {σ : St} {H : Heap} {locs : List Loc} {ls : Array Slot}, Wd Z (cmb σ μ) s H locs → lv_has ls 3 [(0, .ref (Z.1 + 1)), (1, .int x1)] → fReader_readConjunction N rec x1 σ = some σ' → W p l e R s m args below meth c H locs 0 0 (MQ below (Qr Z none True (cmb σ' μ)) args s 0 0 (fun q => Z.1 ≤ q)) (F0 m 0 ls []) := by
  have hx := hc.hx
  have hb := hc.hb
  intro x1 σ H locs ls hw hl hf
  unfold fReader_readConjunction at hf
  refine lv_aload_n hx hb (dq tk_Reader_readConjunction 0 rfl) rfl (lv_at hl 0 rfl) ?_
  refine lv_iload_n hx hb (dq tk_Reader_readConjunction 1 rfl) rfl (lv_at hl 1 rfl) ?_
  obtain ⟨σ1, h2, hf⟩ := bn1_someZ hf
  refine K_Reader_readNegation hrec hc hw wd_1288 h2 (hR.mono (by omega)) ⟨Nat.zero_le _, Nat.zero_le _⟩ hl.1 (Nat.le_of_ble_eq_true rfl) (dq tk_Reader_readConjunction 2 rfl) (fun H locs hw _ => ?_)
  refine lv_iconst (v := 0) hx hb (dq tk_Reader_readConjunction 3 rfl) (by decide) ?_
  refine lv_istore_n (lv' := [(2, .int 0), (0, .ref (Z.1 + 1)), (1, .int x1)]) hx hb (dq tk_Reader_readConjunction 4 rfl) rfl hl (by decide) rfl (fun ls hl => ?_)
  exact w_Reader_readConjunction_7 hc hr hR hrec N hw (lv_sub hl [1, 2, 0] rfl) hf
theorem c_Reader_readConjunction {N : Nat} {dd : Nat} {rec : Int32 → St → Option St}  {x1 : Int32} {σ' : St} {σ : St} (hrec : ∀ {x1 : Int32} {σ σ' : St}, rec x1 σ = some σ' → Ct l Z y_Reader_readExpression prog_10_method_13_code 4 none (rmo (20 + 7 * dd)) [.ref (Z.1 + 1), .int x1] (cmb σ μ) none True (cmb σ' μ)) (hf : fReader_readConjunction N rec x1 σ = some σ') : Ct l Z y_Reader_readConjunction prog_10_method_14_code 3 none (rmo ((26 + 7 * dd))) [.ref (Z.1 + 1), .int x1] (cmb σ μ) none True (cmb σ' μ) := by
  refine x_met (by decide) (Nat.le_of_ble_eq_true rfl) (fun p e s m args below meth c ls hc hr hw hl => ?_)
  exact w_Reader_readConjunction hc hr RO.self hrec hw hl hf
theorem K_Reader_readConjunction {idx : Nat} {N : Nat} {dd : Nat} {rec : Int32 → St → Option St}  {x1 : Int32} {σ' : St} {σ : St} (hrec : ∀ {x1 : Int32} {σ σ' : St}, rec x1 σ = some σ' → Ct l Z y_Reader_readExpression prog_10_method_13_code 4 none (rmo (20 + 7 * dd)) [.ref (Z.1 + 1), .int x1] (cmb σ μ) none True (cmb σ' μ)) (hc : Cxz p s m meth c args cc own nL Z) (hw : Wd Z (cmb σ μ) s H locs) (hl : Cond.methodLink own idx y_Reader_readConjunction ∈ TB) (hf : fReader_readConjunction N rec x1 σ = some σ') (hR : RO R (((26 + 7 * dd)) + 1)) (hcs : cells ≤ R.cells ∧ slots ≤ R.slots) (hls : ls.size = nL) (hst : (rest.map fun v => v.category).sum ≤ 8) (hdg : decode cc pc = .ok (.invokevirtual idx, 3)) (kk : ∀ (H1 : Heap) (locs1 : List Loc), Wd Z (cmb σ' μ) s H1 locs1 → True → W p l e R s m args below meth c H1 locs1 cells slots Q (F0 m (pc + 3) ls rest)) : W p l e R s m args below meth c H locs cells slots Q (F0 m pc ls (.int x1 :: .ref (Z.1 + 1) :: rest)) :=
  x_iv hc hw (c_Reader_readConjunction hrec hf) yv_Reader_readConjunction (Nat.le_of_ble_eq_true rfl) rfl rfl hl (RO.call hR (by decide)) hcs rfl hls hst hdg rfl kk
set_option maxRecDepth 10000 in
theorem w_Reader_readExpression_47 {N : Nat} {dd : Nat} {rec : Int32 → St → Option St} (hc : Cxz p s m meth c args prog_10_method_13_code "LabourExchange$Reader" 4 Z) (hr : meth.sig.returnType = none) (hR : RO R (27 + 7 * dd)) (hrec : ∀ {x1 : Int32} {σ σ' : St}, rec x1 σ = some σ' → Ct l Z y_Reader_readExpression prog_10_method_13_code 4 none (rmo (20 + 7 * dd)) [.ref (Z.1 + 1), .int x1] (cmb σ μ) none True (cmb σ' μ)) {σ' : St} : ∀ {s1 : Int32} {σ : St} {H : Heap} {locs : List Loc} {ls : Array Slot}, Wd Z (cmb σ μ) s H locs → lv_has ls 4 [] → fReader_readExpression_47 N rec s1 σ = some σ' → W p l e R s m args below meth c H locs 0 0 (MQ below (Qr Z none True (cmb σ' μ)) args s 0 0 (fun q => Z.1 ≤ q)) (F0 m 47 ls [.int s1, .ref (Z.1 + 1)]) := by
  have hx := hc.hx
  have hb := hc.hb
  intro s1 σ H locs ls hw hl hf
  unfold fReader_readExpression_47 at hf
  obtain ⟨σ1, h25, hf⟩ := bn1_someZ hf
  refine K_Reader_fail hc hw wd_1256 h25 (hR.mono (by omega)) ⟨Nat.zero_le _, Nat.zero_le _⟩ hl.1 (Nat.le_of_ble_eq_true rfl) (dq tk_Reader_readExpression 25 rfl) (fun H locs hw _ => ?_)
  cases hf
  exact x_vret hc hw hr (dq tk_Reader_readExpression 26 rfl)
set_option maxRecDepth 10000 in
theorem w_Reader_readExpression_58 {N : Nat} {dd : Nat} {rec : Int32 → St → Option St} (hc : Cxz p s m meth c args prog_10_method_13_code "LabourExchange$Reader" 4 Z) (hr : meth.sig.returnType = none) (hR : RO R (27 + 7 * dd)) (hrec : ∀ {x1 : Int32} {σ σ' : St}, rec x1 σ = some σ' → Ct l Z y_Reader_readExpression prog_10_method_13_code 4 none (rmo (20 + 7 * dd)) [.ref (Z.1 + 1), .int x1] (cmb σ μ) none True (cmb σ' μ)) {σ' : St} (n : Nat) : ∀ {x1 : Int32} {x3 : Int32} {σ : St} {H : Heap} {locs : List Loc} {ls : Array Slot}, Wd Z (cmb σ μ) s H locs → lv_has ls 4 [(0, .ref (Z.1 + 1)), (1, .int x1), (3, .int x3)] → fReader_readExpression_58 N rec n x1 x3 σ = some σ' → W p l e R s m args below meth c H locs 0 0 (MQ below (Qr Z none True (cmb σ' μ)) args s 0 0 (fun q => Z.1 ≤ q)) (F0 m 58 ls []) := by
  have hx := hc.hx
  have hb := hc.hb
  induction n with
  | zero =>
    intro x1 x3 σ H locs ls hw hl hf
    have hf : none = some _ := hf
    cases hf
  | succ n ih =>
    intro x1 x3 σ H locs ls hw hl hf
    unfold fReader_readExpression_58 at hf
    refine lv_iload_n hx hb (dq tk_Reader_readExpression 32 rfl) rfl (lv_at hl 2 rfl) ?_
    refine lv_sipush (v := 600) hx hb (dq tk_Reader_readExpression 33 rfl) (by decide) ?_
    refine lv_icmp_ge (tgt := 98) hx hb (dq tk_Reader_readExpression 34 rfl) (by decide) (fun c1 => ?_) (fun c1 => ?_)
    · replace hf := if_t hf c1
      cases hf
      exact x_vret hc hw hr (dq tk_Reader_readExpression 50 rfl)
    · replace hf := if_f hf c1
      refine lv_aload_n hx hb (dq tk_Reader_readExpression 35 rfl) rfl (lv_at hl 0 rfl) ?_
      refine lv_bipush (v := 8) hx hb (dq tk_Reader_readExpression 36 rfl) (by decide) ?_
      obtain ⟨r1, h37, hf⟩ := bn1_someZ hf
      refine K_Reader_isWord hc hw wd_1292 h37 (hR.mono (by omega)) ⟨Nat.zero_le _, Nat.zero_le _⟩ hl.1 (Nat.le_of_ble_eq_true rfl) (dq tk_Reader_readExpression 37 rfl) (fun H locs hw _ => ?_)
      refine lv_if_eq (tgt := 98) hx hb (dq tk_Reader_readExpression 38 rfl) (by decide) (fun c2 => ?_) (fun c2 => ?_)
      · replace hf := if_t hf c2
        cases hf
        exact x_vret hc hw hr (dq tk_Reader_readExpression 50 rfl)
      · replace hf := if_f hf c2
        refine lv_aload_n hx hb (dq tk_Reader_readExpression 39 rfl) rfl (lv_at hl 0 rfl) ?_
        obtain ⟨σ2, h40, hf⟩ := bn1_someZ hf
        refine K_Reader_advance hc hw wd_1183 h40 (hR.mono (by omega)) ⟨Nat.zero_le _, Nat.zero_le _⟩ hl.1 (Nat.le_of_ble_eq_true rfl) (dq tk_Reader_readExpression 40 rfl) (fun H locs hw _ => ?_)
        refine lv_aload_n hx hb (dq tk_Reader_readExpression 41 rfl) rfl (lv_at hl 0 rfl) ?_
        refine lv_iload_n hx hb (dq tk_Reader_readExpression 42 rfl) rfl (lv_at hl 1 rfl) ?_
        obtain ⟨σ3, h43, hf⟩ := bn1_someZ hf
        refine K_Reader_readConjunction hrec hc hw wd_1284 h43 (hR.mono (by omega)) ⟨Nat.zero_le _, Nat.zero_le _⟩ hl.1 (Nat.le_of_ble_eq_true rfl) (dq tk_Reader_readExpression 43 rfl) (fun H locs hw _ => ?_)
        refine lv_aload_n hx hb (dq tk_Reader_readExpression 44 rfl) rfl (lv_at hl 0 rfl) ?_
        obtain ⟨c3, hf⟩ := chk_some hf
        refine G_Reader_act hc hw wd_54 c3 (dq tk_Reader_readExpression 45 rfl) ?_
        refine lv_bipush (v := (-2)) hx hb (dq tk_Reader_readExpression 46 rfl) (by decide) ?_
        obtain ⟨σ4, h47, hf⟩ := bn1_someZ hf
        refine K_Act_emit hc hw (inb_lt c3) wd_1320 h47 (hR.mono (by omega)) ⟨Nat.zero_le _, Nat.zero_le _⟩ hl.1 (Nat.le_of_ble_eq_true rfl) (dq tk_Reader_readExpression 47 rfl) (fun H locs hw _ => ?_)
        refine lv_iinc (v := (x3 + 1)) (lv' := [(3, .int (x3 + 1)), (0, .ref (Z.1 + 1)), (1, .int x1)]) hx hb (dq tk_Reader_readExpression 48 rfl) hl (k := 2) rfl rfl (by decide) rfl (fun ls hl => ?_)
        refine lv_goto (tgt := 58) hx hb (dq tk_Reader_readExpression 49 rfl) (by decide) ?_
        exact ih hw (lv_sub hl [1, 2, 0] rfl) hf
set_option maxRecDepth 10000 in
theorem w_Reader_readExpression_30 {N : Nat} {dd : Nat} {rec : Int32 → St → Option St} (hc : Cxz p s m meth c args prog_10_method_13_code "LabourExchange$Reader" 4 Z) (hr : meth.sig.returnType = none) (hR : RO R (27 + 7 * dd)) (hrec : ∀ {x1 : Int32} {σ σ' : St}, rec x1 σ = some σ' → Ct l Z y_Reader_readExpression prog_10_method_13_code 4 none (rmo (20 + 7 * dd)) [.ref (Z.1 + 1), .int x1] (cmb σ μ) none True (cmb σ' μ)) {σ' : St} : ∀ {x1 : Int32} {s0 : Int32} {σ : St} {H : Heap} {locs : List Loc} {ls : Array Slot}, Wd Z (cmb σ μ) s H locs → lv_has ls 4 [(0, .ref (Z.1 + 1)), (1, .int x1)] → fReader_readExpression_30 N rec x1 s0 σ = some σ' → W p l e R s m args below meth c H locs 0 0 (MQ below (Qr Z none True (cmb σ' μ)) args s 0 0 (fun q => Z.1 ≤ q)) (F0 m 30 ls [.int s0]) := by
  have hx := hc.hx
  have hb := hc.hb
  intro x1 s0 σ H locs ls hw hl hf
  unfold fReader_readExpression_30 at hf
  refine lv_istore_n (lv' := [(2, .int s0), (0, .ref (Z.1 + 1)), (1, .int x1)]) hx hb (dq tk_Reader_readExpression 15 rfl) rfl hl (by decide) rfl (fun ls hl => ?_)
  refine lv_iload_n hx hb (dq tk_Reader_readExpression 16 rfl) rfl (lv_at hl 2 rfl) ?_
  refine lv_bipush (v := 6) hx hb (dq tk_Reader_readExpression 17 rfl) (by decide) ?_
  refine lv_icmp_le (tgt := 51) hx hb (dq tk_Reader_readExpression 18 rfl) (by decide) (fun c1 => ?_) (fun c1 => ?_)
  · replace hf := if_t hf c1
    refine lv_aload_n hx hb (dq tk_Reader_readExpression 27 rfl) rfl (lv_at hl 1 rfl) ?_
    refine lv_iload_n hx hb (dq tk_Reader_readExpression 28 rfl) rfl (lv_at hl 2 rfl) ?_
    obtain ⟨σ1, h29, hf⟩ := bn1_someZ hf
    refine K_Reader_readConjunction hrec hc hw wd_1284 h29 (hR.mono (by omega)) ⟨Nat.zero_le _, Nat.zero_le _⟩ hl.1 (Nat.le_of_ble_eq_true rfl) (dq tk_Reader_readExpression 29 rfl) (fun H locs hw _ => ?_)
    refine lv_iconst (v := 0) hx hb (dq tk_Reader_readExpression 30 rfl) (by decide) ?_
    refine lv_istore_n (lv' := [(3, .int 0), (2, .int s0), (0, .ref (Z.1 + 1)), (1, .int x1)]) hx hb (dq tk_Reader_readExpression 31 rfl) rfl hl (by decide) rfl (fun ls hl => ?_)
    exact w_Reader_readExpression_58 hc hr hR hrec N hw (lv_sub hl [2, 3, 0] rfl) hf
  · replace hf := if_f hf c1
    refine lv_aload_n hx hb (dq tk_Reader_readExpression 19 rfl) rfl (lv_at hl 1 rfl) ?_
    refine lv_iload_n hx hb (dq tk_Reader_readExpression 20 rfl) rfl (lv_at hl 0 rfl) ?_
    refine lv_if_eq (tgt := 46) hx hb (dq tk_Reader_readExpression 21 rfl) (by decide) (fun c2 => ?_) (fun c2 => ?_)
    · replace hf := if_t hf c2
      refine lv_iconst (v := 1) hx hb (dq tk_Reader_readExpression 24 rfl) (by decide) ?_
      exact w_Reader_readExpression_47 hc hr hR hrec hw (lv_sub hl [] rfl) hf
    · replace hf := if_f hf c2
      refine lv_iconst (v := 2) hx hb (dq tk_Reader_readExpression 22 rfl) (by decide) ?_
      refine lv_goto (tgt := 47) hx hb (dq tk_Reader_readExpression 23 rfl) (by decide) ?_
      exact w_Reader_readExpression_47 hc hr hR hrec hw (lv_sub hl [] rfl) hf
set_option maxRecDepth 10000 in
theorem w_Reader_readExpression_25 {N : Nat} {dd : Nat} {rec : Int32 → St → Option St} (hc : Cxz p s m meth c args prog_10_method_13_code "LabourExchange$Reader" 4 Z) (hr : meth.sig.returnType = none) (hR : RO R (27 + 7 * dd)) (hrec : ∀ {x1 : Int32} {σ σ' : St}, rec x1 σ = some σ' → Ct l Z y_Reader_readExpression prog_10_method_13_code 4 none (rmo (20 + 7 * dd)) [.ref (Z.1 + 1), .int x1] (cmb σ μ) none True (cmb σ' μ)) {σ' : St} : ∀ {x1 : Int32} {σ : St} {H : Heap} {locs : List Loc} {ls : Array Slot}, Wd Z (cmb σ μ) s H locs → lv_has ls 4 [(0, .ref (Z.1 + 1)), (1, .int x1)] → fReader_readExpression_25 N rec x1 σ = some σ' → W p l e R s m args below meth c H locs 0 0 (MQ below (Qr Z none True (cmb σ' μ)) args s 0 0 (fun q => Z.1 ≤ q)) (F0 m 25 ls []) := by
  have hx := hc.hx
  have hb := hc.hb
  intro x1 σ H locs ls hw hl hf
  unfold fReader_readExpression_25 at hf
  refine lv_iconst (v := 1) hx hb (dq tk_Reader_readExpression 12 rfl) (by decide) ?_
  refine lv_goto (tgt := 30) hx hb (dq tk_Reader_readExpression 13 rfl) (by decide) ?_
  exact w_Reader_readExpression_30 hc hr hR hrec hw (lv_sub hl [0, 1] rfl) hf
set_option maxRecDepth 10000 in
theorem w_Reader_readExpression {N : Nat} {dd : Nat} {rec : Int32 → St → Option St} (hc : Cxz p s m meth c args prog_10_method_13_code "LabourExchange$Reader" 4 Z) (hr : meth.sig.returnType = none) (hR : RO R (27 + 7 * dd)) (hrec : ∀ {x1 : Int32} {σ σ' : St}, rec x1 σ = some σ' → Ct l Z y_Reader_readExpression prog_10_method_13_code 4 none (rmo (20 + 7 * dd)) [.ref (Z.1 + 1), .int x1] (cmb σ μ) none True (cmb σ' μ)) {σ' : St} : ∀ {x1 : Int32} {σ : St} {H : Heap} {locs : List Loc} {ls : Array Slot}, Wd Z (cmb σ μ) s H locs → lv_has ls 4 [(0, .ref (Z.1 + 1)), (1, .int x1)] → fReader_readExpression_b N rec x1 σ = some σ' → W p l e R s m args below meth c H locs 0 0 (MQ below (Qr Z none True (cmb σ' μ)) args s 0 0 (fun q => Z.1 ≤ q)) (F0 m 0 ls []) := by
  have hx := hc.hx
  have hb := hc.hb
  intro x1 σ H locs ls hw hl hf
  unfold fReader_readExpression_b at hf
  refine lv_aload_n hx hb (dq tk_Reader_readExpression 0 rfl) rfl (lv_at hl 0 rfl) ?_
  refine G_Reader_token hc hw wd_50 (dq tk_Reader_readExpression 1 rfl) ?_
  refine lv_iconst (v := 2) hx hb (dq tk_Reader_readExpression 2 rfl) (by decide) ?_
  refine lv_icmp_eq (tgt := 25) hx hb (dq tk_Reader_readExpression 3 rfl) (by decide) (fun c1 => ?_) (fun c1 => ?_)
  · replace hf := if_t hf c1
    exact w_Reader_readExpression_25 hc hr hR hrec hw (lv_sub hl [0, 1] rfl) hf
  · replace hf := if_f hf c1
    refine lv_aload_n hx hb (dq tk_Reader_readExpression 4 rfl) rfl (lv_at hl 0 rfl) ?_
    refine G_Reader_token hc hw wd_50 (dq tk_Reader_readExpression 5 rfl) ?_
    refine lv_iconst (v := 1) hx hb (dq tk_Reader_readExpression 6 rfl) (by decide) ?_
    refine lv_icmp_eq (tgt := 25) hx hb (dq tk_Reader_readExpression 7 rfl) (by decide) (fun c2 => ?_) (fun c2 => ?_)
    · replace hf := if_t hf c2
      exact w_Reader_readExpression_25 hc hr hR hrec hw (lv_sub hl [0, 1] rfl) hf
    · replace hf := if_f hf c2
      refine lv_aload_n hx hb (dq tk_Reader_readExpression 8 rfl) rfl (lv_at hl 0 rfl) ?_
      refine G_Reader_token hc hw wd_50 (dq tk_Reader_readExpression 9 rfl) ?_
      refine lv_bipush (v := 40) hx hb (dq tk_Reader_readExpression 10 rfl) (by decide) ?_
      refine lv_icmp_ne (tgt := 29) hx hb (dq tk_Reader_readExpression 11 rfl) (by decide) (fun c3 => ?_) (fun c3 => ?_)
      · replace hf := if_f hf c3
        refine lv_iconst (v := 0) hx hb (dq tk_Reader_readExpression 14 rfl) (by decide) ?_
        exact w_Reader_readExpression_30 hc hr hR hrec hw (lv_sub hl [0, 1] rfl) hf
      · replace hf := if_t hf c3
        exact w_Reader_readExpression_25 hc hr hR hrec hw (lv_sub hl [0, 1] rfl) hf
theorem c_Reader_readExpression {N : Nat} {dd : Nat} {rec : Int32 → St → Option St}  {x1 : Int32} {σ' : St} {σ : St} (hrec : ∀ {x1 : Int32} {σ σ' : St}, rec x1 σ = some σ' → Ct l Z y_Reader_readExpression prog_10_method_13_code 4 none (rmo (20 + 7 * dd)) [.ref (Z.1 + 1), .int x1] (cmb σ μ) none True (cmb σ' μ)) (hf : fReader_readExpression_b N rec x1 σ = some σ') : Ct l Z y_Reader_readExpression prog_10_method_13_code 4 none (rmo ((27 + 7 * dd))) [.ref (Z.1 + 1), .int x1] (cmb σ μ) none True (cmb σ' μ) := by
  refine x_met (by decide) (Nat.le_of_ble_eq_true rfl) (fun p e s m args below meth c ls hc hr hw hl => ?_)
  exact w_Reader_readExpression hc hr RO.self hrec hw hl hf
theorem c_Reader_readExpression_d {N : Nat} : ∀ (d : Nat) {x1 : Int32} {σ σ' : St}, fReader_readExpression N d x1 σ = some σ' → Ct l Z y_Reader_readExpression prog_10_method_13_code 4 none (rmo (20 + 7 * d)) [.ref (Z.1 + 1), .int x1] (cmb σ μ) none True (cmb σ' μ) := by
  intro d
  induction d with
  | zero =>
    intro x1 σ σ' hf
    have hf : none = some _ := hf
    cases hf
  | succ d ih =>
    intro x1 σ σ' hf
    have h := c_Reader_readExpression (l := l) (Z := Z) (μ := μ) (dd := d) (rec := fReader_readExpression N d) ih hf
    rw [show 20 + 7 * (d + 1) = (20 + 7) + 7 * d by omega]
    exact h
theorem K_Reader_readExpression {idx : Nat} {N : Nat}  {x1 : Int32} {σ' : St} {σ : St} (hc : Cxz p s m meth c args cc own nL Z) (hw : Wd Z (cmb σ μ) s H locs) (hl : Cond.methodLink own idx y_Reader_readExpression ∈ TB) (hf : fReader_readExpression N 8 x1 σ = some σ') (hR : RO R ((20 + 7 * 8) + 1)) (hcs : cells ≤ R.cells ∧ slots ≤ R.slots) (hls : ls.size = nL) (hst : (rest.map fun v => v.category).sum ≤ 8) (hdg : decode cc pc = .ok (.invokevirtual idx, 3)) (kk : ∀ (H1 : Heap) (locs1 : List Loc), Wd Z (cmb σ' μ) s H1 locs1 → True → W p l e R s m args below meth c H1 locs1 cells slots Q (F0 m (pc + 3) ls rest)) : W p l e R s m args below meth c H locs cells slots Q (F0 m pc ls (.int x1 :: .ref (Z.1 + 1) :: rest)) :=
  x_iv hc hw (c_Reader_readExpression_d 8 hf) yv_Reader_readExpression (Nat.le_of_ble_eq_true rfl) rfl rfl hl (RO.call hR (by decide)) hcs rfl hls hst hdg rfl kk
set_option maxRecDepth 10000 in
theorem w_Reader_expectWord {N : Nat} (hc : Cxz p s m meth c args prog_10_method_23_code "LabourExchange$Reader" 2 Z) (hr : meth.sig.returnType = none) (hR : RO R 10) {σ' : St} : ∀ {x1 : Int32} {σ : St} {H : Heap} {locs : List Loc} {ls : Array Slot}, Wd Z (cmb σ μ) s H locs → lv_has ls 2 [(0, .ref (Z.1 + 1)), (1, .int x1)] → fReader_expectWord N x1 σ = some σ' → W p l e R s m args below meth c H locs 0 0 (MQ below (Qr Z none True (cmb σ' μ)) args s 0 0 (fun q => Z.1 ≤ q)) (F0 m 0 ls []) := by
  have hx := hc.hx
  have hb := hc.hb
  intro x1 σ H locs ls hw hl hf
  unfold fReader_expectWord at hf
  refine lv_aload_n hx hb (dq tk_Reader_expectWord 0 rfl) rfl (lv_at hl 0 rfl) ?_
  refine lv_iload_n hx hb (dq tk_Reader_expectWord 1 rfl) rfl (lv_at hl 1 rfl) ?_
  obtain ⟨r1, h2, hf⟩ := bn1_someZ hf
  refine K_Reader_isWord hc hw wd_1292 h2 (hR.mono (by decide)) ⟨Nat.zero_le _, Nat.zero_le _⟩ hl.1 (Nat.le_of_ble_eq_true rfl) (dq tk_Reader_expectWord 2 rfl) (fun H locs hw _ => ?_)
  refine lv_if_eq (tgt := 15) hx hb (dq tk_Reader_expectWord 3 rfl) (by decide) (fun c1 => ?_) (fun c1 => ?_)
  · replace hf := if_t hf c1
    refine lv_aload_n hx hb (dq tk_Reader_expectWord 7 rfl) rfl (lv_at hl 0 rfl) ?_
    refine lv_iconst (v := 1) hx hb (dq tk_Reader_expectWord 8 rfl) (by decide) ?_
    obtain ⟨σ2, h9, hf⟩ := bn1_someZ hf
    refine K_Reader_fail hc hw wd_1256 h9 (hR.mono (by decide)) ⟨Nat.zero_le _, Nat.zero_le _⟩ hl.1 (Nat.le_of_ble_eq_true rfl) (dq tk_Reader_expectWord 9 rfl) (fun H locs hw _ => ?_)
    cases hf
    exact x_vret hc hw hr (dq tk_Reader_expectWord 10 rfl)
  · replace hf := if_f hf c1
    refine lv_aload_n hx hb (dq tk_Reader_expectWord 4 rfl) rfl (lv_at hl 0 rfl) ?_
    obtain ⟨σ3, h5, hf⟩ := bn1_someZ hf
    refine K_Reader_advance hc hw wd_1183 h5 (hR.mono (by decide)) ⟨Nat.zero_le _, Nat.zero_le _⟩ hl.1 (Nat.le_of_ble_eq_true rfl) (dq tk_Reader_expectWord 5 rfl) (fun H locs hw _ => ?_)
    refine lv_goto (tgt := 20) hx hb (dq tk_Reader_expectWord 6 rfl) (by decide) ?_
    cases hf
    exact x_vret hc hw hr (dq tk_Reader_expectWord 10 rfl)
theorem c_Reader_expectWord {N : Nat}  {x1 : Int32} {σ' : St} {σ : St} (hf : fReader_expectWord N x1 σ = some σ') : Ct l Z y_Reader_expectWord prog_10_method_23_code 2 none (rmo (10)) [.ref (Z.1 + 1), .int x1] (cmb σ μ) none True (cmb σ' μ) := by
  refine x_met (by decide) (Nat.le_of_ble_eq_true rfl) (fun p e s m args below meth c ls hc hr hw hl => ?_)
  exact w_Reader_expectWord hc hr RO.self hw hl hf
theorem K_Reader_expectWord {idx : Nat} {N : Nat}  {x1 : Int32} {σ' : St} {σ : St} (hc : Cxz p s m meth c args cc own nL Z) (hw : Wd Z (cmb σ μ) s H locs) (hl : Cond.methodLink own idx y_Reader_expectWord ∈ TB) (hf : fReader_expectWord N x1 σ = some σ') (hR : RO R ((10) + 1)) (hcs : cells ≤ R.cells ∧ slots ≤ R.slots) (hls : ls.size = nL) (hst : (rest.map fun v => v.category).sum ≤ 8) (hdg : decode cc pc = .ok (.invokevirtual idx, 3)) (kk : ∀ (H1 : Heap) (locs1 : List Loc), Wd Z (cmb σ' μ) s H1 locs1 → True → W p l e R s m args below meth c H1 locs1 cells slots Q (F0 m (pc + 3) ls rest)) : W p l e R s m args below meth c H locs cells slots Q (F0 m pc ls (.int x1 :: .ref (Z.1 + 1) :: rest)) :=
  x_iv hc hw (c_Reader_expectWord hf) yv_Reader_expectWord (Nat.le_of_ble_eq_true rfl) rfl rfl hl (RO.call hR (by decide)) hcs rfl hls hst hdg rfl kk
set_option maxRecDepth 10000 in
theorem w_Act_addLike {N : Nat} {ka : Nat} (hc : Cxz p s m meth c args prog_2_method_6_code "LabourExchange$Act" 3 Z) (hr : meth.sig.returnType = none) (hR : RO R 0) (hka : ka < 17) {σ' : St} : ∀ {x1 : Int32} {x2 : Int32} {σ : St} {H : Heap} {locs : List Loc} {ls : Array Slot}, Wd Z (cmb σ μ) s H locs → lv_has ls 3 [(0, .ref (Z.1 + (90 + 6 * ka))), (1, .int x1), (2, .int x2)] → fAct_addLike N ka x1 x2 σ = some σ' → W p l e R s m args below meth c H locs 0 0 (MQ below (Qr Z none True (cmb σ' μ)) args s 0 0 (fun q => Z.1 ≤ q)) (F0 m 0 ls []) := by
  have hx := hc.hx
  have hb := hc.hb
  intro x1 x2 σ H locs ls hw hl hf
  unfold fAct_addLike at hf
  refine lv_aload_n hx hb (dq tk_Act_addLike 0 rfl) rfl (lv_at hl 0 rfl) ?_
  refine G_Act_likeCount hka hc hw wd_441 (dq tk_Act_addLike 1 rfl) ?_
  refine lv_bipush (v := 24) hx hb (dq tk_Act_addLike 2 rfl) (by decide) ?_
  refine lv_icmp_ge (tgt := 39) hx hb (dq tk_Act_addLike 3 rfl) (by decide) (fun c1 => ?_) (fun c1 => ?_)
  · replace hf := if_t hf c1
    cases hf
    exact x_vret hc hw hr (dq tk_Act_addLike 22 rfl)
  · replace hf := if_f hf c1
    refine lv_aload_n hx hb (dq tk_Act_addLike 4 rfl) rfl (lv_at hl 0 rfl) ?_
    refine G_Act_likes hka hc hw wd_437 (dq tk_Act_addLike 5 rfl) ?_
    refine lv_aload_n hx hb (dq tk_Act_addLike 6 rfl) rfl (lv_at hl 0 rfl) ?_
    refine G_Act_likeCount hka hc hw wd_441 (dq tk_Act_addLike 7 rfl) ?_
    refine lv_iload_n hx hb (dq tk_Act_addLike 8 rfl) rfl (lv_at hl 1 rfl) ?_
    obtain ⟨c2, hf⟩ := chk_some hf
    obtain ⟨σ1, hσ1, hf⟩ := nm_some hf
    refine AS_Act_likes hka hc hw c2 hσ1 (dq tk_Act_addLike 9 rfl) (fun H locs hw => ?_)
    refine lv_aload_n hx hb (dq tk_Act_addLike 10 rfl) rfl (lv_at hl 0 rfl) ?_
    refine G_Act_likeDays hka hc hw wd_439 (dq tk_Act_addLike 11 rfl) ?_
    refine lv_aload_n hx hb (dq tk_Act_addLike 12 rfl) rfl (lv_at hl 0 rfl) ?_
    refine G_Act_likeCount hka hc hw wd_441 (dq tk_Act_addLike 13 rfl) ?_
    refine lv_iload_n hx hb (dq tk_Act_addLike 14 rfl) rfl (lv_at hl 2 rfl) ?_
    obtain ⟨c3, hf⟩ := chk_some hf
    obtain ⟨σ2, hσ2, hf⟩ := nm_some hf
    refine AS_Act_likeDays hka hc hw c3 hσ2 (dq tk_Act_addLike 15 rfl) (fun H locs hw => ?_)
    refine lv_aload_n hx hb (dq tk_Act_addLike 16 rfl) rfl (lv_at hl 0 rfl) ?_
    refine lv_dup hx hb (dq tk_Act_addLike 17 rfl) rfl ?_
    refine G_Act_likeCount hka hc hw wd_441 (dq tk_Act_addLike 18 rfl) ?_
    refine lv_iconst (v := 1) hx hb (dq tk_Act_addLike 19 rfl) (by decide) ?_
    refine lv_iadd hx hb (dq tk_Act_addLike 20 rfl) ?_
    obtain ⟨σ3, hσ3, hf⟩ := nm_some hf
    refine P_Act_likeCount hka hc hw wd_441 hσ3 (dq tk_Act_addLike 21 rfl) (fun H locs hw => ?_)
    cases hf
    exact x_vret hc hw hr (dq tk_Act_addLike 22 rfl)
theorem c_Act_addLike {N : Nat} {ka : Nat}  {x1 : Int32} {x2 : Int32} {σ' : St} {σ : St} (hka : ka < 17) (hf : fAct_addLike N ka x1 x2 σ = some σ') : Ct l Z y_Act_addLike prog_2_method_6_code 3 none (rmo (0)) [.ref (Z.1 + (90 + 6 * ka)), .int x1, .int x2] (cmb σ μ) none True (cmb σ' μ) := by
  refine x_met (by decide) (Nat.le_of_ble_eq_true rfl) (fun p e s m args below meth c ls hc hr hw hl => ?_)
  exact w_Act_addLike hc hr RO.self hka hw hl hf
theorem K_Act_addLike {idx : Nat} {N : Nat} {ka : Nat}  {x1 : Int32} {x2 : Int32} {σ' : St} {σ : St} (hc : Cxz p s m meth c args cc own nL Z) (hw : Wd Z (cmb σ μ) s H locs) (hka : ka < 17) (hl : Cond.methodLink own idx y_Act_addLike ∈ TB) (hf : fAct_addLike N ka x1 x2 σ = some σ') (hR : RO R ((0) + 1)) (hcs : cells ≤ R.cells ∧ slots ≤ R.slots) (hls : ls.size = nL) (hst : (rest.map fun v => v.category).sum ≤ 8) (hdg : decode cc pc = .ok (.invokevirtual idx, 3)) (kk : ∀ (H1 : Heap) (locs1 : List Loc), Wd Z (cmb σ' μ) s H1 locs1 → True → W p l e R s m args below meth c H1 locs1 cells slots Q (F0 m (pc + 3) ls rest)) : W p l e R s m args below meth c H locs cells slots Q (F0 m pc ls (.int x2 :: .int x1 :: .ref (Z.1 + (90 + 6 * ka)) :: rest)) :=
  x_iv hc hw (c_Act_addLike hka hf) yv_Act_addLike (wd_act (r := 0) hka (by decide) (by omega)).1 (wd_act (r := 0) hka (by decide) (by omega)).2 rfl hl (RO.call hR (by decide)) hcs rfl hls hst hdg rfl kk
set_option maxRecDepth 10000 in
theorem w_Reader_readLike {N : Nat} (hc : Cxz p s m meth c args prog_10_method_11_code "LabourExchange$Reader" 3 Z) (hr : meth.sig.returnType = none) (hR : RO R 77) {σ' : St} : ∀ {σ : St} {H : Heap} {locs : List Loc} {ls : Array Slot}, Wd Z (cmb σ μ) s H locs → lv_has ls 3 [(0, .ref (Z.1 + 1))] → fReader_readLike N σ = some σ' → W p l e R s m args below meth c H locs 0 0 (MQ below (Qr Z none True (cmb σ' μ)) args s 0 0 (fun q => Z.1 ≤ q)) (F0 m 0 ls []) := by
  have hx := hc.hx
  have hb := hc.hb
  intro σ H locs ls hw hl hf
  unfold fReader_readLike at hf
  refine lv_aload_n hx hb (dq tk_Reader_readLike 0 rfl) rfl (lv_at hl 0 rfl) ?_
  obtain ⟨c1, hf⟩ := chk_some hf
  refine G_Reader_act hc hw wd_54 c1 (dq tk_Reader_readLike 1 rfl) ?_
  refine G_Act_length (inb_lt c1) hc hw wd_417 (dq tk_Reader_readLike 2 rfl) ?_
  obtain ⟨y1, hy1, hf⟩ := nm_some hf
  refine tst (congrArg Value.int hy1) ?_
  refine lv_istore_n (lv' := [(1, .int y1), (0, .ref (Z.1 + 1))]) hx hb (dq tk_Reader_readLike 3 rfl) rfl hl (by decide) rfl (fun ls hl => ?_)
  refine lv_aload_n hx hb (dq tk_Reader_readLike 4 rfl) rfl (lv_at hl 1 rfl) ?_
  refine lv_iconst (v := 1) hx hb (dq tk_Reader_readLike 5 rfl) (by decide) ?_
  obtain ⟨σ2, h6, hf⟩ := bn1_someZ hf
  refine K_Reader_readExpression hc hw wd_1280 h6 (hR.mono (by omega)) ⟨Nat.zero_le _, Nat.zero_le _⟩ hl.1 (Nat.le_of_ble_eq_true rfl) (dq tk_Reader_readLike 6 rfl) (fun H locs hw _ => ?_)
  refine lv_aload_n hx hb (dq tk_Reader_readLike 7 rfl) rfl (lv_at hl 1 rfl) ?_
  obtain ⟨c2, hf⟩ := chk_some hf
  refine G_Reader_act hc hw wd_54 c2 (dq tk_Reader_readLike 8 rfl) ?_
  refine lv_iconst (v := (-1)) hx hb (dq tk_Reader_readLike 9 rfl) (by decide) ?_
  obtain ⟨σ3, h10, hf⟩ := bn1_someZ hf
  refine K_Act_emit hc hw (inb_lt c2) wd_1320 h10 (hR.mono (by decide)) ⟨Nat.zero_le _, Nat.zero_le _⟩ hl.1 (Nat.le_of_ble_eq_true rfl) (dq tk_Reader_readLike 10 rfl) (fun H locs hw _ => ?_)
  refine lv_aload_n hx hb (dq tk_Reader_readLike 11 rfl) rfl (lv_at hl 1 rfl) ?_
  refine lv_iconst (v := 4) hx hb (dq tk_Reader_readLike 12 rfl) (by decide) ?_
  obtain ⟨σ4, h13, hf⟩ := bn1_someZ hf
  refine K_Reader_expectWord hc hw wd_1324 h13 (hR.mono (by decide)) ⟨Nat.zero_le _, Nat.zero_le _⟩ hl.1 (Nat.le_of_ble_eq_true rfl) (dq tk_Reader_readLike 13 rfl) (fun H locs hw _ => ?_)
  refine lv_aload_n hx hb (dq tk_Reader_readLike 14 rfl) rfl (lv_at hl 1 rfl) ?_
  refine G_Reader_fault hc hw wd_46 (dq tk_Reader_readLike 15 rfl) ?_
  refine lv_if_ne (tgt := 47) hx hb (dq tk_Reader_readLike 16 rfl) (by decide) (fun c3 => ?_) (fun c3 => ?_)
  · replace hf := if_f hf c3
    cases hf
    exact x_vret hc hw hr (dq tk_Reader_readLike 25 rfl)
  · replace hf := if_t hf c3
    refine lv_aload_n hx hb (dq tk_Reader_readLike 17 rfl) rfl (lv_at hl 1 rfl) ?_
    obtain ⟨r5, σ6, h18, hf⟩ := bnd_some hf
    refine K_Reader_readNumber hc hw wd_1272 h18 (hR.mono (by decide)) ⟨Nat.zero_le _, Nat.zero_le _⟩ hl.1 (Nat.le_of_ble_eq_true rfl) (dq tk_Reader_readLike 18 rfl) (fun H locs hw _ => ?_)
    refine lv_istore_n (lv' := [(2, .int r5), (1, .int y1), (0, .ref (Z.1 + 1))]) hx hb (dq tk_Reader_readLike 19 rfl) rfl hl (by decide) rfl (fun ls hl => ?_)
    refine lv_aload_n hx hb (dq tk_Reader_readLike 20 rfl) rfl (lv_at hl 2 rfl) ?_
    obtain ⟨c4, hf⟩ := chk_some hf
    refine G_Reader_act hc hw wd_54 c4 (dq tk_Reader_readLike 21 rfl) ?_
    refine lv_iload_n hx hb (dq tk_Reader_readLike 22 rfl) rfl (lv_at hl 1 rfl) ?_
    refine lv_iload_n hx hb (dq tk_Reader_readLike 23 rfl) rfl (lv_at hl 0 rfl) ?_
    obtain ⟨σ7, h24, hf⟩ := bn1_someZ hf
    refine K_Act_addLike hc hw (inb_lt c4) wd_1328 h24 (hR.mono (by decide)) ⟨Nat.zero_le _, Nat.zero_le _⟩ hl.1 (Nat.le_of_ble_eq_true rfl) (dq tk_Reader_readLike 24 rfl) (fun H locs hw _ => ?_)
    cases hf
    exact x_vret hc hw hr (dq tk_Reader_readLike 25 rfl)
theorem c_Reader_readLike {N : Nat}  {σ' : St} {σ : St} (hf : fReader_readLike N σ = some σ') : Ct l Z y_Reader_readLike prog_10_method_11_code 3 none (rmo (77)) [.ref (Z.1 + 1)] (cmb σ μ) none True (cmb σ' μ) := by
  refine x_met (by decide) (Nat.le_of_ble_eq_true rfl) (fun p e s m args below meth c ls hc hr hw hl => ?_)
  exact w_Reader_readLike hc hr RO.self hw hl hf
theorem K_Reader_readLike {idx : Nat} {N : Nat}  {σ' : St} {σ : St} (hc : Cxz p s m meth c args cc own nL Z) (hw : Wd Z (cmb σ μ) s H locs) (hl : Cond.methodLink own idx y_Reader_readLike ∈ TB) (hf : fReader_readLike N σ = some σ') (hR : RO R ((77) + 1)) (hcs : cells ≤ R.cells ∧ slots ≤ R.slots) (hls : ls.size = nL) (hst : (rest.map fun v => v.category).sum ≤ 8) (hdg : decode cc pc = .ok (.invokevirtual idx, 3)) (kk : ∀ (H1 : Heap) (locs1 : List Loc), Wd Z (cmb σ' μ) s H1 locs1 → True → W p l e R s m args below meth c H1 locs1 cells slots Q (F0 m (pc + 3) ls rest)) : W p l e R s m args below meth c H locs cells slots Q (F0 m pc ls (.ref (Z.1 + 1) :: rest)) :=
  x_iv hc hw (c_Reader_readLike hf) yv_Reader_readLike (Nat.le_of_ble_eq_true rfl) rfl rfl hl (RO.call hR (by decide)) hcs rfl hls hst hdg rfl kk
set_option maxRecDepth 10000 in
theorem w_Act_addSuit {N : Nat} {ka : Nat} (hc : Cxz p s m meth c args prog_2_method_5_code "LabourExchange$Act" 2 Z) (hr : meth.sig.returnType = none) (hR : RO R 0) (hka : ka < 17) {σ' : St} : ∀ {x1 : Int32} {σ : St} {H : Heap} {locs : List Loc} {ls : Array Slot}, Wd Z (cmb σ μ) s H locs → lv_has ls 2 [(0, .ref (Z.1 + (90 + 6 * ka))), (1, .int x1)] → fAct_addSuit N ka x1 σ = some σ' → W p l e R s m args below meth c H locs 0 0 (MQ below (Qr Z none True (cmb σ' μ)) args s 0 0 (fun q => Z.1 ≤ q)) (F0 m 0 ls []) := by
  have hx := hc.hx
  have hb := hc.hb
  intro x1 σ H locs ls hw hl hf
  unfold fAct_addSuit at hf
  refine lv_aload_n hx hb (dq tk_Act_addSuit 0 rfl) rfl (lv_at hl 0 rfl) ?_
  refine G_Act_suitCount hka hc hw wd_435 (dq tk_Act_addSuit 1 rfl) ?_
  refine lv_bipush (v := 24) hx hb (dq tk_Act_addSuit 2 rfl) (by decide) ?_
  refine lv_icmp_ge (tgt := 29) hx hb (dq tk_Act_addSuit 3 rfl) (by decide) (fun c1 => ?_) (fun c1 => ?_)
  · replace hf := if_t hf c1
    cases hf
    exact x_vret hc hw hr (dq tk_Act_addSuit 16 rfl)
  · replace hf := if_f hf c1
    refine lv_aload_n hx hb (dq tk_Act_addSuit 4 rfl) rfl (lv_at hl 0 rfl) ?_
    refine G_Act_suits hka hc hw wd_433 (dq tk_Act_addSuit 5 rfl) ?_
    refine lv_aload_n hx hb (dq tk_Act_addSuit 6 rfl) rfl (lv_at hl 0 rfl) ?_
    refine G_Act_suitCount hka hc hw wd_435 (dq tk_Act_addSuit 7 rfl) ?_
    refine lv_iload_n hx hb (dq tk_Act_addSuit 8 rfl) rfl (lv_at hl 1 rfl) ?_
    obtain ⟨c2, hf⟩ := chk_some hf
    obtain ⟨σ1, hσ1, hf⟩ := nm_some hf
    refine AS_Act_suits hka hc hw c2 hσ1 (dq tk_Act_addSuit 9 rfl) (fun H locs hw => ?_)
    refine lv_aload_n hx hb (dq tk_Act_addSuit 10 rfl) rfl (lv_at hl 0 rfl) ?_
    refine lv_dup hx hb (dq tk_Act_addSuit 11 rfl) rfl ?_
    refine G_Act_suitCount hka hc hw wd_435 (dq tk_Act_addSuit 12 rfl) ?_
    refine lv_iconst (v := 1) hx hb (dq tk_Act_addSuit 13 rfl) (by decide) ?_
    refine lv_iadd hx hb (dq tk_Act_addSuit 14 rfl) ?_
    obtain ⟨σ2, hσ2, hf⟩ := nm_some hf
    refine P_Act_suitCount hka hc hw wd_435 hσ2 (dq tk_Act_addSuit 15 rfl) (fun H locs hw => ?_)
    cases hf
    exact x_vret hc hw hr (dq tk_Act_addSuit 16 rfl)
theorem c_Act_addSuit {N : Nat} {ka : Nat}  {x1 : Int32} {σ' : St} {σ : St} (hka : ka < 17) (hf : fAct_addSuit N ka x1 σ = some σ') : Ct l Z y_Act_addSuit prog_2_method_5_code 2 none (rmo (0)) [.ref (Z.1 + (90 + 6 * ka)), .int x1] (cmb σ μ) none True (cmb σ' μ) := by
  refine x_met (by decide) (Nat.le_of_ble_eq_true rfl) (fun p e s m args below meth c ls hc hr hw hl => ?_)
  exact w_Act_addSuit hc hr RO.self hka hw hl hf
theorem K_Act_addSuit {idx : Nat} {N : Nat} {ka : Nat}  {x1 : Int32} {σ' : St} {σ : St} (hc : Cxz p s m meth c args cc own nL Z) (hw : Wd Z (cmb σ μ) s H locs) (hka : ka < 17) (hl : Cond.methodLink own idx y_Act_addSuit ∈ TB) (hf : fAct_addSuit N ka x1 σ = some σ') (hR : RO R ((0) + 1)) (hcs : cells ≤ R.cells ∧ slots ≤ R.slots) (hls : ls.size = nL) (hst : (rest.map fun v => v.category).sum ≤ 8) (hdg : decode cc pc = .ok (.invokevirtual idx, 3)) (kk : ∀ (H1 : Heap) (locs1 : List Loc), Wd Z (cmb σ' μ) s H1 locs1 → True → W p l e R s m args below meth c H1 locs1 cells slots Q (F0 m (pc + 3) ls rest)) : W p l e R s m args below meth c H locs cells slots Q (F0 m pc ls (.int x1 :: .ref (Z.1 + (90 + 6 * ka)) :: rest)) :=
  x_iv hc hw (c_Act_addSuit hka hf) yv_Act_addSuit (wd_act (r := 0) hka (by decide) (by omega)).1 (wd_act (r := 0) hka (by decide) (by omega)).2 rfl hl (RO.call hR (by decide)) hcs rfl hls hst hdg rfl kk
set_option maxRecDepth 10000 in
theorem w_Reader_readWorth_40 {N : Nat} (hc : Cxz p s m meth c args prog_10_method_12_code "LabourExchange$Reader" 3 Z) (hr : meth.sig.returnType = none) (hR : RO R 77) {σ' : St} : ∀ {x1 : Int32} {x2 : Int32} {σ : St} {H : Heap} {locs : List Loc} {ls : Array Slot}, Wd Z (cmb σ μ) s H locs → lv_has ls 3 [(0, .ref (Z.1 + 1)), (1, .int x1), (2, .int x2)] → fReader_readWorth_40 N x1 x2 σ = some σ' → W p l e R s m args below meth c H locs 0 0 (MQ below (Qr Z none True (cmb σ' μ)) args s 0 0 (fun q => Z.1 ≤ q)) (F0 m 40 ls []) := by
  have hx := hc.hx
  have hb := hc.hb
  intro x1 x2 σ H locs ls hw hl hf
  unfold fReader_readWorth_40 at hf
  refine lv_aload_n hx hb (dq tk_Reader_readWorth 20 rfl) rfl (lv_at hl 0 rfl) ?_
  obtain ⟨c1, hf⟩ := chk_some hf
  refine G_Reader_act hc hw wd_54 c1 (dq tk_Reader_readWorth 21 rfl) ?_
  refine lv_iconst (v := (-1)) hx hb (dq tk_Reader_readWorth 22 rfl) (by decide) ?_
  obtain ⟨σ1, h23, hf⟩ := bn1_someZ hf
  refine K_Act_emit hc hw (inb_lt c1) wd_1320 h23 (hR.mono (by decide)) ⟨Nat.zero_le _, Nat.zero_le _⟩ hl.1 (Nat.le_of_ble_eq_true rfl) (dq tk_Reader_readWorth 23 rfl) (fun H locs hw _ => ?_)
  refine lv_iload_n hx hb (dq tk_Reader_readWorth 24 rfl) rfl (lv_at hl 1 rfl) ?_
  by_cases c6_0 : x1 = 2
  · replace hf := if_t hf c6_0
    refine lv_tableIn (tgt := 76) hx hb (dq tk_Reader_readWorth 25 rfl) (by rw [c6_0]; decide) (by rw [c6_0]; decide) (by rw [c6_0]; first | done | rfl) (by decide) ?_
    refine lv_aload_n hx hb (dq tk_Reader_readWorth 26 rfl) rfl (lv_at hl 0 rfl) ?_
    obtain ⟨c2, hf⟩ := chk_some hf
    refine G_Reader_act hc hw wd_54 c2 (dq tk_Reader_readWorth 27 rfl) ?_
    refine lv_iload_n hx hb (dq tk_Reader_readWorth 28 rfl) rfl (lv_at hl 2 rfl) ?_
    obtain ⟨σ2, hσ2, hf⟩ := nm_some hf
    refine P_Act_pay (inb_lt c2) hc hw wd_426 hσ2 (dq tk_Reader_readWorth 29 rfl) (fun H locs hw => ?_)
    refine lv_goto (tgt := 117) hx hb (dq tk_Reader_readWorth 30 rfl) (by decide) ?_
    cases hf
    exact x_vret hc hw hr (dq tk_Reader_readWorth 45 rfl)
  replace hf := if_f hf c6_0
  by_cases c6_1 : x1 = 3
  · replace hf := if_t hf c6_1
    refine lv_tableIn (tgt := 87) hx hb (dq tk_Reader_readWorth 25 rfl) (by rw [c6_1]; decide) (by rw [c6_1]; decide) (by rw [c6_1]; first | done | rfl) (by decide) ?_
    refine lv_aload_n hx hb (dq tk_Reader_readWorth 31 rfl) rfl (lv_at hl 0 rfl) ?_
    obtain ⟨c3, hf⟩ := chk_some hf
    refine G_Reader_act hc hw wd_54 c3 (dq tk_Reader_readWorth 32 rfl) ?_
    refine lv_iload_n hx hb (dq tk_Reader_readWorth 33 rfl) rfl (lv_at hl 2 rfl) ?_
    obtain ⟨σ3, hσ3, hf⟩ := nm_some hf
    refine P_Act_needy (inb_lt c3) hc hw wd_429 hσ3 (dq tk_Reader_readWorth 34 rfl) (fun H locs hw => ?_)
    refine lv_goto (tgt := 117) hx hb (dq tk_Reader_readWorth 35 rfl) (by decide) ?_
    cases hf
    exact x_vret hc hw hr (dq tk_Reader_readWorth 45 rfl)
  replace hf := if_f hf c6_1
  by_cases c6_2 : x1 = 4
  · replace hf := if_t hf c6_2
    refine lv_tableIn (tgt := 98) hx hb (dq tk_Reader_readWorth 25 rfl) (by rw [c6_2]; decide) (by rw [c6_2]; decide) (by rw [c6_2]; first | done | rfl) (by decide) ?_
    refine lv_aload_n hx hb (dq tk_Reader_readWorth 36 rfl) rfl (lv_at hl 0 rfl) ?_
    obtain ⟨c4, hf⟩ := chk_some hf
    refine G_Reader_act hc hw wd_54 c4 (dq tk_Reader_readWorth 37 rfl) ?_
    refine lv_iload_n hx hb (dq tk_Reader_readWorth 38 rfl) rfl (lv_at hl 2 rfl) ?_
    obtain ⟨σ4, hσ4, hf⟩ := nm_some hf
    refine P_Act_bar (inb_lt c4) hc hw wd_432 hσ4 (dq tk_Reader_readWorth 39 rfl) (fun H locs hw => ?_)
    refine lv_goto (tgt := 117) hx hb (dq tk_Reader_readWorth 40 rfl) (by decide) ?_
    cases hf
    exact x_vret hc hw hr (dq tk_Reader_readWorth 45 rfl)
  replace hf := if_f hf c6_2
  refine lv_tableOut (tgt := 109) hx hb (dq tk_Reader_readWorth 25 rfl) (sw_out (fun k h1 h2 => by
    have h3 : k = 2 ∨ k = 3 ∨ k = 4 := by omega
    rcases h3 with rfl | rfl | rfl
    · exact c6_0
    · exact c6_1
    · exact c6_2
    )) (by decide) ?_
  refine lv_aload_n hx hb (dq tk_Reader_readWorth 41 rfl) rfl (lv_at hl 0 rfl) ?_
  obtain ⟨c5, hf⟩ := chk_some hf
  refine G_Reader_act hc hw wd_54 c5 (dq tk_Reader_readWorth 42 rfl) ?_
  refine lv_iload_n hx hb (dq tk_Reader_readWorth 43 rfl) rfl (lv_at hl 2 rfl) ?_
  obtain ⟨σ5, h44, hf⟩ := bn1_someZ hf
  refine K_Act_addSuit hc hw (inb_lt c5) wd_1336 h44 (hR.mono (by decide)) ⟨Nat.zero_le _, Nat.zero_le _⟩ hl.1 (Nat.le_of_ble_eq_true rfl) (dq tk_Reader_readWorth 44 rfl) (fun H locs hw _ => ?_)
  cases hf
  exact x_vret hc hw hr (dq tk_Reader_readWorth 45 rfl)
set_option maxRecDepth 10000 in
theorem w_Reader_readWorth {N : Nat} (hc : Cxz p s m meth c args prog_10_method_12_code "LabourExchange$Reader" 3 Z) (hr : meth.sig.returnType = none) (hR : RO R 77) {σ' : St} : ∀ {x1 : Int32} {σ : St} {H : Heap} {locs : List Loc} {ls : Array Slot}, Wd Z (cmb σ μ) s H locs → lv_has ls 3 [(0, .ref (Z.1 + 1)), (1, .int x1)] → fReader_readWorth N x1 σ = some σ' → W p l e R s m args below meth c H locs 0 0 (MQ below (Qr Z none True (cmb σ' μ)) args s 0 0 (fun q => Z.1 ≤ q)) (F0 m 0 ls []) := by
  have hx := hc.hx
  have hb := hc.hb
  intro x1 σ H locs ls hw hl hf
  unfold fReader_readWorth at hf
  refine lv_aload_n hx hb (dq tk_Reader_readWorth 0 rfl) rfl (lv_at hl 0 rfl) ?_
  obtain ⟨c1, hf⟩ := chk_some hf
  refine G_Reader_act hc hw wd_54 c1 (dq tk_Reader_readWorth 1 rfl) ?_
  refine G_Act_length (inb_lt c1) hc hw wd_417 (dq tk_Reader_readWorth 2 rfl) ?_
  obtain ⟨y1, hy1, hf⟩ := nm_some hf
  refine tst (congrArg Value.int hy1) ?_
  refine lv_istore_n (lv' := [(2, .int y1), (0, .ref (Z.1 + 1)), (1, .int x1)]) hx hb (dq tk_Reader_readWorth 3 rfl) rfl hl (by decide) rfl (fun ls hl => ?_)
  refine lv_aload_n hx hb (dq tk_Reader_readWorth 4 rfl) rfl (lv_at hl 1 rfl) ?_
  refine lv_iconst (v := 1) hx hb (dq tk_Reader_readWorth 5 rfl) (by decide) ?_
  obtain ⟨σ2, h6, hf⟩ := bn1_someZ hf
  refine K_Reader_readExpression hc hw wd_1280 h6 (hR.mono (by omega)) ⟨Nat.zero_le _, Nat.zero_le _⟩ hl.1 (Nat.le_of_ble_eq_true rfl) (dq tk_Reader_readWorth 6 rfl) (fun H locs hw _ => ?_)
  refine lv_aload_n hx hb (dq tk_Reader_readWorth 7 rfl) rfl (lv_at hl 1 rfl) ?_
  refine lv_bipush (v := 7) hx hb (dq tk_Reader_readWorth 8 rfl) (by decide) ?_
  obtain ⟨r3, h9, hf⟩ := bn1_someZ hf
  refine K_Reader_isWord hc hw wd_1292 h9 (hR.mono (by decide)) ⟨Nat.zero_le _, Nat.zero_le _⟩ hl.1 (Nat.le_of_ble_eq_true rfl) (dq tk_Reader_readWorth 9 rfl) (fun H locs hw _ => ?_)
  refine lv_if_eq (tgt := 40) hx hb (dq tk_Reader_readWorth 10 rfl) (by decide) (fun c2 => ?_) (fun c2 => ?_)
  · replace hf := if_t hf c2
    exact w_Reader_readWorth_40 hc hr hR hw (lv_sub hl [1, 2, 0] rfl) hf
  · replace hf := if_f hf c2
    refine lv_aload_n hx hb (dq tk_Reader_readWorth 11 rfl) rfl (lv_at hl 1 rfl) ?_
    obtain ⟨σ4, h12, hf⟩ := bn1_someZ hf
    refine K_Reader_advance hc hw wd_1183 h12 (hR.mono (by decide)) ⟨Nat.zero_le _, Nat.zero_le _⟩ hl.1 (Nat.le_of_ble_eq_true rfl) (dq tk_Reader_readWorth 12 rfl) (fun H locs hw _ => ?_)
    refine lv_aload_n hx hb (dq tk_Reader_readWorth 13 rfl) rfl (lv_at hl 1 rfl) ?_
    refine lv_iconst (v := 1) hx hb (dq tk_Reader_readWorth 14 rfl) (by decide) ?_
    obtain ⟨σ5, h15, hf⟩ := bn1_someZ hf
    refine K_Reader_readExpression hc hw wd_1280 h15 (hR.mono (by omega)) ⟨Nat.zero_le _, Nat.zero_le _⟩ hl.1 (Nat.le_of_ble_eq_true rfl) (dq tk_Reader_readWorth 15 rfl) (fun H locs hw _ => ?_)
    refine lv_aload_n hx hb (dq tk_Reader_readWorth 16 rfl) rfl (lv_at hl 1 rfl) ?_
    obtain ⟨c3, hf⟩ := chk_some hf
    refine G_Reader_act hc hw wd_54 c3 (dq tk_Reader_readWorth 17 rfl) ?_
    refine lv_bipush (v := (-5)) hx hb (dq tk_Reader_readWorth 18 rfl) (by decide) ?_
    obtain ⟨σ6, h19, hf⟩ := bn1_someZ hf
    refine K_Act_emit hc hw (inb_lt c3) wd_1320 h19 (hR.mono (by decide)) ⟨Nat.zero_le _, Nat.zero_le _⟩ hl.1 (Nat.le_of_ble_eq_true rfl) (dq tk_Reader_readWorth 19 rfl) (fun H locs hw _ => ?_)
    exact w_Reader_readWorth_40 hc hr hR hw (lv_sub hl [1, 2, 0] rfl) hf
theorem c_Reader_readWorth {N : Nat}  {x1 : Int32} {σ' : St} {σ : St} (hf : fReader_readWorth N x1 σ = some σ') : Ct l Z y_Reader_readWorth prog_10_method_12_code 3 none (rmo (77)) [.ref (Z.1 + 1), .int x1] (cmb σ μ) none True (cmb σ' μ) := by
  refine x_met (by decide) (Nat.le_of_ble_eq_true rfl) (fun p e s m args below meth c ls hc hr hw hl => ?_)
  exact w_Reader_readWorth hc hr RO.self hw hl hf
theorem K_Reader_readWorth {idx : Nat} {N : Nat}  {x1 : Int32} {σ' : St} {σ : St} (hc : Cxz p s m meth c args cc own nL Z) (hw : Wd Z (cmb σ μ) s H locs) (hl : Cond.methodLink own idx y_Reader_readWorth ∈ TB) (hf : fReader_readWorth N x1 σ = some σ') (hR : RO R ((77) + 1)) (hcs : cells ≤ R.cells ∧ slots ≤ R.slots) (hls : ls.size = nL) (hst : (rest.map fun v => v.category).sum ≤ 8) (hdg : decode cc pc = .ok (.invokevirtual idx, 3)) (kk : ∀ (H1 : Heap) (locs1 : List Loc), Wd Z (cmb σ' μ) s H1 locs1 → True → W p l e R s m args below meth c H1 locs1 cells slots Q (F0 m (pc + 3) ls rest)) : W p l e R s m args below meth c H locs cells slots Q (F0 m pc ls (.int x1 :: .ref (Z.1 + 1) :: rest)) :=
  x_iv hc hw (c_Reader_readWorth hf) yv_Reader_readWorth (Nat.le_of_ble_eq_true rfl) rfl rfl hl (RO.call hR (by decide)) hcs rfl hls hst hdg rfl kk
set_option maxRecDepth 10000 in
theorem w_Reader_readClause_25 {N : Nat} (hc : Cxz p s m meth c args prog_10_method_6_code "LabourExchange$Reader" 3 Z) (hr : meth.sig.returnType = none) (hR : RO R 78) {σ' : St} : ∀ {σ : St} {H : Heap} {locs : List Loc} {ls : Array Slot}, Wd Z (cmb σ μ) s H locs → lv_has ls 3 [(0, .ref (Z.1 + 1))] → fReader_readClause_25 N σ = some σ' → W p l e R s m args below meth c H locs 0 0 (MQ below (Qr Z none True (cmb σ' μ)) args s 0 0 (fun q => Z.1 ≤ q)) (F0 m 25 ls []) := by
  have hx := hc.hx
  have hb := hc.hb
  intro σ H locs ls hw hl hf
  unfold fReader_readClause_25 at hf
  refine lv_aload_n hx hb (dq tk_Reader_readClause 12 rfl) rfl (lv_at hl 0 rfl) ?_
  refine lv_iconst (v := 1) hx hb (dq tk_Reader_readClause 13 rfl) (by decide) ?_
  obtain ⟨σ1, h14, hf⟩ := bn1_someZ hf
  refine K_Reader_fail hc hw wd_1256 h14 (hR.mono (by decide)) ⟨Nat.zero_le _, Nat.zero_le _⟩ hl.1 (Nat.le_of_ble_eq_true rfl) (dq tk_Reader_readClause 14 rfl) (fun H locs hw _ => ?_)
  cases hf
  exact x_vret hc hw hr (dq tk_Reader_readClause 15 rfl)
set_option maxRecDepth 10000 in
theorem w_Reader_readClause_114 {N : Nat} (hc : Cxz p s m meth c args prog_10_method_6_code "LabourExchange$Reader" 3 Z) (hr : meth.sig.returnType = none) (hR : RO R 78) {σ' : St} : ∀ {σ : St} {H : Heap} {locs : List Loc} {ls : Array Slot}, Wd Z (cmb σ μ) s H locs → lv_has ls 3 [(0, .ref (Z.1 + 1))] → fReader_readClause_114 N σ = some σ' → W p l e R s m args below meth c H locs 0 0 (MQ below (Qr Z none True (cmb σ' μ)) args s 0 0 (fun q => Z.1 ≤ q)) (F0 m 114 ls []) := by
  have hx := hc.hx
  have hb := hc.hb
  intro σ H locs ls hw hl hf
  unfold fReader_readClause_114 at hf
  refine lv_aload_n hx hb (dq tk_Reader_readClause 42 rfl) rfl (lv_at hl 0 rfl) ?_
  refine lv_bipush (v := 59) hx hb (dq tk_Reader_readClause 43 rfl) (by decide) ?_
  obtain ⟨σ1, h44, hf⟩ := bn1_someZ hf
  refine K_Reader_expect hc hw wd_1312 h44 (hR.mono (by decide)) ⟨Nat.zero_le _, Nat.zero_le _⟩ hl.1 (Nat.le_of_ble_eq_true rfl) (dq tk_Reader_readClause 44 rfl) (fun H locs hw _ => ?_)
  cases hf
  exact x_vret hc hw hr (dq tk_Reader_readClause 45 rfl)
set_option maxRecDepth 10000 in
theorem w_Reader_readClause {N : Nat} (hc : Cxz p s m meth c args prog_10_method_6_code "LabourExchange$Reader" 3 Z) (hr : meth.sig.returnType = none) (hR : RO R 78) {σ' : St} : ∀ {x1 : Int32} {σ : St} {H : Heap} {locs : List Loc} {ls : Array Slot}, Wd Z (cmb σ μ) s H locs → lv_has ls 3 [(0, .ref (Z.1 + 1)), (1, .int x1)] → fReader_readClause N x1 σ = some σ' → W p l e R s m args below meth c H locs 0 0 (MQ below (Qr Z none True (cmb σ' μ)) args s 0 0 (fun q => Z.1 ≤ q)) (F0 m 0 ls []) := by
  have hx := hc.hx
  have hb := hc.hb
  intro x1 σ H locs ls hw hl hf
  unfold fReader_readClause at hf
  refine lv_aload_n hx hb (dq tk_Reader_readClause 0 rfl) rfl (lv_at hl 0 rfl) ?_
  refine G_Reader_token hc hw wd_50 (dq tk_Reader_readClause 1 rfl) ?_
  refine lv_iconst (v := 1) hx hb (dq tk_Reader_readClause 2 rfl) (by decide) ?_
  refine lv_icmp_ne (tgt := 25) hx hb (dq tk_Reader_readClause 3 rfl) (by decide) (fun c1 => ?_) (fun c1 => ?_)
  · replace hf := if_f hf c1
    exact w_Reader_readClause_25 hc hr hR hw (lv_sub hl [0] rfl) hf
  · replace hf := if_t hf c1
    refine lv_aload_n hx hb (dq tk_Reader_readClause 4 rfl) rfl (lv_at hl 0 rfl) ?_
    refine G_Reader_keyword hc hw wd_51 (dq tk_Reader_readClause 5 rfl) ?_
    refine lv_iconst (v := (-1)) hx hb (dq tk_Reader_readClause 6 rfl) (by decide) ?_
    refine lv_icmp_eq (tgt := 25) hx hb (dq tk_Reader_readClause 7 rfl) (by decide) (fun c2 => ?_) (fun c2 => ?_)
    · replace hf := if_t hf c2
      exact w_Reader_readClause_25 hc hr hR hw (lv_sub hl [0] rfl) hf
    · replace hf := if_f hf c2
      refine lv_aload_n hx hb (dq tk_Reader_readClause 8 rfl) rfl (lv_at hl 0 rfl) ?_
      refine G_Reader_keyword hc hw wd_51 (dq tk_Reader_readClause 9 rfl) ?_
      refine lv_bipush (v := 6) hx hb (dq tk_Reader_readClause 10 rfl) (by decide) ?_
      refine lv_icmp_le (tgt := 31) hx hb (dq tk_Reader_readClause 11 rfl) (by decide) (fun c3 => ?_) (fun c3 => ?_)
      · replace hf := if_t hf c3
        refine lv_iload_n hx hb (dq tk_Reader_readClause 16 rfl) rfl (lv_at hl 1 rfl) ?_
        refine lv_bipush (v := 24) hx hb (dq tk_Reader_readClause 17 rfl) (by decide) ?_
        refine lv_icmp_lt (tgt := 43) hx hb (dq tk_Reader_readClause 18 rfl) (by decide) (fun c4 => ?_) (fun c4 => ?_)
        · replace hf := if_t hf c4
          refine lv_aload_n hx hb (dq tk_Reader_readClause 23 rfl) rfl (lv_at hl 0 rfl) ?_
          refine G_Reader_keyword hc hw wd_51 (dq tk_Reader_readClause 24 rfl) ?_
          obtain ⟨y1, hy1, hf⟩ := nm_some hf
          refine tst (congrArg Value.int hy1) ?_
          refine lv_istore_n (lv' := [(2, .int y1), (0, .ref (Z.1 + 1)), (1, .int x1)]) hx hb (dq tk_Reader_readClause 25 rfl) rfl hl (by decide) rfl (fun ls hl => ?_)
          refine lv_aload_n hx hb (dq tk_Reader_readClause 26 rfl) rfl (lv_at hl 1 rfl) ?_
          obtain ⟨σ2, h27, hf⟩ := bn1_someZ hf
          refine K_Reader_advance hc hw wd_1183 h27 (hR.mono (by decide)) ⟨Nat.zero_le _, Nat.zero_le _⟩ hl.1 (Nat.le_of_ble_eq_true rfl) (dq tk_Reader_readClause 27 rfl) (fun H locs hw _ => ?_)
          refine lv_iload_n hx hb (dq tk_Reader_readClause 28 rfl) rfl (lv_at hl 0 rfl) ?_
          by_cases c5_0 : y1 = 0
          · replace hf := if_t hf c5_0
            refine lv_lookup (tgt := 88) hx hb (dq tk_Reader_readClause 29 rfl) (by decide) (by rw [c5_0]; first | done | rfl) (by decide) ?_
            refine lv_aload_n hx hb (dq tk_Reader_readClause 30 rfl) rfl (lv_at hl 1 rfl) ?_
            obtain ⟨σ3, h31, hf⟩ := bn1_someZ hf
            refine K_Reader_readInsured hc hw wd_1260 h31 (hR.mono (by decide)) ⟨Nat.zero_le _, Nat.zero_le _⟩ hl.1 (Nat.le_of_ble_eq_true rfl) (dq tk_Reader_readClause 31 rfl) (fun H locs hw _ => ?_)
            refine lv_goto (tgt := 114) hx hb (dq tk_Reader_readClause 32 rfl) (by decide) ?_
            exact w_Reader_readClause_114 hc hr hR hw (lv_sub hl [1] rfl) hf
          replace hf := if_f hf c5_0
          by_cases c5_1 : y1 = 1
          · replace hf := if_t hf c5_1
            refine lv_lookup (tgt := 95) hx hb (dq tk_Reader_readClause 29 rfl) (by decide) (by rw [c5_1]; first | done | rfl) (by decide) ?_
            refine lv_aload_n hx hb (dq tk_Reader_readClause 33 rfl) rfl (lv_at hl 1 rfl) ?_
            obtain ⟨σ4, h34, hf⟩ := bn1_someZ hf
            refine K_Reader_readParam hc hw wd_1268 h34 (hR.mono (by decide)) ⟨Nat.zero_le _, Nat.zero_le _⟩ hl.1 (Nat.le_of_ble_eq_true rfl) (dq tk_Reader_readClause 34 rfl) (fun H locs hw _ => ?_)
            refine lv_goto (tgt := 114) hx hb (dq tk_Reader_readClause 35 rfl) (by decide) ?_
            exact w_Reader_readClause_114 hc hr hR hw (lv_sub hl [1] rfl) hf
          replace hf := if_f hf c5_1
          by_cases c5_2 : y1 = 6
          · replace hf := if_t hf c5_2
            refine lv_lookup (tgt := 102) hx hb (dq tk_Reader_readClause 29 rfl) (by decide) (by rw [c5_2]; first | done | rfl) (by decide) ?_
            refine lv_aload_n hx hb (dq tk_Reader_readClause 36 rfl) rfl (lv_at hl 1 rfl) ?_
            obtain ⟨σ5, h37, hf⟩ := bn1_someZ hf
            refine K_Reader_readLike hc hw wd_1276 h37 (hR.mono (by decide)) ⟨Nat.zero_le _, Nat.zero_le _⟩ hl.1 (Nat.le_of_ble_eq_true rfl) (dq tk_Reader_readClause 37 rfl) (fun H locs hw _ => ?_)
            refine lv_goto (tgt := 114) hx hb (dq tk_Reader_readClause 38 rfl) (by decide) ?_
            exact w_Reader_readClause_114 hc hr hR hw (lv_sub hl [1] rfl) hf
          replace hf := if_f hf c5_2
          refine lv_lookup (off := 56) (tgt := 109) hx hb (dq tk_Reader_readClause 29 rfl) (by decide) (lk_step (lk_n c5_0 (by decide)) (lk_step (lk_n c5_1 (by decide)) (lk_step (lk_n c5_2 (by decide)) (rfl)))) (by decide) ?_
          refine lv_aload_n hx hb (dq tk_Reader_readClause 39 rfl) rfl (lv_at hl 1 rfl) ?_
          refine lv_iload_n hx hb (dq tk_Reader_readClause 40 rfl) rfl (lv_at hl 0 rfl) ?_
          obtain ⟨σ6, h41, hf⟩ := bn1_someZ hf
          refine K_Reader_readWorth hc hw wd_1332 h41 (hR.mono (by decide)) ⟨Nat.zero_le _, Nat.zero_le _⟩ hl.1 (Nat.le_of_ble_eq_true rfl) (dq tk_Reader_readClause 41 rfl) (fun H locs hw _ => ?_)
          exact w_Reader_readClause_114 hc hr hR hw (lv_sub hl [1] rfl) hf
        · replace hf := if_f hf c4
          refine lv_aload_n hx hb (dq tk_Reader_readClause 19 rfl) rfl (lv_at hl 0 rfl) ?_
          refine lv_iconst (v := 2) hx hb (dq tk_Reader_readClause 20 rfl) (by decide) ?_
          obtain ⟨σ7, h21, hf⟩ := bn1_someZ hf
          refine K_Reader_fail hc hw wd_1256 h21 (hR.mono (by decide)) ⟨Nat.zero_le _, Nat.zero_le _⟩ hl.1 (Nat.le_of_ble_eq_true rfl) (dq tk_Reader_readClause 21 rfl) (fun H locs hw _ => ?_)
          cases hf
          exact x_vret hc hw hr (dq tk_Reader_readClause 22 rfl)
      · replace hf := if_f hf c3
        exact w_Reader_readClause_25 hc hr hR hw (lv_sub hl [0] rfl) hf
theorem c_Reader_readClause {N : Nat}  {x1 : Int32} {σ' : St} {σ : St} (hf : fReader_readClause N x1 σ = some σ') : Ct l Z y_Reader_readClause prog_10_method_6_code 3 none (rmo (78)) [.ref (Z.1 + 1), .int x1] (cmb σ μ) none True (cmb σ' μ) := by
  refine x_met (by decide) (Nat.le_of_ble_eq_true rfl) (fun p e s m args below meth c ls hc hr hw hl => ?_)
  exact w_Reader_readClause hc hr RO.self hw hl hf
theorem K_Reader_readClause {idx : Nat} {N : Nat}  {x1 : Int32} {σ' : St} {σ : St} (hc : Cxz p s m meth c args cc own nL Z) (hw : Wd Z (cmb σ μ) s H locs) (hl : Cond.methodLink own idx y_Reader_readClause ∈ TB) (hf : fReader_readClause N x1 σ = some σ') (hR : RO R ((78) + 1)) (hcs : cells ≤ R.cells ∧ slots ≤ R.slots) (hls : ls.size = nL) (hst : (rest.map fun v => v.category).sum ≤ 8) (hdg : decode cc pc = .ok (.invokevirtual idx, 3)) (kk : ∀ (H1 : Heap) (locs1 : List Loc), Wd Z (cmb σ' μ) s H1 locs1 → True → W p l e R s m args below meth c H1 locs1 cells slots Q (F0 m (pc + 3) ls rest)) : W p l e R s m args below meth c H locs cells slots Q (F0 m pc ls (.int x1 :: .ref (Z.1 + 1) :: rest)) :=
  x_iv hc hw (c_Reader_readClause hf) yv_Reader_readClause (Nat.le_of_ble_eq_true rfl) rfl rfl hl (RO.call hR (by decide)) hcs rfl hls hst hdg rfl kk
set_option maxRecDepth 10000 in
theorem w_Reader_read_76 {N : Nat} {k2_0 : Nat} (hc : Cxz p s m meth c args prog_10_method_5_code "LabourExchange$Reader" 4 Z) (hr : meth.sig.returnType = (some .int)) (hR : RO R 79) (hk2_0 : k2_0 < 17) {rv : Int32} {σ' : St} : ∀ {σ : St} {H : Heap} {locs : List Loc} {ls : Array Slot}, Wd Z (cmb σ μ) s H locs → lv_has ls 4 [(0, .ref (Z.1 + 1))] → fReader_read_76 N k2_0 σ = some (rv, σ') → W p l e R s m args below meth c H locs 0 0 (MQ below (Qr Z (some (.int rv)) True (cmb σ' μ)) args s 0 0 (fun q => Z.1 ≤ q)) (F0 m 76 ls []) := by
  have hx := hc.hx
  have hb := hc.hb
  intro σ H locs ls hw hl hf
  unfold fReader_read_76 at hf
  refine lv_aload_n hx hb (dq tk_Reader_read 39 rfl) rfl (lv_at hl 0 rfl) ?_
  obtain ⟨σ1, h40, hf⟩ := bn1_someZ hf
  refine K_Reader_clear hc hw wd_1172 h40 (hR.mono (by decide)) ⟨Nat.zero_le _, Nat.zero_le _⟩ hl.1 (Nat.le_of_ble_eq_true rfl) (dq tk_Reader_read 40 rfl) (fun H locs hw _ => ?_)
  refine lv_aload_n hx hb (dq tk_Reader_read 41 rfl) rfl (lv_at hl 0 rfl) ?_
  refine G_Reader_fault hc hw wd_46 (dq tk_Reader_read 42 rfl) ?_
  cases hf
  exact x_iret hc hw hr (dq tk_Reader_read 43 rfl)
set_option maxRecDepth 10000 in
theorem w_Reader_read_45 {N : Nat} {k2_0 : Nat} (hc : Cxz p s m meth c args prog_10_method_5_code "LabourExchange$Reader" 4 Z) (hr : meth.sig.returnType = (some .int)) (hR : RO R 79) (hk2_0 : k2_0 < 17) {rv : Int32} {σ' : St} (n : Nat) : ∀ {x3 : Int32} {σ : St} {H : Heap} {locs : List Loc} {ls : Array Slot}, Wd Z (cmb σ μ) s H locs → lv_has ls 4 [(0, .ref (Z.1 + 1)), (3, .int x3)] → fReader_read_45 N k2_0 n x3 σ = some (rv, σ') → W p l e R s m args below meth c H locs 0 0 (MQ below (Qr Z (some (.int rv)) True (cmb σ' μ)) args s 0 0 (fun q => Z.1 ≤ q)) (F0 m 45 ls []) := by
  have hx := hc.hx
  have hb := hc.hb
  induction n with
  | zero =>
    intro x3 σ H locs ls hw hl hf
    have hf : none = some _ := hf
    cases hf
  | succ n ih =>
    intro x3 σ H locs ls hw hl hf
    unfold fReader_read_45 at hf
    refine lv_iload_n hx hb (dq tk_Reader_read 25 rfl) rfl (lv_at hl 1 rfl) ?_
    refine lv_bipush (v := 24) hx hb (dq tk_Reader_read 26 rfl) (by decide) ?_
    refine lv_icmp_gt (tgt := 76) hx hb (dq tk_Reader_read 27 rfl) (by decide) (fun c1 => ?_) (fun c1 => ?_)
    · replace hf := if_t hf c1
      exact w_Reader_read_76 hc hr hR hk2_0 hw (lv_sub hl [0] rfl) hf
    · replace hf := if_f hf c1
      refine lv_aload_n hx hb (dq tk_Reader_read 28 rfl) rfl (lv_at hl 0 rfl) ?_
      refine G_Reader_fault hc hw wd_46 (dq tk_Reader_read 29 rfl) ?_
      refine lv_if_ne (tgt := 76) hx hb (dq tk_Reader_read 30 rfl) (by decide) (fun c2 => ?_) (fun c2 => ?_)
      · replace hf := if_f hf c2
        exact w_Reader_read_76 hc hr hR hk2_0 hw (lv_sub hl [0] rfl) hf
      · replace hf := if_t hf c2
        refine lv_aload_n hx hb (dq tk_Reader_read 31 rfl) rfl (lv_at hl 0 rfl) ?_
        refine G_Reader_token hc hw wd_50 (dq tk_Reader_read 32 rfl) ?_
        refine lv_if_eq (tgt := 76) hx hb (dq tk_Reader_read 33 rfl) (by decide) (fun c3 => ?_) (fun c3 => ?_)
        · replace hf := if_t hf c3
          exact w_Reader_read_76 hc hr hR hk2_0 hw (lv_sub hl [0] rfl) hf
        · replace hf := if_f hf c3
          refine lv_aload_n hx hb (dq tk_Reader_read 34 rfl) rfl (lv_at hl 0 rfl) ?_
          refine lv_iload_n hx hb (dq tk_Reader_read 35 rfl) rfl (lv_at hl 1 rfl) ?_
          obtain ⟨σ1, h36, hf⟩ := bn1_someZ hf
          refine K_Reader_readClause hc hw wd_1252 h36 (hR.mono (by decide)) ⟨Nat.zero_le _, Nat.zero_le _⟩ hl.1 (Nat.le_of_ble_eq_true rfl) (dq tk_Reader_read 36 rfl) (fun H locs hw _ => ?_)
          refine lv_iinc (v := (x3 + 1)) (lv' := [(3, .int (x3 + 1)), (0, .ref (Z.1 + 1))]) hx hb (dq tk_Reader_read 37 rfl) hl (k := 1) rfl rfl (by decide) rfl (fun ls hl => ?_)
          refine lv_goto (tgt := 45) hx hb (dq tk_Reader_read 38 rfl) (by decide) ?_
          exact ih hw (lv_sub hl [1, 0] rfl) hf
set_option maxRecDepth 10000 in
theorem w_Reader_read {N : Nat} {k2_0 : Nat} (hc : Cxz p s m meth c args prog_10_method_5_code "LabourExchange$Reader" 4 Z) (hr : meth.sig.returnType = (some .int)) (hR : RO R 79) (hk2_0 : k2_0 < 17) {rv : Int32} {σ' : St} : ∀ {x1 : Int32} {σ : St} {H : Heap} {locs : List Loc} {ls : Array Slot}, Wd Z (cmb σ μ) s H locs → lv_has ls 4 [(0, .ref (Z.1 + 1)), (1, .int x1), (2, .ref (Z.1 + (90 + 6 * k2_0)))] → fReader_read N k2_0 x1 σ = some (rv, σ') → W p l e R s m args below meth c H locs 0 0 (MQ below (Qr Z (some (.int rv)) True (cmb σ' μ)) args s 0 0 (fun q => Z.1 ≤ q)) (F0 m 0 ls []) := by
  have hx := hc.hx
  have hb := hc.hb
  intro x1 σ H locs ls hw hl hf
  unfold fReader_read at hf
  refine lv_aload_n hx hb (dq tk_Reader_read 0 rfl) rfl (lv_at hl 0 rfl) ?_
  refine lv_aload_n hx hb (dq tk_Reader_read 1 rfl) rfl (lv_at hl 2 rfl) ?_
  obtain ⟨σ1, hσ1, hf⟩ := nm_some hf
  refine P_Reader_act hk2_0 hc hw wd_54 hσ1 (dq tk_Reader_read 2 rfl) (fun H locs hw => ?_)
  refine lv_aload_n hx hb (dq tk_Reader_read 3 rfl) rfl (lv_at hl 0 rfl) ?_
  obtain ⟨c1, hf⟩ := chk_some hf
  refine G_Reader_act hc hw wd_54 c1 (dq tk_Reader_read 4 rfl) ?_
  obtain ⟨σ2, h5, hf⟩ := bn1_someZ hf
  refine K_Act_begin hc hw (inb_lt c1) wd_1177 h5 (hR.mono (by decide)) ⟨Nat.zero_le _, Nat.zero_le _⟩ hl.1 (Nat.le_of_ble_eq_true rfl) (dq tk_Reader_read 5 rfl) (fun H locs hw _ => ?_)
  refine lv_aload_n hx hb (dq tk_Reader_read 6 rfl) rfl (lv_at hl 0 rfl) ?_
  refine lv_iload_n hx hb (dq tk_Reader_read 7 rfl) rfl (lv_at hl 1 rfl) ?_
  refine lv_aload_n hx hb (dq tk_Reader_read 8 rfl) rfl (lv_at hl 0 rfl) ?_
  refine G_Reader_size hc hw wd_42 (dq tk_Reader_read 9 rfl) ?_
  obtain ⟨r3, h10, hf⟩ := bn1_someZ hf
  refine K_Math_min_I hc hw wd_1182 h10 (hR.mono (by decide)) ⟨Nat.zero_le _, Nat.zero_le _⟩ hl.1 (Nat.le_of_ble_eq_true rfl) (dq tk_Reader_read 10 rfl) (fun H locs hw _ => ?_)
  obtain ⟨σ4, hσ4, hf⟩ := nm_some hf
  refine P_Reader_length hc hw wd_47 hσ4 (dq tk_Reader_read 11 rfl) (fun H locs hw => ?_)
  refine lv_aload_n hx hb (dq tk_Reader_read 12 rfl) rfl (lv_at hl 0 rfl) ?_
  refine lv_iconst (v := 0) hx hb (dq tk_Reader_read 13 rfl) (by decide) ?_
  obtain ⟨σ5, hσ5, hf⟩ := nm_some hf
  refine P_Reader_at hc hw wd_49 hσ5 (dq tk_Reader_read 14 rfl) (fun H locs hw => ?_)
  refine lv_aload_n hx hb (dq tk_Reader_read 15 rfl) rfl (lv_at hl 0 rfl) ?_
  refine lv_iconst (v := 0) hx hb (dq tk_Reader_read 16 rfl) (by decide) ?_
  obtain ⟨σ6, hσ6, hf⟩ := nm_some hf
  refine P_Reader_fault hc hw wd_46 hσ6 (dq tk_Reader_read 17 rfl) (fun H locs hw => ?_)
  refine lv_aload_n hx hb (dq tk_Reader_read 18 rfl) rfl (lv_at hl 0 rfl) ?_
  refine lv_iconst (v := (-1)) hx hb (dq tk_Reader_read 19 rfl) (by decide) ?_
  obtain ⟨σ7, hσ7, hf⟩ := nm_some hf
  refine P_Reader_place hc hw wd_44 hσ7 (dq tk_Reader_read 20 rfl) (fun H locs hw => ?_)
  refine lv_aload_n hx hb (dq tk_Reader_read 21 rfl) rfl (lv_at hl 0 rfl) ?_
  obtain ⟨σ8, h22, hf⟩ := bn1_someZ hf
  refine K_Reader_advance hc hw wd_1183 h22 (hR.mono (by decide)) ⟨Nat.zero_le _, Nat.zero_le _⟩ hl.1 (Nat.le_of_ble_eq_true rfl) (dq tk_Reader_read 22 rfl) (fun H locs hw _ => ?_)
  refine lv_iconst (v := 0) hx hb (dq tk_Reader_read 23 rfl) (by decide) ?_
  refine lv_istore_n (lv' := [(3, .int 0), (0, .ref (Z.1 + 1)), (1, .int x1), (2, .ref (Z.1 + (90 + 6 * k2_0)))]) hx hb (dq tk_Reader_read 24 rfl) rfl hl (by decide) rfl (fun ls hl => ?_)
  exact w_Reader_read_45 hc hr hR hk2_0 N hw (lv_sub hl [1, 0] rfl) hf
theorem c_Reader_read {N : Nat} {k2_0 : Nat}  {x1 : Int32} {rv : Int32} {σ' : St} {σ : St} (hk2_0 : k2_0 < 17) (hf : fReader_read N k2_0 x1 σ = some (rv, σ')) : Ct l Z y_Reader_read prog_10_method_5_code 4 (some .int) (rmo (79)) [.ref (Z.1 + 1), .int x1, .ref (Z.1 + (90 + 6 * k2_0))] (cmb σ μ) (some (.int rv)) True (cmb σ' μ) := by
  refine x_met (by decide) (Nat.le_of_ble_eq_true rfl) (fun p e s m args below meth c ls hc hr hw hl => ?_)
  exact w_Reader_read hc hr RO.self hk2_0 hw hl hf
theorem K_Reader_read {idx : Nat} {N : Nat} {k2_0 : Nat}  {x1 : Int32} {rv : Int32} {σ' : St} {σ : St} (hc : Cxz p s m meth c args cc own nL Z) (hw : Wd Z (cmb σ μ) s H locs) (hk2_0 : k2_0 < 17) (hl : Cond.methodLink own idx y_Reader_read ∈ TB) (hf : fReader_read N k2_0 x1 σ = some (rv, σ')) (hR : RO R ((79) + 1)) (hcs : cells ≤ R.cells ∧ slots ≤ R.slots) (hls : ls.size = nL) (hst : (rest.map fun v => v.category).sum ≤ 8) (hdg : decode cc pc = .ok (.invokevirtual idx, 3)) (kk : ∀ (H1 : Heap) (locs1 : List Loc), Wd Z (cmb σ' μ) s H1 locs1 → True → W p l e R s m args below meth c H1 locs1 cells slots Q (F0 m (pc + 3) ls (.int rv :: rest))) : W p l e R s m args below meth c H locs cells slots Q (F0 m pc ls (.ref (Z.1 + (90 + 6 * k2_0)) :: .int x1 :: .ref (Z.1 + 1) :: rest)) :=
  x_iv hc hw (c_Reader_read hk2_0 hf) yv_Reader_read (Nat.le_of_ble_eq_true rfl) rfl rfl hl (RO.call hR (by decide)) hcs rfl hls hst hdg rfl kk
set_option maxRecDepth 10000 in
theorem w_Act_reign {N : Nat} {ka : Nat} (hc : Cxz p s m meth c args prog_2_method_3_code "LabourExchange$Act" 4 Z) (hr : meth.sig.returnType = none) (hR : RO R 0) (hka : ka < 17) {σ' : St} : ∀ {x1 : Int32} {x2 : Int32} {x3 : Int32} {σ : St} {H : Heap} {locs : List Loc} {ls : Array Slot}, Wd Z (cmb σ μ) s H locs → lv_has ls 4 [(0, .ref (Z.1 + (90 + 6 * ka))), (1, .int x1), (2, .int x2), (3, .int x3)] → fAct_reign N ka x1 x2 x3 σ = some σ' → W p l e R s m args below meth c H locs 0 0 (MQ below (Qr Z none True (cmb σ' μ)) args s 0 0 (fun q => Z.1 ≤ q)) (F0 m 0 ls []) := by
  have hx := hc.hx
  have hb := hc.hb
  intro x1 x2 x3 σ H locs ls hw hl hf
  unfold fAct_reign at hf
  refine lv_aload_n hx hb (dq tk_Act_reign 0 rfl) rfl (lv_at hl 0 rfl) ?_
  refine lv_iload_n hx hb (dq tk_Act_reign 1 rfl) rfl (lv_at hl 1 rfl) ?_
  obtain ⟨σ1, hσ1, hf⟩ := nm_some hf
  refine P_Act_from hka hc hw wd_443 hσ1 (dq tk_Act_reign 2 rfl) (fun H locs hw => ?_)
  refine lv_aload_n hx hb (dq tk_Act_reign 3 rfl) rfl (lv_at hl 0 rfl) ?_
  refine lv_iload_n hx hb (dq tk_Act_reign 4 rfl) rfl (lv_at hl 2 rfl) ?_
  obtain ⟨σ2, hσ2, hf⟩ := nm_some hf
  refine P_Act_to hka hc hw wd_445 hσ2 (dq tk_Act_reign 5 rfl) (fun H locs hw => ?_)
  refine lv_aload_n hx hb (dq tk_Act_reign 6 rfl) rfl (lv_at hl 0 rfl) ?_
  refine lv_iload_n hx hb (dq tk_Act_reign 7 rfl) rfl (lv_at hl 3 rfl) ?_
  obtain ⟨σ3, hσ3, hf⟩ := nm_some hf
  refine P_Act_told hka hc hw wd_447 hσ3 (dq tk_Act_reign 8 rfl) (fun H locs hw => ?_)
  cases hf
  exact x_vret hc hw hr (dq tk_Act_reign 9 rfl)
theorem c_Act_reign {N : Nat} {ka : Nat}  {x1 : Int32} {x2 : Int32} {x3 : Int32} {σ' : St} {σ : St} (hka : ka < 17) (hf : fAct_reign N ka x1 x2 x3 σ = some σ') : Ct l Z y_Act_reign prog_2_method_3_code 4 none (rmo (0)) [.ref (Z.1 + (90 + 6 * ka)), .int x1, .int x2, .int x3] (cmb σ μ) none True (cmb σ' μ) := by
  refine x_met (by decide) (Nat.le_of_ble_eq_true rfl) (fun p e s m args below meth c ls hc hr hw hl => ?_)
  exact w_Act_reign hc hr RO.self hka hw hl hf
theorem K_Act_reign {idx : Nat} {N : Nat} {ka : Nat}  {x1 : Int32} {x2 : Int32} {x3 : Int32} {σ' : St} {σ : St} (hc : Cxz p s m meth c args cc own nL Z) (hw : Wd Z (cmb σ μ) s H locs) (hka : ka < 17) (hl : Cond.methodLink own idx y_Act_reign ∈ TB) (hf : fAct_reign N ka x1 x2 x3 σ = some σ') (hR : RO R ((0) + 1)) (hcs : cells ≤ R.cells ∧ slots ≤ R.slots) (hls : ls.size = nL) (hst : (rest.map fun v => v.category).sum ≤ 8) (hdg : decode cc pc = .ok (.invokevirtual idx, 3)) (kk : ∀ (H1 : Heap) (locs1 : List Loc), Wd Z (cmb σ' μ) s H1 locs1 → True → W p l e R s m args below meth c H1 locs1 cells slots Q (F0 m (pc + 3) ls rest)) : W p l e R s m args below meth c H locs cells slots Q (F0 m pc ls (.int x3 :: .int x2 :: .int x1 :: .ref (Z.1 + (90 + 6 * ka)) :: rest)) :=
  x_iv hc hw (c_Act_reign hka hf) yv_Act_reign (wd_act (r := 0) hka (by decide) (by omega)).1 (wd_act (r := 0) hka (by decide) (by omega)).2 rfl hl (RO.call hR (by decide)) hcs rfl hls hst hdg rfl kk
set_option maxRecDepth 10000 in
theorem w_Reader_refuse {N : Nat} (hc : Cxz p s m meth c args prog_10_method_4_code "LabourExchange$Reader" 1 Z) (hr : meth.sig.returnType = none) (hR : RO R 1) {σ' : St} : ∀ {σ : St} {H : Heap} {locs : List Loc} {ls : Array Slot}, Wd Z (cmb σ μ) s H locs → lv_has ls 1 [(0, .ref (Z.1 + 1))] → fReader_refuse N σ = some σ' → W p l e R s m args below meth c H locs 0 0 (MQ below (Qr Z none True (cmb σ' μ)) args s 0 0 (fun q => Z.1 ≤ q)) (F0 m 0 ls []) := by
  have hx := hc.hx
  have hb := hc.hb
  intro σ H locs ls hw hl hf
  unfold fReader_refuse at hf
  refine lv_aload_n hx hb (dq tk_Reader_refuse 0 rfl) rfl (lv_at hl 0 rfl) ?_
  refine lv_iconst (v := (-1)) hx hb (dq tk_Reader_refuse 1 rfl) (by decide) ?_
  obtain ⟨σ1, hσ1, hf⟩ := nm_some hf
  refine P_Reader_place hc hw wd_44 hσ1 (dq tk_Reader_refuse 2 rfl) (fun H locs hw => ?_)
  refine lv_aload_n hx hb (dq tk_Reader_refuse 3 rfl) rfl (lv_at hl 0 rfl) ?_
  obtain ⟨σ2, h4, hf⟩ := bn1_someZ hf
  refine K_Reader_clear hc hw wd_1172 h4 (hR.mono (by decide)) ⟨Nat.zero_le _, Nat.zero_le _⟩ hl.1 (Nat.le_of_ble_eq_true rfl) (dq tk_Reader_refuse 4 rfl) (fun H locs hw _ => ?_)
  cases hf
  exact x_vret hc hw hr (dq tk_Reader_refuse 5 rfl)
theorem c_Reader_refuse {N : Nat}  {σ' : St} {σ : St} (hf : fReader_refuse N σ = some σ') : Ct l Z y_Reader_refuse prog_10_method_4_code 1 none (rmo (1)) [.ref (Z.1 + 1)] (cmb σ μ) none True (cmb σ' μ) := by
  refine x_met (by decide) (Nat.le_of_ble_eq_true rfl) (fun p e s m args below meth c ls hc hr hw hl => ?_)
  exact w_Reader_refuse hc hr RO.self hw hl hf
theorem K_Reader_refuse {idx : Nat} {N : Nat}  {σ' : St} {σ : St} (hc : Cxz p s m meth c args cc own nL Z) (hw : Wd Z (cmb σ μ) s H locs) (hl : Cond.methodLink own idx y_Reader_refuse ∈ TB) (hf : fReader_refuse N σ = some σ') (hR : RO R ((1) + 1)) (hcs : cells ≤ R.cells ∧ slots ≤ R.slots) (hls : ls.size = nL) (hst : (rest.map fun v => v.category).sum ≤ 8) (hdg : decode cc pc = .ok (.invokevirtual idx, 3)) (kk : ∀ (H1 : Heap) (locs1 : List Loc), Wd Z (cmb σ' μ) s H1 locs1 → True → W p l e R s m args below meth c H1 locs1 cells slots Q (F0 m (pc + 3) ls rest)) : W p l e R s m args below meth c H locs cells slots Q (F0 m pc ls (.ref (Z.1 + 1) :: rest)) :=
  x_iv hc hw (c_Reader_refuse hf) yv_Reader_refuse (Nat.le_of_ble_eq_true rfl) rfl rfl hl (RO.call hR (by decide)) hcs rfl hls hst hdg rfl kk
set_option maxRecDepth 10000 in
theorem w_Act_join_156 {N : Nat} (hc : Cxz p s m meth c args prog_2_method_8_code "LabourExchange$Act" 5 Z) (hr : meth.sig.returnType = (some .long)) (hR : RO R 0) {rv : Int64} {σ : St} : ∀ {H : Heap} {locs : List Loc} {ls : Array Slot}, Wd Z (cmb σ μ) s H locs → lv_has ls 5 [] → fAct_join_156 N σ = some rv → W p l e R s m args below meth c H locs 0 0 (MQ below (Qr Z (some (.long rv)) True (cmb σ μ)) args s 0 0 (fun q => Z.1 ≤ q)) (F0 m 156 ls []) := by
  have hx := hc.hx
  have hb := hc.hb
  intro H locs ls hw hl hf
  unfold fAct_join_156 at hf
  refine lv_lconst (v := 1) hx hb (dq tk_Act_join 60 rfl) (by decide) ?_
  refine lv_goto (tgt := 161) hx hb (dq tk_Act_join 61 rfl) (by decide) ?_
  cases hf
  exact x_lret hc hw hr (dq tk_Act_join 63 rfl)
set_option maxRecDepth 10000 in
theorem w_Act_join {N : Nat} (hc : Cxz p s m meth c args prog_2_method_8_code "LabourExchange$Act" 5 Z) (hr : meth.sig.returnType = (some .long)) (hR : RO R 0) {rv : Int64} {σ : St} : ∀ {x0 : Int32} {x1 : Int64} {x3 : Int64} {H : Heap} {locs : List Loc} {ls : Array Slot}, Wd Z (cmb σ μ) s H locs → lv_has ls 5 [(0, .int x0), (1, .long x1), (3, .long x3)] → fAct_join N x0 x1 x3 σ = some rv → W p l e R s m args below meth c H locs 0 0 (MQ below (Qr Z (some (.long rv)) True (cmb σ μ)) args s 0 0 (fun q => Z.1 ≤ q)) (F0 m 0 ls []) := by
  have hx := hc.hx
  have hb := hc.hb
  intro x0 x1 x3 H locs ls hw hl hf
  unfold fAct_join at hf
  refine lv_iload_n hx hb (dq tk_Act_join 0 rfl) rfl (lv_at hl 0 rfl) ?_
  by_cases c10_0 : x0 = (-61)
  · replace hf := if_t hf c10_0
    refine lv_lookup (tgt := 114) hx hb (dq tk_Act_join 1 rfl) (by decide) (by rw [c10_0]; first | done | rfl) (by decide) ?_
    refine lv_lload_n hx hb (dq tk_Act_join 32 rfl) rfl (lv_at hl 1 rfl) ?_
    refine lv_lload_n hx hb (dq tk_Act_join 33 rfl) rfl (lv_at hl 2 rfl) ?_
    refine W.lcmp hx hb (dq tk_Act_join 34 rfl) ?_
    refine lv_if_ne (tgt := 124) hx hb (dq tk_Act_join 35 rfl) (by decide) (fun c1 => ?_) (fun c1 => ?_)
    · replace hf := if_f hf c1
      refine lv_lconst (v := 0) hx hb (dq tk_Act_join 38 rfl) (by decide) ?_
      cases hf
      exact x_lret hc hw hr (dq tk_Act_join 39 rfl)
    · replace hf := if_t hf c1
      refine lv_lconst (v := 1) hx hb (dq tk_Act_join 36 rfl) (by decide) ?_
      refine lv_goto (tgt := 125) hx hb (dq tk_Act_join 37 rfl) (by decide) ?_
      cases hf
      exact x_lret hc hw hr (dq tk_Act_join 39 rfl)
  replace hf := if_f hf c10_0
  by_cases c10_1 : x0 = (-60)
  · replace hf := if_t hf c10_1
    refine lv_lookup (tgt := 102) hx hb (dq tk_Act_join 1 rfl) (by decide) (by rw [c10_1]; first | done | rfl) (by decide) ?_
    refine lv_lload_n hx hb (dq tk_Act_join 24 rfl) rfl (lv_at hl 1 rfl) ?_
    refine lv_lload_n hx hb (dq tk_Act_join 25 rfl) rfl (lv_at hl 2 rfl) ?_
    refine W.lcmp hx hb (dq tk_Act_join 26 rfl) ?_
    refine lv_if_ge (tgt := 112) hx hb (dq tk_Act_join 27 rfl) (by decide) (fun c2 => ?_) (fun c2 => ?_)
    · replace hf := if_t hf c2
      refine lv_lconst (v := 0) hx hb (dq tk_Act_join 30 rfl) (by decide) ?_
      cases hf
      exact x_lret hc hw hr (dq tk_Act_join 31 rfl)
    · replace hf := if_f hf c2
      refine lv_lconst (v := 1) hx hb (dq tk_Act_join 28 rfl) (by decide) ?_
      refine lv_goto (tgt := 113) hx hb (dq tk_Act_join 29 rfl) (by decide) ?_
      cases hf
      exact x_lret hc hw hr (dq tk_Act_join 31 rfl)
  replace hf := if_f hf c10_1
  by_cases c10_2 : x0 = (-47)
  · replace hf := if_t hf c10_2
    refine lv_lookup (tgt := 88) hx hb (dq tk_Act_join 1 rfl) (by decide) (by rw [c10_2]; first | done | rfl) (by decide) ?_
    refine lv_lload_n hx hb (dq tk_Act_join 14 rfl) rfl (lv_at hl 2 rfl) ?_
    refine lv_lconst (v := 0) hx hb (dq tk_Act_join 15 rfl) (by decide) ?_
    refine W.lcmp hx hb (dq tk_Act_join 16 rfl) ?_
    refine lv_if_ne (tgt := 98) hx hb (dq tk_Act_join 17 rfl) (by decide) (fun c3 => ?_) (fun c3 => ?_)
    · replace hf := if_f hf c3
      refine lv_lload_n hx hb (dq tk_Act_join 20 rfl) rfl (lv_at hl 1 rfl) ?_
      refine lv_lload_n hx hb (dq tk_Act_join 21 rfl) rfl (lv_at hl 2 rfl) ?_
      obtain ⟨c4, hf⟩ := chk_some hf
      refine lv_ldiv hx hb (dq tk_Act_join 22 rfl) c4 ?_
      cases hf
      exact x_lret hc hw hr (dq tk_Act_join 23 rfl)
    · replace hf := if_t hf c3
      refine lv_lconst (v := 0) hx hb (dq tk_Act_join 18 rfl) (by decide) ?_
      refine lv_goto (tgt := 101) hx hb (dq tk_Act_join 19 rfl) (by decide) ?_
      cases hf
      exact x_lret hc hw hr (dq tk_Act_join 23 rfl)
  replace hf := if_f hf c10_2
  by_cases c10_3 : x0 = (-45)
  · replace hf := if_t hf c10_3
    refine lv_lookup (tgt := 80) hx hb (dq tk_Act_join 1 rfl) (by decide) (by rw [c10_3]; first | done | rfl) (by decide) ?_
    refine lv_lload_n hx hb (dq tk_Act_join 6 rfl) rfl (lv_at hl 1 rfl) ?_
    refine lv_lload_n hx hb (dq tk_Act_join 7 rfl) rfl (lv_at hl 2 rfl) ?_
    refine lv_lsub hx hb (dq tk_Act_join 8 rfl) ?_
    cases hf
    exact x_lret hc hw hr (dq tk_Act_join 9 rfl)
  replace hf := if_f hf c10_3
  by_cases c10_4 : x0 = (-43)
  · replace hf := if_t hf c10_4
    refine lv_lookup (tgt := 76) hx hb (dq tk_Act_join 1 rfl) (by decide) (by rw [c10_4]; first | done | rfl) (by decide) ?_
    refine lv_lload_n hx hb (dq tk_Act_join 2 rfl) rfl (lv_at hl 1 rfl) ?_
    refine lv_lload_n hx hb (dq tk_Act_join 3 rfl) rfl (lv_at hl 2 rfl) ?_
    refine lv_ladd hx hb (dq tk_Act_join 4 rfl) ?_
    cases hf
    exact x_lret hc hw hr (dq tk_Act_join 5 rfl)
  replace hf := if_f hf c10_4
  by_cases c10_5 : x0 = (-42)
  · replace hf := if_t hf c10_5
    refine lv_lookup (tgt := 84) hx hb (dq tk_Act_join 1 rfl) (by decide) (by rw [c10_5]; first | done | rfl) (by decide) ?_
    refine lv_lload_n hx hb (dq tk_Act_join 10 rfl) rfl (lv_at hl 1 rfl) ?_
    refine lv_lload_n hx hb (dq tk_Act_join 11 rfl) rfl (lv_at hl 2 rfl) ?_
    refine lv_lmul hx hb (dq tk_Act_join 12 rfl) ?_
    cases hf
    exact x_lret hc hw hr (dq tk_Act_join 13 rfl)
  replace hf := if_f hf c10_5
  by_cases c10_6 : x0 = (-3)
  · replace hf := if_t hf c10_6
    refine lv_lookup (tgt := 126) hx hb (dq tk_Act_join 1 rfl) (by decide) (by rw [c10_6]; first | done | rfl) (by decide) ?_
    refine lv_lload_n hx hb (dq tk_Act_join 40 rfl) rfl (lv_at hl 1 rfl) ?_
    refine lv_lconst (v := 0) hx hb (dq tk_Act_join 41 rfl) (by decide) ?_
    refine W.lcmp hx hb (dq tk_Act_join 42 rfl) ?_
    refine lv_if_eq (tgt := 142) hx hb (dq tk_Act_join 43 rfl) (by decide) (fun c5 => ?_) (fun c5 => ?_)
    · replace hf := if_t hf c5
      refine lv_lconst (v := 0) hx hb (dq tk_Act_join 50 rfl) (by decide) ?_
      cases hf
      exact x_lret hc hw hr (dq tk_Act_join 51 rfl)
    · replace hf := if_f hf c5
      refine lv_lload_n hx hb (dq tk_Act_join 44 rfl) rfl (lv_at hl 2 rfl) ?_
      refine lv_lconst (v := 0) hx hb (dq tk_Act_join 45 rfl) (by decide) ?_
      refine W.lcmp hx hb (dq tk_Act_join 46 rfl) ?_
      refine lv_if_eq (tgt := 142) hx hb (dq tk_Act_join 47 rfl) (by decide) (fun c6 => ?_) (fun c6 => ?_)
      · replace hf := if_t hf c6
        refine lv_lconst (v := 0) hx hb (dq tk_Act_join 50 rfl) (by decide) ?_
        cases hf
        exact x_lret hc hw hr (dq tk_Act_join 51 rfl)
      · replace hf := if_f hf c6
        refine lv_lconst (v := 1) hx hb (dq tk_Act_join 48 rfl) (by decide) ?_
        refine lv_goto (tgt := 143) hx hb (dq tk_Act_join 49 rfl) (by decide) ?_
        cases hf
        exact x_lret hc hw hr (dq tk_Act_join 51 rfl)
  replace hf := if_f hf c10_6
  by_cases c10_7 : x0 = (-2)
  · replace hf := if_t hf c10_7
    refine lv_lookup (tgt := 144) hx hb (dq tk_Act_join 1 rfl) (by decide) (by rw [c10_7]; first | done | rfl) (by decide) ?_
    refine lv_lload_n hx hb (dq tk_Act_join 52 rfl) rfl (lv_at hl 1 rfl) ?_
    refine lv_lconst (v := 0) hx hb (dq tk_Act_join 53 rfl) (by decide) ?_
    refine W.lcmp hx hb (dq tk_Act_join 54 rfl) ?_
    refine lv_if_ne (tgt := 156) hx hb (dq tk_Act_join 55 rfl) (by decide) (fun c7 => ?_) (fun c7 => ?_)
    · replace hf := if_f hf c7
      exact w_Act_join_156 hc hr hR hw (lv_sub hl [] rfl) hf
    · replace hf := if_t hf c7
      refine lv_lload_n hx hb (dq tk_Act_join 56 rfl) rfl (lv_at hl 2 rfl) ?_
      refine lv_lconst (v := 0) hx hb (dq tk_Act_join 57 rfl) (by decide) ?_
      refine W.lcmp hx hb (dq tk_Act_join 58 rfl) ?_
      refine lv_if_eq (tgt := 160) hx hb (dq tk_Act_join 59 rfl) (by decide) (fun c8 => ?_) (fun c8 => ?_)
      · replace hf := if_t hf c8
        refine lv_lconst (v := 0) hx hb (dq tk_Act_join 62 rfl) (by decide) ?_
        cases hf
        exact x_lret hc hw hr (dq tk_Act_join 63 rfl)
      · replace hf := if_f hf c8
        exact w_Act_join_156 hc hr hR hw (lv_sub hl [] rfl) hf
  replace hf := if_f hf c10_7
  refine lv_lookup (off := 161) (tgt := 162) hx hb (dq tk_Act_join 1 rfl) (by decide) (lk_step (lk_n c10_0 (by decide)) (lk_step (lk_n c10_1 (by decide)) (lk_step (lk_n c10_2 (by decide)) (lk_step (lk_n c10_3 (by decide)) (lk_step (lk_n c10_4 (by decide)) (lk_step (lk_n c10_5 (by decide)) (lk_step (lk_n c10_6 (by decide)) (lk_step (lk_n c10_7 (by decide)) (rfl))))))))) (by decide) ?_
  refine lv_lload_n hx hb (dq tk_Act_join 64 rfl) rfl (lv_at hl 2 rfl) ?_
  refine lv_lconst (v := 0) hx hb (dq tk_Act_join 65 rfl) (by decide) ?_
  refine W.lcmp hx hb (dq tk_Act_join 66 rfl) ?_
  refine lv_if_eq (tgt := 172) hx hb (dq tk_Act_join 67 rfl) (by decide) (fun c9 => ?_) (fun c9 => ?_)
  · replace hf := if_t hf c9
    refine lv_lload_n hx hb (dq tk_Act_join 70 rfl) rfl (lv_at hl 1 rfl) ?_
    cases hf
    exact x_lret hc hw hr (dq tk_Act_join 71 rfl)
  · replace hf := if_f hf c9
    refine lv_lconst (v := 0) hx hb (dq tk_Act_join 68 rfl) (by decide) ?_
    refine lv_goto (tgt := 173) hx hb (dq tk_Act_join 69 rfl) (by decide) ?_
    cases hf
    exact x_lret hc hw hr (dq tk_Act_join 71 rfl)
theorem c_Act_join {N : Nat}  {x0 : Int32} {x1 : Int64} {x3 : Int64} {rv : Int64} {σ : St} (hf : fAct_join N x0 x1 x3 σ = some rv) : Ct l Z y_Act_join prog_2_method_8_code 5 (some .long) (rmo (0)) [.int x0, .long x1, .long x3] (cmb σ μ) (some (.long rv)) True (cmb σ μ) := by
  refine x_met (by decide) (Nat.le_of_ble_eq_true rfl) (fun p e s m args below meth c ls hc hr hw hl => ?_)
  exact w_Act_join hc hr RO.self hw hl hf
theorem K_Act_join {idx : Nat} {N : Nat}  {x0 : Int32} {x1 : Int64} {x3 : Int64} {rv : Int64} {σ : St} (hc : Cxz p s m meth c args cc own nL Z) (hw : Wd Z (cmb σ μ) s H locs) (hl : Cond.methodLink own idx y_Act_join ∈ TB) (hf : fAct_join N x0 x1 x3 σ = some rv) (hR : RO R ((0) + 1)) (hcs : cells ≤ R.cells ∧ slots ≤ R.slots) (hls : ls.size = nL) (hst : (rest.map fun v => v.category).sum ≤ 8) (hdg : decode cc pc = .ok (.invokestatic idx, 3)) (kk : ∀ (H1 : Heap) (locs1 : List Loc), Wd Z (cmb σ μ) s H1 locs1 → True → W p l e R s m args below meth c H1 locs1 cells slots Q (F0 m (pc + 3) ls (.long rv :: rest))) : W p l e R s m args below meth c H locs cells slots Q (F0 m pc ls (.long x3 :: .long x1 :: .int x0 :: rest)) :=
  x_is hc hw (c_Act_join hf) ys_Act_join hl (RO.call hR (by decide)) hcs rfl hls hst hdg rfl kk
set_option maxRecDepth 10000 in
theorem w_Act_work_74 {N : Nat} {ka k2_0 k3_0 : Nat} (hc : Cxz p s m meth c args prog_2_method_7_code "LabourExchange$Act" 7 Z) (hr : meth.sig.returnType = (some .long)) (hR : RO R 1) (hka : ka < 17) (hk2_0 : k2_0 < 2) (hk3_0 : k3_0 < 2) {rv : Int64} {σ' : St} {go10 : Int32 → Int32 → St → Option (Int64 × St)} (hgo10 : ∀ {x4 : Int32} {x5 : Int32} {σ : St} {H : Heap} {locs : List Loc} {ls : Array Slot}, Wd Z (cmb σ μ) s H locs → lv_has ls 7 [(0, .ref (Z.1 + (90 + 6 * ka))), (2, .ref (Z.1 + (277 + 187 * k2_0))), (3, .ref (Z.1 + (278 + 187 * k3_0))), (4, .int x4), (5, .int x5)] → go10 x4 x5 σ = some (rv, σ') → W p l e R s m args below meth c H locs 0 0 (MQ below (Qr Z (some (.long rv)) True (cmb σ' μ)) args s 0 0 (fun q => Z.1 ≤ q)) (F0 m 10 ls [])) : ∀ {x4 : Int32} {x5 : Int32} {s1 : Int32} {s2 : Int64} {σ : St} {H : Heap} {locs : List Loc} {ls : Array Slot}, Wd Z (cmb σ μ) s H locs → lv_has ls 7 [(0, .ref (Z.1 + (90 + 6 * ka))), (2, .ref (Z.1 + (277 + 187 * k2_0))), (3, .ref (Z.1 + (278 + 187 * k3_0))), (4, .int x4), (5, .int x5)] → fAct_work_74 N ka k2_0 k3_0 go10 x4 x5 s1 s2 σ = some (rv, σ') → W p l e R s m args below meth c H locs 0 0 (MQ below (Qr Z (some (.long rv)) True (cmb σ' μ)) args s 0 0 (fun q => Z.1 ≤ q)) (F0 m 74 ls [.long s2, .int s1, .ref (Z.1 + (278 + 187 * k3_0))]) := by
  have hx := hc.hx
  have hb := hc.hb
  intro x4 x5 s1 s2 σ H locs ls hw hl hf
  unfold fAct_work_74 at hf
  obtain ⟨c1, hf⟩ := chk_some hf
  obtain ⟨σ1, hσ1, hf⟩ := nm_some hf
  refine AS_Law_stack hk3_0 hc hw c1 hσ1 (dq tk_Act_work 40 rfl) (fun H locs hw => ?_)
  refine lv_iinc (v := (x4 + 1)) (lv' := [(4, .int (x4 + 1)), (0, .ref (Z.1 + (90 + 6 * ka))), (2, .ref (Z.1 + (277 + 187 * k2_0))), (3, .ref (Z.1 + (278 + 187 * k3_0))), (5, .int x5)]) hx hb (dq tk_Act_work 41 rfl) hl (k := 3) rfl rfl (by decide) rfl (fun ls hl => ?_)
  refine lv_goto (tgt := 148) hx hb (dq tk_Act_work 42 rfl) (by decide) ?_
  refine lv_iinc (v := (x5 + 1)) (lv' := [(5, .int (x5 + 1)), (4, .int (x4 + 1)), (0, .ref (Z.1 + (90 + 6 * ka))), (2, .ref (Z.1 + (277 + 187 * k2_0))), (3, .ref (Z.1 + (278 + 187 * k3_0)))]) hx hb (dq tk_Act_work 84 rfl) hl (k := 4) rfl rfl (by decide) rfl (fun ls hl => ?_)
  refine lv_goto (tgt := 10) hx hb (dq tk_Act_work 85 rfl) (by decide) ?_
  exact hgo10 hw (lv_sub hl [2, 3, 4, 1, 0] rfl) hf
set_option maxRecDepth 10000 in
theorem w_Act_work_114 {N : Nat} {ka k2_0 k3_0 : Nat} (hc : Cxz p s m meth c args prog_2_method_7_code "LabourExchange$Act" 7 Z) (hr : meth.sig.returnType = (some .long)) (hR : RO R 1) (hka : ka < 17) (hk2_0 : k2_0 < 2) (hk3_0 : k3_0 < 2) {rv : Int64} {σ' : St} {go10 : Int32 → Int32 → St → Option (Int64 × St)} (hgo10 : ∀ {x4 : Int32} {x5 : Int32} {σ : St} {H : Heap} {locs : List Loc} {ls : Array Slot}, Wd Z (cmb σ μ) s H locs → lv_has ls 7 [(0, .ref (Z.1 + (90 + 6 * ka))), (2, .ref (Z.1 + (277 + 187 * k2_0))), (3, .ref (Z.1 + (278 + 187 * k3_0))), (4, .int x4), (5, .int x5)] → go10 x4 x5 σ = some (rv, σ') → W p l e R s m args below meth c H locs 0 0 (MQ below (Qr Z (some (.long rv)) True (cmb σ' μ)) args s 0 0 (fun q => Z.1 ≤ q)) (F0 m 10 ls [])) : ∀ {x4 : Int32} {x5 : Int32} {s1 : Int32} {s2 : Int64} {σ : St} {H : Heap} {locs : List Loc} {ls : Array Slot}, Wd Z (cmb σ μ) s H locs → lv_has ls 7 [(0, .ref (Z.1 + (90 + 6 * ka))), (2, .ref (Z.1 + (277 + 187 * k2_0))), (3, .ref (Z.1 + (278 + 187 * k3_0))), (4, .int x4), (5, .int x5)] → fAct_work_114 N ka k2_0 k3_0 go10 x4 x5 s1 s2 σ = some (rv, σ') → W p l e R s m args below meth c H locs 0 0 (MQ below (Qr Z (some (.long rv)) True (cmb σ' μ)) args s 0 0 (fun q => Z.1 ≤ q)) (F0 m 114 ls [.long s2, .int s1, .ref (Z.1 + (278 + 187 * k3_0))]) := by
  have hx := hc.hx
  have hb := hc.hb
  intro x4 x5 s1 s2 σ H locs ls hw hl hf
  unfold fAct_work_114 at hf
  obtain ⟨c1, hf⟩ := chk_some hf
  obtain ⟨σ1, hσ1, hf⟩ := nm_some hf
  refine AS_Law_stack hk3_0 hc hw c1 hσ1 (dq tk_Act_work 63 rfl) (fun H locs hw => ?_)
  refine lv_goto (tgt := 148) hx hb (dq tk_Act_work 64 rfl) (by decide) ?_
  refine lv_iinc (v := (x5 + 1)) (lv' := [(5, .int (x5 + 1)), (0, .ref (Z.1 + (90 + 6 * ka))), (2, .ref (Z.1 + (277 + 187 * k2_0))), (3, .ref (Z.1 + (278 + 187 * k3_0))), (4, .int x4)]) hx hb (dq tk_Act_work 84 rfl) hl (k := 4) rfl rfl (by decide) rfl (fun ls hl => ?_)
  refine lv_goto (tgt := 10) hx hb (dq tk_Act_work 85 rfl) (by decide) ?_
  exact hgo10 hw (lv_sub hl [1, 2, 3, 4, 0] rfl) hf
set_option maxRecDepth 10000 in
theorem w_Act_work_154 {N : Nat} {ka k2_0 k3_0 : Nat} (hc : Cxz p s m meth c args prog_2_method_7_code "LabourExchange$Act" 7 Z) (hr : meth.sig.returnType = (some .long)) (hR : RO R 1) (hka : ka < 17) (hk2_0 : k2_0 < 2) (hk3_0 : k3_0 < 2) {rv : Int64} {σ' : St} : ∀ {x4 : Int32} {σ : St} {H : Heap} {locs : List Loc} {ls : Array Slot}, Wd Z (cmb σ μ) s H locs → lv_has ls 7 [(3, .ref (Z.1 + (278 + 187 * k3_0))), (4, .int x4)] → fAct_work_154 N ka k2_0 k3_0 x4 σ = some (rv, σ') → W p l e R s m args below meth c H locs 0 0 (MQ below (Qr Z (some (.long rv)) True (cmb σ' μ)) args s 0 0 (fun q => Z.1 ≤ q)) (F0 m 154 ls []) := by
  have hx := hc.hx
  have hb := hc.hb
  intro x4 σ H locs ls hw hl hf
  unfold fAct_work_154 at hf
  refine lv_iload hx hb (dq tk_Act_work 86 rfl) (lv_at hl 1 rfl) ?_
  refine lv_if_le (tgt := 168) hx hb (dq tk_Act_work 87 rfl) (by decide) (fun c1 => ?_) (fun c1 => ?_)
  · replace hf := if_t hf c1
    refine lv_lconst (v := 0) hx hb (dq tk_Act_work 94 rfl) (by decide) ?_
    cases hf
    exact x_lret hc hw hr (dq tk_Act_work 95 rfl)
  · replace hf := if_f hf c1
    refine lv_aload_n hx hb (dq tk_Act_work 88 rfl) rfl (lv_at hl 0 rfl) ?_
    refine lv_iload hx hb (dq tk_Act_work 89 rfl) (lv_at hl 1 rfl) ?_
    refine lv_iconst (v := 1) hx hb (dq tk_Act_work 90 rfl) (by decide) ?_
    refine lv_isub hx hb (dq tk_Act_work 91 rfl) ?_
    obtain ⟨c2, hf⟩ := chk_some hf
    refine AL_Law_stack hk3_0 hc hw c2 (dq tk_Act_work 92 rfl) ?_
    refine lv_goto (tgt := 169) hx hb (dq tk_Act_work 93 rfl) (by decide) ?_
    cases hf
    exact x_lret hc hw hr (dq tk_Act_work 95 rfl)
set_option maxRecDepth 10000 in
theorem w_Act_work_10 {N : Nat} {ka k2_0 k3_0 : Nat} (hc : Cxz p s m meth c args prog_2_method_7_code "LabourExchange$Act" 7 Z) (hr : meth.sig.returnType = (some .long)) (hR : RO R 1) (hka : ka < 17) (hk2_0 : k2_0 < 2) (hk3_0 : k3_0 < 2) {rv : Int64} {σ' : St} (n : Nat) : ∀ {x4 : Int32} {x5 : Int32} {σ : St} {H : Heap} {locs : List Loc} {ls : Array Slot}, Wd Z (cmb σ μ) s H locs → lv_has ls 7 [(0, .ref (Z.1 + (90 + 6 * ka))), (2, .ref (Z.1 + (277 + 187 * k2_0))), (3, .ref (Z.1 + (278 + 187 * k3_0))), (4, .int x4), (5, .int x5)] → fAct_work_10 N ka k2_0 k3_0 n x4 x5 σ = some (rv, σ') → W p l e R s m args below meth c H locs 0 0 (MQ below (Qr Z (some (.long rv)) True (cmb σ' μ)) args s 0 0 (fun q => Z.1 ≤ q)) (F0 m 10 ls []) := by
  have hx := hc.hx
  have hb := hc.hb
  induction n with
  | zero =>
    intro x4 x5 σ H locs ls hw hl hf
    have hf : none = some _ := hf
    cases hf
  | succ n ih =>
    intro x4 x5 σ H locs ls hw hl hf
    unfold fAct_work_10 at hf
    refine lv_iload hx hb (dq tk_Act_work 6 rfl) (lv_at hl 4 rfl) ?_
    refine lv_aload_n hx hb (dq tk_Act_work 7 rfl) rfl (lv_at hl 0 rfl) ?_
    refine G_Act_length hka hc hw wd_416 (dq tk_Act_work 8 rfl) ?_
    refine lv_icmp_ge (tgt := 154) hx hb (dq tk_Act_work 9 rfl) (by decide) (fun c1 => ?_) (fun c1 => ?_)
    · replace hf := if_t hf c1
      exact w_Act_work_154 hc hr hR hka hk2_0 hk3_0 hw (lv_sub hl [2, 3] rfl) hf
    · replace hf := if_f hf c1
      refine lv_aload_n hx hb (dq tk_Act_work 10 rfl) rfl (lv_at hl 0 rfl) ?_
      refine G_Act_code hka hc hw wd_415 (dq tk_Act_work 11 rfl) ?_
      refine lv_iload hx hb (dq tk_Act_work 12 rfl) (lv_at hl 4 rfl) ?_
      obtain ⟨c2, hf⟩ := chk_some hf
      refine AL_Act_code hka hc hw c2 (dq tk_Act_work 13 rfl) ?_
      refine lv_iconst (v := (-1)) hx hb (dq tk_Act_work 14 rfl) (by decide) ?_
      refine lv_icmp_eq (tgt := 154) hx hb (dq tk_Act_work 15 rfl) (by decide) (fun c3 => ?_) (fun c3 => ?_)
      · replace hf := if_t hf c3
        exact w_Act_work_154 hc hr hR hka hk2_0 hk3_0 hw (lv_sub hl [2, 3] rfl) hf
      · replace hf := if_f hf c3
        refine lv_aload_n hx hb (dq tk_Act_work 16 rfl) rfl (lv_at hl 0 rfl) ?_
        refine G_Act_code hka hc hw wd_415 (dq tk_Act_work 17 rfl) ?_
        refine lv_iload hx hb (dq tk_Act_work 18 rfl) (lv_at hl 4 rfl) ?_
        refine AL_Act_code hka hc hw c2 (dq tk_Act_work 19 rfl) ?_
        obtain ⟨y1, hy1, hf⟩ := nm_some hf
        refine tst (congrArg Value.int hy1) ?_
        refine lv_istore (lv' := [(6, .int y1), (0, .ref (Z.1 + (90 + 6 * ka))), (2, .ref (Z.1 + (277 + 187 * k2_0))), (3, .ref (Z.1 + (278 + 187 * k3_0))), (4, .int x4), (5, .int x5)]) hx hb (dq tk_Act_work 20 rfl) hl (by decide) rfl (fun ls hl => ?_)
        refine lv_iload hx hb (dq tk_Act_work 21 rfl) (lv_at hl 0 rfl) ?_
        refine lv_if_lt (tgt := 81) hx hb (dq tk_Act_work 22 rfl) (by decide) (fun c4 => ?_) (fun c4 => ?_)
        · replace hf := if_t hf c4
          refine lv_iload hx hb (dq tk_Act_work 43 rfl) (lv_at hl 0 rfl) ?_
          refine lv_bipush (v := (-4)) hx hb (dq tk_Act_work 44 rfl) (by decide) ?_
          refine lv_icmp_ne (tgt := 118) hx hb (dq tk_Act_work 45 rfl) (by decide) (fun c5 => ?_) (fun c5 => ?_)
          · replace hf := if_f hf c5
            refine lv_iload hx hb (dq tk_Act_work 65 rfl) (lv_at hl 4 rfl) ?_
            refine lv_iconst (v := 1) hx hb (dq tk_Act_work 66 rfl) (by decide) ?_
            refine lv_icmp_le (tgt := 148) hx hb (dq tk_Act_work 67 rfl) (by decide) (fun c6 => ?_) (fun c6 => ?_)
            · replace hf := if_t hf c6
              refine lv_iinc (v := (x5 + 1)) (lv' := [(5, .int (x5 + 1)), (6, .int y1), (0, .ref (Z.1 + (90 + 6 * ka))), (2, .ref (Z.1 + (277 + 187 * k2_0))), (3, .ref (Z.1 + (278 + 187 * k3_0))), (4, .int x4)]) hx hb (dq tk_Act_work 84 rfl) hl (k := 5) rfl rfl (by decide) rfl (fun ls hl => ?_)
              refine lv_goto (tgt := 10) hx hb (dq tk_Act_work 85 rfl) (by decide) ?_
              exact ih hw (lv_sub hl [2, 3, 4, 5, 0] rfl) hf
            · replace hf := if_f hf c6
              refine lv_iinc (v := (x4 + (-1))) (lv' := [(4, .int (x4 + (-1))), (6, .int y1), (0, .ref (Z.1 + (90 + 6 * ka))), (2, .ref (Z.1 + (277 + 187 * k2_0))), (3, .ref (Z.1 + (278 + 187 * k3_0))), (5, .int x5)]) hx hb (dq tk_Act_work 68 rfl) hl (k := 4) rfl rfl (by decide) rfl (fun ls hl => ?_)
              refine lv_aload_n hx hb (dq tk_Act_work 69 rfl) rfl (lv_at hl 4 rfl) ?_
              refine lv_iload hx hb (dq tk_Act_work 70 rfl) (lv_at hl 0 rfl) ?_
              refine lv_iconst (v := 1) hx hb (dq tk_Act_work 71 rfl) (by decide) ?_
              refine lv_isub hx hb (dq tk_Act_work 72 rfl) ?_
              refine lv_iload hx hb (dq tk_Act_work 73 rfl) (lv_at hl 1 rfl) ?_
              refine lv_aload_n hx hb (dq tk_Act_work 74 rfl) rfl (lv_at hl 4 rfl) ?_
              refine lv_iload hx hb (dq tk_Act_work 75 rfl) (lv_at hl 0 rfl) ?_
              refine lv_iconst (v := 1) hx hb (dq tk_Act_work 76 rfl) (by decide) ?_
              refine lv_isub hx hb (dq tk_Act_work 77 rfl) ?_
              obtain ⟨c7, hf⟩ := chk_some hf
              refine AL_Law_stack hk3_0 hc hw c7 (dq tk_Act_work 78 rfl) ?_
              refine lv_aload_n hx hb (dq tk_Act_work 79 rfl) rfl (lv_at hl 4 rfl) ?_
              refine lv_iload hx hb (dq tk_Act_work 80 rfl) (lv_at hl 0 rfl) ?_
              obtain ⟨c8, hf⟩ := chk_some hf
              refine AL_Law_stack hk3_0 hc hw c8 (dq tk_Act_work 81 rfl) ?_
              obtain ⟨r2, h82, hf⟩ := bn1_someZ hf
              refine K_Act_join hc hw wd_850 h82 (hR.mono (by decide)) ⟨Nat.zero_le _, Nat.zero_le _⟩ hl.1 (Nat.le_of_ble_eq_true rfl) (dq tk_Act_work 82 rfl) (fun H locs hw _ => ?_)
              obtain ⟨σ3, hσ3, hf⟩ := nm_some hf
              refine AS_Law_stack hk3_0 hc hw c7 hσ3 (dq tk_Act_work 83 rfl) (fun H locs hw => ?_)
              refine lv_iinc (v := (x5 + 1)) (lv' := [(5, .int (x5 + 1)), (4, .int (x4 + (-1))), (6, .int y1), (0, .ref (Z.1 + (90 + 6 * ka))), (2, .ref (Z.1 + (277 + 187 * k2_0))), (3, .ref (Z.1 + (278 + 187 * k3_0)))]) hx hb (dq tk_Act_work 84 rfl) hl (k := 5) rfl rfl (by decide) rfl (fun ls hl => ?_)
              refine lv_goto (tgt := 10) hx hb (dq tk_Act_work 85 rfl) (by decide) ?_
              exact ih hw (lv_sub hl [3, 4, 5, 1, 0] rfl) hf
          · replace hf := if_t hf c5
            refine lv_iload hx hb (dq tk_Act_work 46 rfl) (lv_at hl 4 rfl) ?_
            refine lv_if_le (tgt := 148) hx hb (dq tk_Act_work 47 rfl) (by decide) (fun c9 => ?_) (fun c9 => ?_)
            · replace hf := if_t hf c9
              refine lv_iinc (v := (x5 + 1)) (lv' := [(5, .int (x5 + 1)), (6, .int y1), (0, .ref (Z.1 + (90 + 6 * ka))), (2, .ref (Z.1 + (277 + 187 * k2_0))), (3, .ref (Z.1 + (278 + 187 * k3_0))), (4, .int x4)]) hx hb (dq tk_Act_work 84 rfl) hl (k := 5) rfl rfl (by decide) rfl (fun ls hl => ?_)
              refine lv_goto (tgt := 10) hx hb (dq tk_Act_work 85 rfl) (by decide) ?_
              exact ih hw (lv_sub hl [2, 3, 4, 5, 0] rfl) hf
            · replace hf := if_f hf c9
              refine lv_aload_n hx hb (dq tk_Act_work 48 rfl) rfl (lv_at hl 3 rfl) ?_
              refine lv_iload hx hb (dq tk_Act_work 49 rfl) (lv_at hl 4 rfl) ?_
              refine lv_iconst (v := 1) hx hb (dq tk_Act_work 50 rfl) (by decide) ?_
              refine lv_isub hx hb (dq tk_Act_work 51 rfl) ?_
              refine lv_aload_n hx hb (dq tk_Act_work 52 rfl) rfl (lv_at hl 3 rfl) ?_
              refine lv_iload hx hb (dq tk_Act_work 53 rfl) (lv_at hl 4 rfl) ?_
              refine lv_iconst (v := 1) hx hb (dq tk_Act_work 54 rfl) (by decide) ?_
              refine lv_isub hx hb (dq tk_Act_work 55 rfl) ?_
              obtain ⟨c10, hf⟩ := chk_some hf
              refine AL_Law_stack hk3_0 hc hw c10 (dq tk_Act_work 56 rfl) ?_
              refine lv_lconst (v := 0) hx hb (dq tk_Act_work 57 rfl) (by decide) ?_
              refine W.lcmp hx hb (dq tk_Act_work 58 rfl) ?_
              refine lv_if_ne (tgt := 113) hx hb (dq tk_Act_work 59 rfl) (by decide) (fun c11 => ?_) (fun c11 => ?_)
              · replace hf := if_f hf c11
                refine lv_lconst (v := 0) hx hb (dq tk_Act_work 62 rfl) (by decide) ?_
                exact w_Act_work_114 hc hr hR hka hk2_0 hk3_0 ih hw (lv_sub hl [1, 2, 3, 4, 5] rfl) hf
              · replace hf := if_t hf c11
                refine lv_lconst (v := 1) hx hb (dq tk_Act_work 60 rfl) (by decide) ?_
                refine lv_goto (tgt := 114) hx hb (dq tk_Act_work 61 rfl) (by decide) ?_
                exact w_Act_work_114 hc hr hR hka hk2_0 hk3_0 ih hw (lv_sub hl [1, 2, 3, 4, 5] rfl) hf
        · replace hf := if_f hf c4
          refine lv_iload hx hb (dq tk_Act_work 23 rfl) (lv_at hl 4 rfl) ?_
          refine lv_aload_n hx hb (dq tk_Act_work 24 rfl) rfl (lv_at hl 3 rfl) ?_
          refine LN_Law_stack hk3_0 hc hw (dq tk_Act_work 25 rfl) ?_
          refine lv_icmp_ge (tgt := 148) hx hb (dq tk_Act_work 26 rfl) (by decide) (fun c12 => ?_) (fun c12 => ?_)
          · replace hf := if_t hf c12
            refine lv_iinc (v := (x5 + 1)) (lv' := [(5, .int (x5 + 1)), (6, .int y1), (0, .ref (Z.1 + (90 + 6 * ka))), (2, .ref (Z.1 + (277 + 187 * k2_0))), (3, .ref (Z.1 + (278 + 187 * k3_0))), (4, .int x4)]) hx hb (dq tk_Act_work 84 rfl) hl (k := 5) rfl rfl (by decide) rfl (fun ls hl => ?_)
            refine lv_goto (tgt := 10) hx hb (dq tk_Act_work 85 rfl) (by decide) ?_
            exact ih hw (lv_sub hl [2, 3, 4, 5, 0] rfl) hf
          · replace hf := if_f hf c12
            refine lv_aload_n hx hb (dq tk_Act_work 27 rfl) rfl (lv_at hl 3 rfl) ?_
            refine lv_iload hx hb (dq tk_Act_work 28 rfl) (lv_at hl 4 rfl) ?_
            refine lv_iload hx hb (dq tk_Act_work 29 rfl) (lv_at hl 0 rfl) ?_
            refine lv_ldc hx hb hc.ho (hc.ht _ wd_849) (dq tk_Act_work 30 rfl) ?_
            refine lv_icmp_ge (tgt := 67) hx hb (dq tk_Act_work 31 rfl) (by decide) (fun c13 => ?_) (fun c13 => ?_)
            · replace hf := if_t hf c13
              refine lv_aload_n hx hb (dq tk_Act_work 35 rfl) rfl (lv_at hl 2 rfl) ?_
              refine lv_iload hx hb (dq tk_Act_work 36 rfl) (lv_at hl 0 rfl) ?_
              refine lv_ldc hx hb hc.ho (hc.ht _ wd_849) (dq tk_Act_work 37 rfl) ?_
              refine lv_isub hx hb (dq tk_Act_work 38 rfl) ?_
              obtain ⟨c14, hf⟩ := chk_some hf
              refine AL_Law_values hk2_0 hc hw c14 (dq tk_Act_work 39 rfl) ?_
              exact w_Act_work_74 hc hr hR hka hk2_0 hk3_0 ih hw (lv_sub hl [1, 2, 3, 4, 5] rfl) hf
            · replace hf := if_f hf c13
              refine lv_iload hx hb (dq tk_Act_work 32 rfl) (lv_at hl 0 rfl) ?_
              refine lv_i2l hx hb (dq tk_Act_work 33 rfl) rfl ?_
              refine lv_goto (tgt := 74) hx hb (dq tk_Act_work 34 rfl) (by decide) ?_
              exact w_Act_work_74 hc hr hR hka hk2_0 hk3_0 ih hw (lv_sub hl [1, 2, 3, 4, 5] rfl) hf
set_option maxRecDepth 10000 in
theorem w_Act_work {N : Nat} {ka k2_0 k3_0 : Nat} (hc : Cxz p s m meth c args prog_2_method_7_code "LabourExchange$Act" 7 Z) (hr : meth.sig.returnType = (some .long)) (hR : RO R 1) (hka : ka < 17) (hk2_0 : k2_0 < 2) (hk3_0 : k3_0 < 2) {rv : Int64} {σ' : St} : ∀ {x1 : Int32} {σ : St} {H : Heap} {locs : List Loc} {ls : Array Slot}, Wd Z (cmb σ μ) s H locs → lv_has ls 7 [(0, .ref (Z.1 + (90 + 6 * ka))), (1, .int x1), (2, .ref (Z.1 + (277 + 187 * k2_0))), (3, .ref (Z.1 + (278 + 187 * k3_0)))] → fAct_work N ka k2_0 k3_0 x1 σ = some (rv, σ') → W p l e R s m args below meth c H locs 0 0 (MQ below (Qr Z (some (.long rv)) True (cmb σ' μ)) args s 0 0 (fun q => Z.1 ≤ q)) (F0 m 0 ls []) := by
  have hx := hc.hx
  have hb := hc.hb
  intro x1 σ H locs ls hw hl hf
  unfold fAct_work at hf
  refine lv_iconst (v := 0) hx hb (dq tk_Act_work 0 rfl) (by decide) ?_
  refine lv_istore (lv' := [(4, .int 0), (0, .ref (Z.1 + (90 + 6 * ka))), (1, .int x1), (2, .ref (Z.1 + (277 + 187 * k2_0))), (3, .ref (Z.1 + (278 + 187 * k3_0)))]) hx hb (dq tk_Act_work 1 rfl) hl (by decide) rfl (fun ls hl => ?_)
  refine lv_iconst (v := 0) hx hb (dq tk_Act_work 2 rfl) (by decide) ?_
  refine lv_iload_n hx hb (dq tk_Act_work 3 rfl) rfl (lv_at hl 2 rfl) ?_
  obtain ⟨r1, h4, hf⟩ := bn1_someZ hf
  refine K_Math_max_I hc hw wd_848 h4 (hR.mono (by decide)) ⟨Nat.zero_le _, Nat.zero_le _⟩ hl.1 (Nat.le_of_ble_eq_true rfl) (dq tk_Act_work 4 rfl) (fun H locs hw _ => ?_)
  refine lv_istore (lv' := [(5, .int r1), (4, .int 0), (0, .ref (Z.1 + (90 + 6 * ka))), (1, .int x1), (2, .ref (Z.1 + (277 + 187 * k2_0))), (3, .ref (Z.1 + (278 + 187 * k3_0)))]) hx hb (dq tk_Act_work 5 rfl) hl (by decide) rfl (fun ls hl => ?_)
  exact w_Act_work_10 hc hr hR hka hk2_0 hk3_0 N hw (lv_sub hl [2, 4, 5, 1, 0] rfl) hf
theorem c_Act_work {N : Nat} {ka k2_0 k3_0 : Nat}  {x1 : Int32} {rv : Int64} {σ' : St} {σ : St} (hka : ka < 17) (hk2_0 : k2_0 < 2) (hk3_0 : k3_0 < 2) (hf : fAct_work N ka k2_0 k3_0 x1 σ = some (rv, σ')) : Ct l Z y_Act_work prog_2_method_7_code 7 (some .long) (rmo (1)) [.ref (Z.1 + (90 + 6 * ka)), .int x1, .ref (Z.1 + (277 + 187 * k2_0)), .ref (Z.1 + (278 + 187 * k3_0))] (cmb σ μ) (some (.long rv)) True (cmb σ' μ) := by
  refine x_met (by decide) (Nat.le_of_ble_eq_true rfl) (fun p e s m args below meth c ls hc hr hw hl => ?_)
  exact w_Act_work hc hr RO.self hka hk2_0 hk3_0 hw hl hf
theorem K_Act_work {idx : Nat} {N : Nat} {ka k2_0 k3_0 : Nat}  {x1 : Int32} {rv : Int64} {σ' : St} {σ : St} (hc : Cxz p s m meth c args cc own nL Z) (hw : Wd Z (cmb σ μ) s H locs) (hka : ka < 17) (hk2_0 : k2_0 < 2) (hk3_0 : k3_0 < 2) (hl : Cond.methodLink own idx y_Act_work ∈ TB) (hf : fAct_work N ka k2_0 k3_0 x1 σ = some (rv, σ')) (hR : RO R ((1) + 1)) (hcs : cells ≤ R.cells ∧ slots ≤ R.slots) (hls : ls.size = nL) (hst : (rest.map fun v => v.category).sum ≤ 8) (hdg : decode cc pc = .ok (.invokevirtual idx, 3)) (kk : ∀ (H1 : Heap) (locs1 : List Loc), Wd Z (cmb σ' μ) s H1 locs1 → True → W p l e R s m args below meth c H1 locs1 cells slots Q (F0 m (pc + 3) ls (.long rv :: rest))) : W p l e R s m args below meth c H locs cells slots Q (F0 m pc ls (.ref (Z.1 + (278 + 187 * k3_0)) :: .ref (Z.1 + (277 + 187 * k2_0)) :: .int x1 :: .ref (Z.1 + (90 + 6 * ka)) :: rest)) :=
  x_iv hc hw (c_Act_work hka hk2_0 hk3_0 hf) yv_Act_work (wd_act (r := 0) hka (by decide) (by omega)).1 (wd_act (r := 0) hka (by decide) (by omega)).2 rfl hl (RO.call hR (by decide)) hcs rfl hls hst hdg rfl kk
set_option maxRecDepth 10000 in
theorem w_Reader_append_3 {N : Nat} (hc : Cxz p s m meth c args prog_10_method_2_code "LabourExchange$Reader" 3 Z) (hr : meth.sig.returnType = none) (hR : RO R 0) {σ' : St} (n : Nat) : ∀ {x1 : Int32} {x2 : Int32} {σ : St} {H : Heap} {locs : List Loc} {ls : Array Slot}, Wd Z (cmb σ μ) s H locs → lv_has ls 3 [(0, .ref (Z.1 + 1)), (1, .int x1), (2, .int x2)] → fReader_append_3 N n x1 x2 σ = some σ' → W p l e R s m args below meth c H locs 0 0 (MQ below (Qr Z none True (cmb σ' μ)) args s 0 0 (fun q => Z.1 ≤ q)) (F0 m 3 ls []) := by
  have hx := hc.hx
  have hb := hc.hb
  induction n with
  | zero =>
    intro x1 x2 σ H locs ls hw hl hf
    have hf : none = some _ := hf
    cases hf
  | succ n ih =>
    intro x1 x2 σ H locs ls hw hl hf
    unfold fReader_append_3 at hf
    refine lv_iload_n hx hb (dq tk_Reader_append 2 rfl) rfl (lv_at hl 2 rfl) ?_
    refine lv_if_lt (tgt := 46) hx hb (dq tk_Reader_append 3 rfl) (by decide) (fun c1 => ?_) (fun c1 => ?_)
    · replace hf := if_t hf c1
      cases hf
      exact x_vret hc hw hr (dq tk_Reader_append 25 rfl)
    · replace hf := if_f hf c1
      refine lv_aload_n hx hb (dq tk_Reader_append 4 rfl) rfl (lv_at hl 0 rfl) ?_
      refine G_Reader_size hc hw wd_42 (dq tk_Reader_append 5 rfl) ?_
      refine lv_sipush (v := 600) hx hb (dq tk_Reader_append 6 rfl) (by decide) ?_
      refine lv_icmp_ge (tgt := 46) hx hb (dq tk_Reader_append 7 rfl) (by decide) (fun c2 => ?_) (fun c2 => ?_)
      · replace hf := if_t hf c2
        cases hf
        exact x_vret hc hw hr (dq tk_Reader_append 25 rfl)
      · replace hf := if_f hf c2
        refine lv_aload_n hx hb (dq tk_Reader_append 8 rfl) rfl (lv_at hl 0 rfl) ?_
        refine G_Reader_tape hc hw wd_40 (dq tk_Reader_append 9 rfl) ?_
        refine lv_aload_n hx hb (dq tk_Reader_append 10 rfl) rfl (lv_at hl 0 rfl) ?_
        refine G_Reader_size hc hw wd_42 (dq tk_Reader_append 11 rfl) ?_
        refine lv_iload_n hx hb (dq tk_Reader_append 12 rfl) rfl (lv_at hl 1 rfl) ?_
        refine lv_iload_n hx hb (dq tk_Reader_append 13 rfl) rfl (lv_at hl 2 rfl) ?_
        refine lv_ishr hx hb (dq tk_Reader_append 14 rfl) ?_
        refine lv_i2b hx hb (dq tk_Reader_append 15 rfl) rfl ?_
        obtain ⟨c3, hf⟩ := chk_some hf
        obtain ⟨σ1, hσ1, hf⟩ := nm_some hf
        refine AS_Reader_tape hc hw c3 hσ1 (dq tk_Reader_append 16 rfl) (fun H locs hw => ?_)
        refine lv_aload_n hx hb (dq tk_Reader_append 17 rfl) rfl (lv_at hl 0 rfl) ?_
        refine lv_dup hx hb (dq tk_Reader_append 18 rfl) rfl ?_
        refine G_Reader_size hc hw wd_42 (dq tk_Reader_append 19 rfl) ?_
        refine lv_iconst (v := 1) hx hb (dq tk_Reader_append 20 rfl) (by decide) ?_
        refine lv_iadd hx hb (dq tk_Reader_append 21 rfl) ?_
        obtain ⟨σ2, hσ2, hf⟩ := nm_some hf
        refine P_Reader_size hc hw wd_42 hσ2 (dq tk_Reader_append 22 rfl) (fun H locs hw => ?_)
        refine lv_iinc (v := (x2 + (-8))) (lv' := [(2, .int (x2 + (-8))), (0, .ref (Z.1 + 1)), (1, .int x1)]) hx hb (dq tk_Reader_append 23 rfl) hl (k := 2) rfl rfl (by decide) rfl (fun ls hl => ?_)
        refine lv_goto (tgt := 3) hx hb (dq tk_Reader_append 24 rfl) (by decide) ?_
        exact ih hw (lv_sub hl [1, 2, 0] rfl) hf
set_option maxRecDepth 10000 in
theorem w_Reader_append {N : Nat} (hc : Cxz p s m meth c args prog_10_method_2_code "LabourExchange$Reader" 3 Z) (hr : meth.sig.returnType = none) (hR : RO R 0) {σ' : St} : ∀ {x1 : Int32} {σ : St} {H : Heap} {locs : List Loc} {ls : Array Slot}, Wd Z (cmb σ μ) s H locs → lv_has ls 3 [(0, .ref (Z.1 + 1)), (1, .int x1)] → fReader_append N x1 σ = some σ' → W p l e R s m args below meth c H locs 0 0 (MQ below (Qr Z none True (cmb σ' μ)) args s 0 0 (fun q => Z.1 ≤ q)) (F0 m 0 ls []) := by
  have hx := hc.hx
  have hb := hc.hb
  intro x1 σ H locs ls hw hl hf
  unfold fReader_append at hf
  refine lv_bipush (v := 24) hx hb (dq tk_Reader_append 0 rfl) (by decide) ?_
  refine lv_istore_n (lv' := [(2, .int 24), (0, .ref (Z.1 + 1)), (1, .int x1)]) hx hb (dq tk_Reader_append 1 rfl) rfl hl (by decide) rfl (fun ls hl => ?_)
  exact w_Reader_append_3 hc hr hR N hw (lv_sub hl [1, 2, 0] rfl) hf
theorem c_Reader_append {N : Nat}  {x1 : Int32} {σ' : St} {σ : St} (hf : fReader_append N x1 σ = some σ') : Ct l Z y_Reader_append prog_10_method_2_code 3 none (rmo (0)) [.ref (Z.1 + 1), .int x1] (cmb σ μ) none True (cmb σ' μ) := by
  refine x_met (by decide) (Nat.le_of_ble_eq_true rfl) (fun p e s m args below meth c ls hc hr hw hl => ?_)
  exact w_Reader_append hc hr RO.self hw hl hf
theorem K_Reader_append {idx : Nat} {N : Nat}  {x1 : Int32} {σ' : St} {σ : St} (hc : Cxz p s m meth c args cc own nL Z) (hw : Wd Z (cmb σ μ) s H locs) (hl : Cond.methodLink own idx y_Reader_append ∈ TB) (hf : fReader_append N x1 σ = some σ') (hR : RO R ((0) + 1)) (hcs : cells ≤ R.cells ∧ slots ≤ R.slots) (hls : ls.size = nL) (hst : (rest.map fun v => v.category).sum ≤ 8) (hdg : decode cc pc = .ok (.invokevirtual idx, 3)) (kk : ∀ (H1 : Heap) (locs1 : List Loc), Wd Z (cmb σ' μ) s H1 locs1 → True → W p l e R s m args below meth c H1 locs1 cells slots Q (F0 m (pc + 3) ls rest)) : W p l e R s m args below meth c H locs cells slots Q (F0 m pc ls (.int x1 :: .ref (Z.1 + 1) :: rest)) :=
  x_iv hc hw (c_Reader_append hf) yv_Reader_append (Nat.le_of_ble_eq_true rfl) rfl rfl hl (RO.call hR (by decide)) hcs rfl hls hst hdg rfl kk
end WALK
