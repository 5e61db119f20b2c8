section WALK
variable {p : Program} {l : Launch} {e : Env} {R : Room} {s : State} {m : MethodId} {args : Array Value} {below : List Frame} {meth : Method} {c : Code} {H : Heap} {locs : List Loc} {cells slots : Nat} {Q : State → Prop}
variable {cc : ByteArray} {own : String} {nL : Nat} {Z : ZT} {σ μ ν τ : St} {pc : Nat} {ls : Array Slot} {rest : List Value}
set_option maxRecDepth 10000 in
theorem w_X_requireElement_9 {N : Nat} (hc : Cxz p s m meth c args prog_1_method_38_code "LabourExchange" 2 Z) (hr : meth.sig.returnType = none) (hR : RO R 6) (hnt : ∀ x ∈ c.exceptionTable.toList, False) (hst : l.stackTraces = false) (hRc : 1 ≤ R.cells ∧ 6 ≤ R.slots) {rv : Option Unit} {σ : St} : ∀ {H : Heap} {locs : List Loc} {ls : Array Slot} {cells slots : Nat}, cells ≤ 0 ∧ slots ≤ 0 → Wd Z (cmb σ μ) s H locs → lv_has ls 2 [] → fX_requireElement_9 N σ = some rv → W p l e R s m args below meth c H locs cells slots (vx_MQ below (Qz Z (rv.map (fun _ => (none : Option Value))) (cmb σ μ)) (Xz Z "java/util/NoSuchElementException" (rv.map (fun _ => (none : Option Value))) (cmb σ μ)) args s 1 6 (fun q => Z.1 ≤ q)) (F0 m 9 ls []) := by
  have hx := hc.hx
  have hb := hc.hb
  intro H locs ls cells slots hcs hw hl hf
  unfold fX_requireElement_9 at hf
  cases hf
  exact z_throwN hc hw hnt hst hl.1 (dq tk_X_requireElement 5 rfl) (dq tk_X_requireElement 6 rfl) (dq tk_X_requireElement 7 rfl) (dq tk_X_requireElement 8 rfl) (hR.mono (by decide)) (by omega) (by omega) (by omega) (by omega)
set_option maxRecDepth 10000 in
theorem w_X_requireElement {N : Nat} (hc : Cxz p s m meth c args prog_1_method_38_code "LabourExchange" 2 Z) (hr : meth.sig.returnType = none) (hR : RO R 6) (hnt : ∀ x ∈ c.exceptionTable.toList, False) (hst : l.stackTraces = false) (hRc : 1 ≤ R.cells ∧ 6 ≤ R.slots) {rv : Option Unit} {σ : St} : ∀ {x0 : Int32} {x1 : Int32} {H : Heap} {locs : List Loc} {ls : Array Slot} {cells slots : Nat}, cells ≤ 0 ∧ slots ≤ 0 → Wd Z (cmb σ μ) s H locs → lv_has ls 2 [(0, .int x0), (1, .int x1)] → fX_requireElement N x0 x1 σ = some rv → W p l e R s m args below meth c H locs cells slots (vx_MQ below (Qz Z (rv.map (fun _ => (none : Option Value))) (cmb σ μ)) (Xz Z "java/util/NoSuchElementException" (rv.map (fun _ => (none : Option Value))) (cmb σ μ)) args s 1 6 (fun q => Z.1 ≤ q)) (F0 m 0 ls []) := by
  have hx := hc.hx
  have hb := hc.hb
  intro x0 x1 H locs ls cells slots hcs hw hl hf
  unfold fX_requireElement at hf
  refine lv_iload_n hx hb (dq tk_X_requireElement 0 rfl) rfl (lv_at hl 0 rfl) ?_
  refine lv_if_lt (tgt := 9) hx hb (dq tk_X_requireElement 1 rfl) (by decide) (fun c1 => ?_) (fun c1 => ?_)
  · replace hf := if_t hf c1
    exact w_X_requireElement_9 hc hr hR hnt hst hRc (by omega) hw (lv_sub hl [] rfl) hf
  · replace hf := if_f hf c1
    refine lv_iload_n hx hb (dq tk_X_requireElement 2 rfl) rfl (lv_at hl 0 rfl) ?_
    refine lv_iload_n hx hb (dq tk_X_requireElement 3 rfl) rfl (lv_at hl 1 rfl) ?_
    refine lv_icmp_lt (tgt := 17) hx hb (dq tk_X_requireElement 4 rfl) (by decide) (fun c2 => ?_) (fun c2 => ?_)
    · replace hf := if_t hf c2
      cases hf
      exact z_end (by omega) (by omega) (x_vret hc hw hr (dq tk_X_requireElement 9 rfl))
    · replace hf := if_f hf c2
      exact w_X_requireElement_9 hc hr hR hnt hst hRc (by omega) hw (lv_sub hl [] rfl) hf
theorem c_X_requireElement (hst : l.stackTraces = false) {N : Nat}  {x0 : Int32} {x1 : Int32} {rv : Option Unit} {σ : St} (hf : fX_requireElement N x0 x1 σ = some rv) : Cz l Z y_X_requireElement prog_1_method_38_code 2 none { frames := 6, cells := 1, slots := 6, locals := 60 * 6 } "java/util/NoSuchElementException" [.int x0, .int x1] (cmb σ μ) (rv.map (fun _ => (none : Option Value))) (cmb σ μ) := by
  refine z_met (by decide) (Nat.le_of_ble_eq_true rfl) (fun p e s m args below meth c ls hc hnt hr hw hl => ?_)
  exact w_X_requireElement hc hr ⟨Nat.le_refl _, Nat.le_refl _⟩ hnt hst ⟨Nat.le_refl _, Nat.le_refl _⟩ ⟨Nat.zero_le _, Nat.zero_le _⟩ hw hl hf
theorem KZ_X_requireElement (hst0 : l.stackTraces = false) {idx : Nat} {N : Nat}  {x0 : Int32} {x1 : Int32} {rv : Option Unit} {σ : St} (hc : Cxz p s m meth c args cc own nL Z) (hw : Wd Z (cmb σ μ) s H locs) (hl : Cond.methodLink own idx y_X_requireElement ∈ TB) (hf : fX_requireElement N x0 x1 σ = some rv) (hR : RO R (6 + 1)) (hcs : cells + 1 ≤ R.cells ∧ slots + 6 ≤ R.slots) (hls : ls.size = nL) (hst : (rest.map fun v => v.category).sum ≤ 8) (hdg : decode cc pc = .ok (.invokestatic idx, 3)) (kx : rv = none → ∀ (ce : Cell) (q : Addr) (H1 : Heap) (locs1 : List Loc), Wd Z (cmb σ μ) s H1 locs1 → H1[q]? = some ce → ce.vm = .none → s.vm.findClass "java/util/NoSuchElementException" = some ce.cls → vx_W p l e R s m args below meth c H1 locs1 (cells + 1) (slots + 6) Q (F0 m pc ls rest) q) (kk : ∀ r1, rv = some r1 → ∀ (H1 : Heap) (locs1 : List Loc), Wd Z (cmb σ μ) s H1 locs1 → W p l e R s m args below meth c H1 locs1 (cells + 1) (slots + 6) Q (F0 m (pc + 3) ls rest)) : W p l e R s m args below meth c H locs cells slots Q (F0 m pc ls (.int x1 :: .int x0 :: rest)) := by
  exact z_is hc hw (c_X_requireElement hst0 hf) ys_X_requireElement hl (RO.call hR (by decide)) hcs rfl hls hst hdg rfl (fun hn => kx (by cases rv with | none => rfl | some _ => cases hn)) (fun v hv H1 locs1 hw1 => by cases rv with | none => cases hv | some r1 => cases hv; exact kk r1 rfl H1 locs1 hw1)
set_option maxRecDepth 10000 in
theorem w_X_requirePerson {N : Nat} (hc : Cxz p s m meth c args prog_1_method_39_code "LabourExchange" 2 Z) (hr : meth.sig.returnType = none) (hR : RO R 7) (hnt : ∀ x ∈ c.exceptionTable.toList, False) (hst : l.stackTraces = false) (hRc : 1 ≤ R.cells ∧ 6 ≤ R.slots) {rv : Option Unit} {σ : St} : ∀ {x1 : Int32} {H : Heap} {locs : List Loc} {ls : Array Slot} {cells slots : Nat}, cells ≤ 0 ∧ slots ≤ 0 → Wd Z (cmb σ μ) s H locs → lv_has ls 2 [(0, .ref (Z.1 + 0)), (1, .int x1)] → fX_requirePerson N x1 σ = some rv → W p l e R s m args below meth c H locs cells slots (vx_MQ below (Qz Z (rv.map (fun _ => (none : Option Value))) (cmb σ μ)) (Xz Z "java/util/NoSuchElementException" (rv.map (fun _ => (none : Option Value))) (cmb σ μ)) args s 1 6 (fun q => Z.1 ≤ q)) (F0 m 0 ls []) := by
  have hx := hc.hx
  have hb := hc.hb
  intro x1 H locs ls cells slots hcs hw hl hf
  unfold fX_requirePerson at hf
  refine lv_iload_n hx hb (dq tk_X_requirePerson 0 rfl) rfl (lv_at hl 1 rfl) ?_
  refine lv_aload_n hx hb (dq tk_X_requirePerson 1 rfl) rfl (lv_at hl 0 rfl) ?_
  refine G_X_land hc hw wd_652 (dq tk_X_requirePerson 2 rfl) ?_
  refine G_Land_people hc hw wd_103 (dq tk_X_requirePerson 3 rfl) ?_
  obtain ⟨q4, h4, hq4⟩ := btO_some hf
  refine KZ_X_requireElement hst hc hw wd_1032 h4 (hR.mono (by decide)) ⟨by omega, by omega⟩ hl.1 (Nat.le_of_ble_eq_true rfl) (dq tk_X_requirePerson 4 rfl) (fun hn ce q H locs hw hce hcv hcl => ?_) (fun u4 hr4 H locs hw => ?_)
  · rcases hq4 with ⟨-, hf⟩ | ⟨r, hrq, -⟩
    · cases hf
      exact z_out (v := none) hc hw hnt rfl hce hcv hcl (by omega) (by omega)
    · rw [hn] at hrq
      cases hrq
  · rcases hq4 with ⟨hn, -⟩ | ⟨r, hrq, hf⟩
    · rw [hn] at hr4
      cases hr4
    rw [hrq] at hr4
    obtain rfl : u4 = r := (Option.some.inj hr4).symm
    cases hf
    exact z_end (by omega) (by omega) (x_vret hc hw hr (dq tk_X_requirePerson 5 rfl))
theorem c_X_requirePerson (hst : l.stackTraces = false) {N : Nat}  {x1 : Int32} {rv : Option Unit} {σ : St} (hf : fX_requirePerson N x1 σ = some rv) : Cz l Z y_X_requirePerson prog_1_method_39_code 2 none { frames := 7, cells := 1, slots := 6, locals := 60 * 7 } "java/util/NoSuchElementException" [.ref (Z.1 + 0), .int x1] (cmb σ μ) (rv.map (fun _ => (none : Option Value))) (cmb σ μ) := by
  refine z_met (by decide) (Nat.le_of_ble_eq_true rfl) (fun p e s m args below meth c ls hc hnt hr hw hl => ?_)
  exact w_X_requirePerson hc hr ⟨Nat.le_refl _, Nat.le_refl _⟩ hnt hst ⟨Nat.le_refl _, Nat.le_refl _⟩ ⟨Nat.zero_le _, Nat.zero_le _⟩ hw hl hf
theorem KZ_X_requirePerson (hst0 : l.stackTraces = false) {idx : Nat} {N : Nat}  {x1 : Int32} {rv : Option Unit} {σ : St} (hc : Cxz p s m meth c args cc own nL Z) (hw : Wd Z (cmb σ μ) s H locs) (hl : Cond.methodLink own idx y_X_requirePerson ∈ TB) (hf : fX_requirePerson N x1 σ = some rv) (hR : RO R (7 + 1)) (hcs : cells + 1 ≤ R.cells ∧ slots + 6 ≤ R.slots) (hls : ls.size = nL) (hst : (rest.map fun v => v.category).sum ≤ 8) (hdg : decode cc pc = .ok (.invokevirtual idx, 3)) (kx : rv = none → ∀ (ce : Cell) (q : Addr) (H1 : Heap) (locs1 : List Loc), Wd Z (cmb σ μ) s H1 locs1 → H1[q]? = some ce → ce.vm = .none → s.vm.findClass "java/util/NoSuchElementException" = some ce.cls → vx_W p l e R s m args below meth c H1 locs1 (cells + 1) (slots + 6) Q (F0 m pc ls rest) q) (kk : ∀ r1, rv = some r1 → ∀ (H1 : Heap) (locs1 : List Loc), Wd Z (cmb σ μ) s H1 locs1 → W p l e R s m args below meth c H1 locs1 (cells + 1) (slots + 6) Q (F0 m (pc + 3) ls rest)) : W p l e R s m args below meth c H locs cells slots Q (F0 m pc ls (.int x1 :: .ref (Z.1 + 0) :: rest)) := by
  exact z_iv hc hw (c_X_requirePerson hst0 hf) yv_X_requirePerson (Nat.le_of_ble_eq_true rfl) rfl rfl hl (RO.call hR (by decide)) hcs rfl hls hst hdg rfl (fun hn => kx (by cases rv with | none => rfl | some _ => cases hn)) (fun v hv H1 locs1 hw1 => by cases rv with | none => cases hv | some r1 => cases hv; exact kk r1 rfl H1 locs1 hw1)
set_option maxRecDepth 10000 in
theorem w_X_outside_10 {N : Nat} (hc : Cxz p s m meth c args prog_1_method_37_code "LabourExchange" 3 Z) (hr : meth.sig.returnType = (some .boolean)) (hR : RO R 0) {rv : Int32} {σ : St} : ∀ {H : Heap} {locs : List Loc} {ls : Array Slot}, Wd Z (cmb σ μ) s H locs → lv_has ls 3 [] → fX_outside_10 N σ = some rv → W p l e R s m args below meth c H locs 0 0 (MQ below (Qr Z (some (.int rv)) True (cmb σ μ)) args s 0 0 (fun q => Z.1 ≤ q)) (F0 m 10 ls []) := by
  have hx := hc.hx
  have hb := hc.hb
  intro H locs ls hw hl hf
  unfold fX_outside_10 at hf
  refine lv_iconst (v := 1) hx hb (dq tk_X_outside 6 rfl) (by decide) ?_
  refine lv_goto (tgt := 15) hx hb (dq tk_X_outside 7 rfl) (by decide) ?_
  cases hf
  exact x_zret hc hw hr (by decide) (dq tk_X_outside 9 rfl)
set_option maxRecDepth 10000 in
theorem w_X_outside {N : Nat} (hc : Cxz p s m meth c args prog_1_method_37_code "LabourExchange" 3 Z) (hr : meth.sig.returnType = (some .boolean)) (hR : RO R 0) {rv : Int32} {σ : St} : ∀ {x0 : Int32} {x1 : Int32} {x2 : Int32} {H : Heap} {locs : List Loc} {ls : Array Slot}, Wd Z (cmb σ μ) s H locs → lv_has ls 3 [(0, .int x0), (1, .int x1), (2, .int x2)] → fX_outside N x0 x1 x2 σ = some rv → W p l e R s m args below meth c H locs 0 0 (MQ below (Qr Z (some (.int rv)) True (cmb σ μ)) args s 0 0 (fun q => Z.1 ≤ q)) (F0 m 0 ls []) := by
  have hx := hc.hx
  have hb := hc.hb
  intro x0 x1 x2 H locs ls hw hl hf
  unfold fX_outside at hf
  refine lv_iload_n hx hb (dq tk_X_outside 0 rfl) rfl (lv_at hl 0 rfl) ?_
  refine lv_iload_n hx hb (dq tk_X_outside 1 rfl) rfl (lv_at hl 1 rfl) ?_
  refine lv_icmp_lt (tgt := 10) hx hb (dq tk_X_outside 2 rfl) (by decide) (fun c1 => ?_) (fun c1 => ?_)
  · replace hf := if_t hf c1
    exact w_X_outside_10 hc hr hR hw (lv_sub hl [] rfl) hf
  · replace hf := if_f hf c1
    refine lv_iload_n hx hb (dq tk_X_outside 3 rfl) rfl (lv_at hl 0 rfl) ?_
    refine lv_iload_n hx hb (dq tk_X_outside 4 rfl) rfl (lv_at hl 2 rfl) ?_
    refine lv_icmp_le (tgt := 14) hx hb (dq tk_X_outside 5 rfl) (by decide) (fun c2 => ?_) (fun c2 => ?_)
    · replace hf := if_t hf c2
      refine lv_iconst (v := 0) hx hb (dq tk_X_outside 8 rfl) (by decide) ?_
      cases hf
      exact x_zret hc hw hr (by decide) (dq tk_X_outside 9 rfl)
    · replace hf := if_f hf c2
      exact w_X_outside_10 hc hr hR hw (lv_sub hl [] rfl) hf
theorem c_X_outside {N : Nat}  {x0 : Int32} {x1 : Int32} {x2 : Int32} {rv : Int32} {σ : St} (hf : fX_outside N x0 x1 x2 σ = some rv) : Ct l Z y_X_outside prog_1_method_37_code 3 (some .boolean) (rmo (0)) [.int x0, .int x1, .int x2] (cmb σ μ) (some (.int rv)) True (cmb σ μ) := by
  refine x_met (by decide) (Nat.le_of_ble_eq_true rfl) (fun p e s m args below meth c ls hc hr hw hl => ?_)
  exact w_X_outside hc hr RO.self hw hl hf
theorem K_X_outside {idx : Nat} {N : Nat}  {x0 : Int32} {x1 : Int32} {x2 : Int32} {rv : Int32} {σ : St} (hc : Cxz p s m meth c args cc own nL Z) (hw : Wd Z (cmb σ μ) s H locs) (hl : Cond.methodLink own idx y_X_outside ∈ TB) (hf : fX_outside N x0 x1 x2 σ = some rv) (hR : RO R ((0) + 1)) (hcs : cells ≤ R.cells ∧ slots ≤ R.slots) (hls : ls.size = nL) (hst : (rest.map fun v => v.category).sum ≤ 8) (hdg : decode cc pc = .ok (.invokestatic idx, 3)) (kk : ∀ (H1 : Heap) (locs1 : List Loc), Wd Z (cmb σ μ) s H1 locs1 → True → W p l e R s m args below meth c H1 locs1 cells slots Q (F0 m (pc + 3) ls (.int rv :: rest))) : W p l e R s m args below meth c H locs cells slots Q (F0 m pc ls (.int x2 :: .int x1 :: .int x0 :: rest)) :=
  x_is hc hw (c_X_outside hf) ys_X_outside hl (RO.call hR (by decide)) hcs rfl hls hst hdg rfl kk
set_option maxRecDepth 10000 in
theorem w_X_book_84 {N : Nat} (hc : Cxz p s m meth c args prog_1_method_5_code "LabourExchange" 4 Z) (hr : meth.sig.returnType = (some .boolean)) (hR : RO R 8) (hnt : ∀ x ∈ c.exceptionTable.toList, False) (hst : l.stackTraces = false) (hRc : 1 ≤ R.cells ∧ 6 ≤ R.slots) {rv : Option Int32} {σ' : St} : ∀ {x1 : Int32} {σ : St} {H : Heap} {locs : List Loc} {ls : Array Slot} {cells slots : Nat}, cells ≤ 1 ∧ slots ≤ 6 → Wd Z (cmb σ μ) s H locs → lv_has ls 4 [(0, .ref (Z.1 + 0)), (1, .int x1)] → fX_book_84 N x1 σ = some (rv, σ') → W p l e R s m args below meth c H locs cells slots (vx_MQ below (Qz Z (rv.map (fun x => (some (.int x) : Option Value))) (cmb σ' μ)) (Xz Z "java/util/NoSuchElementException" (rv.map (fun x => (some (.int x) : Option Value))) (cmb σ' μ)) args s 1 6 (fun q => Z.1 ≤ q)) (F0 m 84 ls []) := by
  have hx := hc.hx
  have hb := hc.hb
  intro x1 σ H locs ls cells slots hcs hw hl hf
  unfold fX_book_84 at hf
  refine lv_aload_n hx hb (dq tk_X_book 44 rfl) rfl (lv_at hl 0 rfl) ?_
  refine G_X_land hc hw wd_652 (dq tk_X_book 45 rfl) ?_
  refine lv_iload_n hx hb (dq tk_X_book 46 rfl) rfl (lv_at hl 1 rfl) ?_
  obtain ⟨σ1, h47, hf⟩ := bn1_someZ hf
  refine K_Land_noteChange hc hw wd_1107 h47 (hR.mono (by decide)) ⟨by omega, by omega⟩ hl.1 (Nat.le_of_ble_eq_true rfl) (dq tk_X_book 47 rfl) (fun H locs hw _ => ?_)
  refine lv_iconst (v := 1) hx hb (dq tk_X_book 48 rfl) (by decide) ?_
  cases hf
  exact z_end (by omega) (by omega) (x_zret hc hw hr (by decide) (dq tk_X_book 49 rfl))
set_option maxRecDepth 10000 in
theorem w_X_book {N : Nat} (hc : Cxz p s m meth c args prog_1_method_5_code "LabourExchange" 4 Z) (hr : meth.sig.returnType = (some .boolean)) (hR : RO R 8) (hnt : ∀ x ∈ c.exceptionTable.toList, False) (hst : l.stackTraces = false) (hRc : 1 ≤ R.cells ∧ 6 ≤ R.slots) {rv : Option Int32} {σ' : St} : ∀ {x1 : Int32} {x2 : Int32} {x3 : Int32} {σ : St} {H : Heap} {locs : List Loc} {ls : Array Slot} {cells slots : Nat}, cells ≤ 0 ∧ slots ≤ 0 → Wd Z (cmb σ μ) s H locs → lv_has ls 4 [(0, .ref (Z.1 + 0)), (1, .int x1), (2, .int x2), (3, .int x3)] → fX_book N x1 x2 x3 σ = some (rv, σ') → W p l e R s m args below meth c H locs cells slots (vx_MQ below (Qz Z (rv.map (fun x => (some (.int x) : Option Value))) (cmb σ' μ)) (Xz Z "java/util/NoSuchElementException" (rv.map (fun x => (some (.int x) : Option Value))) (cmb σ' μ)) args s 1 6 (fun q => Z.1 ≤ q)) (F0 m 0 ls []) := by
  have hx := hc.hx
  have hb := hc.hb
  intro x1 x2 x3 σ H locs ls cells slots hcs hw hl hf
  unfold fX_book at hf
  refine lv_aload_n hx hb (dq tk_X_book 0 rfl) rfl (lv_at hl 0 rfl) ?_
  refine lv_iload_n hx hb (dq tk_X_book 1 rfl) rfl (lv_at hl 1 rfl) ?_
  obtain ⟨q2, h2, hq2⟩ := btR_some hf
  refine KZ_X_requirePerson hst hc hw wd_1028 h2 (hR.mono (by decide)) ⟨by omega, by omega⟩ hl.1 (Nat.le_of_ble_eq_true rfl) (dq tk_X_book 2 rfl) (fun hn ce q H locs hw hce hcv hcl => ?_) (fun u2 hr2 H locs hw => ?_)
  · rcases hq2 with ⟨-, hf⟩ | ⟨r, hrq, -⟩
    · cases hf
      exact z_out (v := none) hc hw hnt rfl hce hcv hcl (by omega) (by omega)
    · rw [hn] at hrq
      cases hrq
  · rcases hq2 with ⟨hn, -⟩ | ⟨r, hrq, hf⟩
    · rw [hn] at hr2
      cases hr2
    rw [hrq] at hr2
    obtain rfl : u2 = r := (Option.some.inj hr2).symm
    refine lv_iload_n hx hb (dq tk_X_book 3 rfl) rfl (lv_at hl 2 rfl) ?_
    refine lv_iconst (v := 0) hx hb (dq tk_X_book 4 rfl) (by decide) ?_
    refine lv_iconst (v := 2) hx hb (dq tk_X_book 5 rfl) (by decide) ?_
    obtain ⟨r1, h6, hf⟩ := bn1_someZ hf
    refine K_X_outside hc hw wd_701 h6 (hR.mono (by decide)) ⟨by omega, by omega⟩ hl.1 (Nat.le_of_ble_eq_true rfl) (dq tk_X_book 6 rfl) (fun H locs hw _ => ?_)
    refine lv_if_ne (tgt := 35) hx hb (dq tk_X_book 7 rfl) (by decide) (fun c1 => ?_) (fun c1 => ?_)
    · replace hf := if_f hf c1
      refine lv_iconst (v := 0) hx hb (dq tk_X_book 18 rfl) (by decide) ?_
      cases hf
      exact z_end (by omega) (by omega) (x_zret hc hw hr (by decide) (dq tk_X_book 19 rfl))
    · replace hf := if_t hf c1
      refine lv_iload_n hx hb (dq tk_X_book 8 rfl) rfl (lv_at hl 3 rfl) ?_
      refine lv_iconst (v := (-1)) hx hb (dq tk_X_book 9 rfl) (by decide) ?_
      refine lv_bipush (v := 52) hx hb (dq tk_X_book 10 rfl) (by decide) ?_
      obtain ⟨r2, h11, hf⟩ := bn1_someZ hf
      refine K_X_outside hc hw wd_701 h11 (hR.mono (by decide)) ⟨by omega, by omega⟩ hl.1 (Nat.le_of_ble_eq_true rfl) (dq tk_X_book 11 rfl) (fun H locs hw _ => ?_)
      refine lv_if_ne (tgt := 35) hx hb (dq tk_X_book 12 rfl) (by decide) (fun c2 => ?_) (fun c2 => ?_)
      · replace hf := if_f hf c2
        refine lv_iconst (v := 0) hx hb (dq tk_X_book 18 rfl) (by decide) ?_
        cases hf
        exact z_end (by omega) (by omega) (x_zret hc hw hr (by decide) (dq tk_X_book 19 rfl))
      · replace hf := if_t hf c2
        refine lv_iload_n hx hb (dq tk_X_book 13 rfl) rfl (lv_at hl 3 rfl) ?_
        refine lv_aload_n hx hb (dq tk_X_book 14 rfl) rfl (lv_at hl 0 rfl) ?_
        refine G_X_reader hc hw wd_651 (dq tk_X_book 15 rfl) ?_
        refine G_Reader_size hc hw wd_43 (dq tk_X_book 16 rfl) ?_
        refine lv_icmp_le (tgt := 37) hx hb (dq tk_X_book 17 rfl) (by decide) (fun c3 => ?_) (fun c3 => ?_)
        · replace hf := if_t hf c3
          refine lv_aload_n hx hb (dq tk_X_book 20 rfl) rfl (lv_at hl 0 rfl) ?_
          refine G_X_books hc hw wd_653 (dq tk_X_book 21 rfl) ?_
          refine G_Books_rowCount hc hw wd_167 (dq tk_X_book 22 rfl) ?_
          refine lv_bipush (v := 60) hx hb (dq tk_X_book 23 rfl) (by decide) ?_
          refine lv_icmp_lt (tgt := 51) hx hb (dq tk_X_book 24 rfl) (by decide) (fun c4 => ?_) (fun c4 => ?_)
          · replace hf := if_t hf c4
            refine lv_aload_n hx hb (dq tk_X_book 27 rfl) rfl (lv_at hl 0 rfl) ?_
            refine G_X_books hc hw wd_653 (dq tk_X_book 28 rfl) ?_
            refine lv_iload_n hx hb (dq tk_X_book 29 rfl) rfl (lv_at hl 1 rfl) ?_
            refine lv_iload_n hx hb (dq tk_X_book 30 rfl) rfl (lv_at hl 2 rfl) ?_
            refine lv_iload_n hx hb (dq tk_X_book 31 rfl) rfl (lv_at hl 3 rfl) ?_
            refine lv_aload_n hx hb (dq tk_X_book 32 rfl) rfl (lv_at hl 0 rfl) ?_
            refine G_X_today hc hw wd_664 (dq tk_X_book 33 rfl) ?_
            refine lv_aload_n hx hb (dq tk_X_book 34 rfl) rfl (lv_at hl 0 rfl) ?_
            refine G_X_reader hc hw wd_651 (dq tk_X_book 35 rfl) ?_
            refine G_Reader_tape hc hw wd_41 (dq tk_X_book 36 rfl) ?_
            obtain ⟨σ3, h37, hf⟩ := bn1_someZ hf
            refine K_Books_addRow hc hw wd_1097 h37 (hR.mono (by decide)) ⟨by omega, by omega⟩ hl.1 (Nat.le_of_ble_eq_true rfl) (dq tk_X_book 37 rfl) (fun H locs hw _ => ?_)
            refine lv_iload_n hx hb (dq tk_X_book 38 rfl) rfl (lv_at hl 3 rfl) ?_
            refine lv_iconst (v := (-1)) hx hb (dq tk_X_book 39 rfl) (by decide) ?_
            refine lv_icmp_eq (tgt := 84) hx hb (dq tk_X_book 40 rfl) (by decide) (fun c5 => ?_) (fun c5 => ?_)
            · replace hf := if_t hf c5
              exact w_X_book_84 hc hr hR hnt hst hRc (by omega) hw (lv_sub hl [0, 1] rfl) hf
            · replace hf := if_f hf c5
              refine lv_aload_n hx hb (dq tk_X_book 41 rfl) rfl (lv_at hl 0 rfl) ?_
              refine G_X_reader hc hw wd_651 (dq tk_X_book 42 rfl) ?_
              obtain ⟨σ4, h43, hf⟩ := bn1_someZ hf
              refine K_Reader_clear hc hw wd_1103 h43 (hR.mono (by decide)) ⟨by omega, by omega⟩ hl.1 (Nat.le_of_ble_eq_true rfl) (dq tk_X_book 43 rfl) (fun H locs hw _ => ?_)
              exact w_X_book_84 hc hr hR hnt hst hRc (by omega) hw (lv_sub hl [0, 1] rfl) hf
          · replace hf := if_f hf c4
            refine lv_iconst (v := 0) hx hb (dq tk_X_book 25 rfl) (by decide) ?_
            cases hf
            exact z_end (by omega) (by omega) (x_zret hc hw hr (by decide) (dq tk_X_book 26 rfl))
        · replace hf := if_f hf c3
          refine lv_iconst (v := 0) hx hb (dq tk_X_book 18 rfl) (by decide) ?_
          cases hf
          exact z_end (by omega) (by omega) (x_zret hc hw hr (by decide) (dq tk_X_book 19 rfl))
theorem c_X_book (hst : l.stackTraces = false) {N : Nat}  {x1 : Int32} {x2 : Int32} {x3 : Int32} {rv : Option Int32} {σ' : St} {σ : St} (hf : fX_book N x1 x2 x3 σ = some (rv, σ')) : Cz l Z y_X_book prog_1_method_5_code 4 (some .boolean) { frames := 8, cells := 1, slots := 6, locals := 60 * 8 } "java/util/NoSuchElementException" [.ref (Z.1 + 0), .int x1, .int x2, .int x3] (cmb σ μ) (rv.map (fun x => (some (.int x) : Option Value))) (cmb σ' μ) := by
  refine z_met (by decide) (Nat.le_of_ble_eq_true rfl) (fun p e s m args below meth c ls hc hnt hr hw hl => ?_)
  exact w_X_book hc hr ⟨Nat.le_refl _, Nat.le_refl _⟩ hnt hst ⟨Nat.le_refl _, Nat.le_refl _⟩ ⟨Nat.zero_le _, Nat.zero_le _⟩ hw hl hf
theorem KZ_X_book (hst0 : l.stackTraces = false) {idx : Nat} {N : Nat}  {x1 : Int32} {x2 : Int32} {x3 : Int32} {rv : Option Int32} {σ' : St} {σ : St} (hc : Cxz p s m meth c args cc own nL Z) (hw : Wd Z (cmb σ μ) s H locs) (hl : Cond.methodLink own idx y_X_book ∈ TB) (hf : fX_book N x1 x2 x3 σ = some (rv, σ')) (hR : RO R (8 + 1)) (hcs : cells + 1 ≤ R.cells ∧ slots + 6 ≤ R.slots) (hls : ls.size = nL) (hst : (rest.map fun v => v.category).sum ≤ 8) (hdg : decode cc pc = .ok (.invokevirtual idx, 3)) (kx : rv = none → ∀ (ce : Cell) (q : Addr) (H1 : Heap) (locs1 : List Loc), Wd Z (cmb σ' μ) s H1 locs1 → H1[q]? = some ce → ce.vm = .none → s.vm.findClass "java/util/NoSuchElementException" = some ce.cls → vx_W p l e R s m args below meth c H1 locs1 (cells + 1) (slots + 6) Q (F0 m pc ls rest) q) (kk : ∀ r1, rv = some r1 → ∀ (H1 : Heap) (locs1 : List Loc), Wd Z (cmb σ' μ) s H1 locs1 → W p l e R s m args below meth c H1 locs1 (cells + 1) (slots + 6) Q (F0 m (pc + 3) ls (.int r1 :: rest))) : W p l e R s m args below meth c H locs cells slots Q (F0 m pc ls (.int x3 :: .int x2 :: .int x1 :: .ref (Z.1 + 0) :: rest)) := by
  exact z_iv hc hw (c_X_book hst0 hf) yv_X_book (Nat.le_of_ble_eq_true rfl) rfl rfl hl (RO.call hR (by decide)) hcs rfl hls hst hdg rfl (fun hn => kx (by cases rv with | none => rfl | some _ => cases hn)) (fun v hv H1 locs1 hw1 => by cases rv with | none => cases hv | some r1 => cases hv; exact kk r1 rfl H1 locs1 hw1)
set_option maxRecDepth 10000 in
theorem w_X_returns {N : Nat} (hc : Cxz p s m meth c args prog_1_method_6_code "LabourExchange" 4 Z) (hr : meth.sig.returnType = (some .boolean)) (hR : RO R 8) (hnt : ∀ x ∈ c.exceptionTable.toList, False) (hst : l.stackTraces = false) (hRc : 1 ≤ R.cells ∧ 6 ≤ R.slots) {rv : Option Int32} {σ' : St} : ∀ {x1 : Int32} {x2 : Int32} {x3 : Int32} {σ : St} {H : Heap} {locs : List Loc} {ls : Array Slot} {cells slots : Nat}, cells ≤ 0 ∧ slots ≤ 0 → Wd Z (cmb σ μ) s H locs → lv_has ls 4 [(0, .ref (Z.1 + 0)), (1, .int x1), (2, .int x2), (3, .int x3)] → fX_returns N x1 x2 x3 σ = some (rv, σ') → W p l e R s m args below meth c H locs cells slots (vx_MQ below (Qz Z (rv.map (fun x => (some (.int x) : Option Value))) (cmb σ' μ)) (Xz Z "java/util/NoSuchElementException" (rv.map (fun x => (some (.int x) : Option Value))) (cmb σ' μ)) args s 1 6 (fun q => Z.1 ≤ q)) (F0 m 0 ls []) := by
  have hx := hc.hx
  have hb := hc.hb
  intro x1 x2 x3 σ H locs ls cells slots hcs hw hl hf
  unfold fX_returns at hf
  refine lv_aload_n hx hb (dq tk_X_returns 0 rfl) rfl (lv_at hl 0 rfl) ?_
  refine lv_iload_n hx hb (dq tk_X_returns 1 rfl) rfl (lv_at hl 1 rfl) ?_
  obtain ⟨q2, h2, hq2⟩ := btR_some hf
  refine KZ_X_requirePerson hst hc hw wd_1028 h2 (hR.mono (by decide)) ⟨by omega, by omega⟩ hl.1 (Nat.le_of_ble_eq_true rfl) (dq tk_X_returns 2 rfl) (fun hn ce q H locs hw hce hcv hcl => ?_) (fun u2 hr2 H locs hw => ?_)
  · rcases hq2 with ⟨-, hf⟩ | ⟨r, hrq, -⟩
    · cases hf
      exact z_out (v := none) hc hw hnt rfl hce hcv hcl (by omega) (by omega)
    · rw [hn] at hrq
      cases hrq
  · rcases hq2 with ⟨hn, -⟩ | ⟨r, hrq, hf⟩
    · rw [hn] at hr2
      cases hr2
    rw [hrq] at hr2
    obtain rfl : u2 = r := (Option.some.inj hr2).symm
    refine lv_iload_n hx hb (dq tk_X_returns 3 rfl) rfl (lv_at hl 2 rfl) ?_
    refine lv_iconst (v := 0) hx hb (dq tk_X_returns 4 rfl) (by decide) ?_
    refine lv_sipush (v := 155) hx hb (dq tk_X_returns 5 rfl) (by decide) ?_
    obtain ⟨r1, h6, hf⟩ := bn1_someZ hf
    refine K_X_outside hc hw wd_701 h6 (hR.mono (by decide)) ⟨by omega, by omega⟩ hl.1 (Nat.le_of_ble_eq_true rfl) (dq tk_X_returns 6 rfl) (fun H locs hw _ => ?_)
    refine lv_if_ne (tgt := 38) hx hb (dq tk_X_returns 7 rfl) (by decide) (fun c1 => ?_) (fun c1 => ?_)
    · replace hf := if_f hf c1
      refine lv_iconst (v := 0) hx hb (dq tk_X_returns 18 rfl) (by decide) ?_
      cases hf
      exact z_end (by omega) (by omega) (x_zret hc hw hr (by decide) (dq tk_X_returns 19 rfl))
    · replace hf := if_t hf c1
      refine lv_iload_n hx hb (dq tk_X_returns 8 rfl) rfl (lv_at hl 3 rfl) ?_
      refine lv_iconst (v := (-1)) hx hb (dq tk_X_returns 9 rfl) (by decide) ?_
      refine lv_bipush (v := 6) hx hb (dq tk_X_returns 10 rfl) (by decide) ?_
      obtain ⟨r2, h11, hf⟩ := bn1_someZ hf
      refine K_X_outside hc hw wd_701 h11 (hR.mono (by decide)) ⟨by omega, by omega⟩ hl.1 (Nat.le_of_ble_eq_true rfl) (dq tk_X_returns 11 rfl) (fun H locs hw _ => ?_)
      refine lv_if_ne (tgt := 38) hx hb (dq tk_X_returns 12 rfl) (by decide) (fun c2 => ?_) (fun c2 => ?_)
      · replace hf := if_f hf c2
        refine lv_iconst (v := 0) hx hb (dq tk_X_returns 18 rfl) (by decide) ?_
        cases hf
        exact z_end (by omega) (by omega) (x_zret hc hw hr (by decide) (dq tk_X_returns 19 rfl))
      · replace hf := if_t hf c2
        refine lv_aload_n hx hb (dq tk_X_returns 13 rfl) rfl (lv_at hl 0 rfl) ?_
        refine G_X_books hc hw wd_653 (dq tk_X_returns 14 rfl) ?_
        refine G_Books_returnCount hc hw wd_173 (dq tk_X_returns 15 rfl) ?_
        refine lv_bipush (v := 100) hx hb (dq tk_X_returns 16 rfl) (by decide) ?_
        refine lv_icmp_lt (tgt := 40) hx hb (dq tk_X_returns 17 rfl) (by decide) (fun c3 => ?_) (fun c3 => ?_)
        · replace hf := if_t hf c3
          refine lv_aload_n hx hb (dq tk_X_returns 20 rfl) rfl (lv_at hl 0 rfl) ?_
          refine G_X_books hc hw wd_653 (dq tk_X_returns 21 rfl) ?_
          refine lv_iload_n hx hb (dq tk_X_returns 22 rfl) rfl (lv_at hl 1 rfl) ?_
          refine lv_iload_n hx hb (dq tk_X_returns 23 rfl) rfl (lv_at hl 2 rfl) ?_
          refine lv_iload_n hx hb (dq tk_X_returns 24 rfl) rfl (lv_at hl 3 rfl) ?_
          refine lv_aload_n hx hb (dq tk_X_returns 25 rfl) rfl (lv_at hl 0 rfl) ?_
          refine G_X_today hc hw wd_664 (dq tk_X_returns 26 rfl) ?_
          obtain ⟨σ3, h27, hf⟩ := bn1_someZ hf
          refine K_Books_addReturn hc hw wd_1118 h27 (hR.mono (by decide)) ⟨by omega, by omega⟩ hl.1 (Nat.le_of_ble_eq_true rfl) (dq tk_X_returns 27 rfl) (fun H locs hw _ => ?_)
          refine lv_aload_n hx hb (dq tk_X_returns 28 rfl) rfl (lv_at hl 0 rfl) ?_
          refine G_X_land hc hw wd_652 (dq tk_X_returns 29 rfl) ?_
          refine lv_iload_n hx hb (dq tk_X_returns 30 rfl) rfl (lv_at hl 1 rfl) ?_
          obtain ⟨σ4, h31, hf⟩ := bn1_someZ hf
          refine K_Land_noteChange hc hw wd_1107 h31 (hR.mono (by decide)) ⟨by omega, by omega⟩ hl.1 (Nat.le_of_ble_eq_true rfl) (dq tk_X_returns 31 rfl) (fun H locs hw _ => ?_)
          refine lv_iconst (v := 1) hx hb (dq tk_X_returns 32 rfl) (by decide) ?_
          cases hf
          exact z_end (by omega) (by omega) (x_zret hc hw hr (by decide) (dq tk_X_returns 33 rfl))
        · replace hf := if_f hf c3
          refine lv_iconst (v := 0) hx hb (dq tk_X_returns 18 rfl) (by decide) ?_
          cases hf
          exact z_end (by omega) (by omega) (x_zret hc hw hr (by decide) (dq tk_X_returns 19 rfl))
theorem c_X_returns (hst : l.stackTraces = false) {N : Nat}  {x1 : Int32} {x2 : Int32} {x3 : Int32} {rv : Option Int32} {σ' : St} {σ : St} (hf : fX_returns N x1 x2 x3 σ = some (rv, σ')) : Cz l Z y_X_returns prog_1_method_6_code 4 (some .boolean) { frames := 8, cells := 1, slots := 6, locals := 60 * 8 } "java/util/NoSuchElementException" [.ref (Z.1 + 0), .int x1, .int x2, .int x3] (cmb σ μ) (rv.map (fun x => (some (.int x) : Option Value))) (cmb σ' μ) := by
  refine z_met (by decide) (Nat.le_of_ble_eq_true rfl) (fun p e s m args below meth c ls hc hnt hr hw hl => ?_)
  exact w_X_returns hc hr ⟨Nat.le_refl _, Nat.le_refl _⟩ hnt hst ⟨Nat.le_refl _, Nat.le_refl _⟩ ⟨Nat.zero_le _, Nat.zero_le _⟩ hw hl hf
theorem KZ_X_returns (hst0 : l.stackTraces = false) {idx : Nat} {N : Nat}  {x1 : Int32} {x2 : Int32} {x3 : Int32} {rv : Option Int32} {σ' : St} {σ : St} (hc : Cxz p s m meth c args cc own nL Z) (hw : Wd Z (cmb σ μ) s H locs) (hl : Cond.methodLink own idx y_X_returns ∈ TB) (hf : fX_returns N x1 x2 x3 σ = some (rv, σ')) (hR : RO R (8 + 1)) (hcs : cells + 1 ≤ R.cells ∧ slots + 6 ≤ R.slots) (hls : ls.size = nL) (hst : (rest.map fun v => v.category).sum ≤ 8) (hdg : decode cc pc = .ok (.invokevirtual idx, 3)) (kx : rv = none → ∀ (ce : Cell) (q : Addr) (H1 : Heap) (locs1 : List Loc), Wd Z (cmb σ' μ) s H1 locs1 → H1[q]? = some ce → ce.vm = .none → s.vm.findClass "java/util/NoSuchElementException" = some ce.cls → vx_W p l e R s m args below meth c H1 locs1 (cells + 1) (slots + 6) Q (F0 m pc ls rest) q) (kk : ∀ r1, rv = some r1 → ∀ (H1 : Heap) (locs1 : List Loc), Wd Z (cmb σ' μ) s H1 locs1 → W p l e R s m args below meth c H1 locs1 (cells + 1) (slots + 6) Q (F0 m (pc + 3) ls (.int r1 :: rest))) : W p l e R s m args below meth c H locs cells slots Q (F0 m pc ls (.int x3 :: .int x2 :: .int x1 :: .ref (Z.1 + 0) :: rest)) := by
  exact z_iv hc hw (c_X_returns hst0 hf) yv_X_returns (Nat.le_of_ble_eq_true rfl) rfl rfl hl (RO.call hR (by decide)) hcs rfl hls hst hdg rfl (fun hn => kx (by cases rv with | none => rfl | some _ => cases hn)) (fun v hv H1 locs1 hw1 => by cases rv with | none => cases hv | some r1 => cases hv; exact kk r1 rfl H1 locs1 hw1)
set_option maxRecDepth 10000 in
theorem w_X_dayKnown {N : Nat} (hc : Cxz p s m meth c args prog_1_method_41_code "LabourExchange" 1 Z) (hr : meth.sig.returnType = (some .int)) (hR : RO R 0) {rv : Int32} {σ : St} : ∀ {H : Heap} {locs : List Loc} {ls : Array Slot}, Wd Z (cmb σ μ) s H locs → lv_has ls 1 [(0, .ref (Z.1 + 0))] → fX_dayKnown N σ = some rv → W p l e R s m args below meth c H locs 0 0 (MQ below (Qr Z (some (.int rv)) True (cmb σ μ)) args s 0 0 (fun q => Z.1 ≤ q)) (F0 m 0 ls []) := by
  have hx := hc.hx
  have hb := hc.hb
  intro H locs ls hw hl hf
  unfold fX_dayKnown at hf
  refine lv_aload_n hx hb (dq tk_X_dayKnown 0 rfl) rfl (lv_at hl 0 rfl) ?_
  refine G_X_theDay hc hw wd_665 (dq tk_X_dayKnown 1 rfl) ?_
  refine lv_iconst (v := (-1)) hx hb (dq tk_X_dayKnown 2 rfl) (by decide) ?_
  refine lv_icmp_ne (tgt := 15) hx hb (dq tk_X_dayKnown 3 rfl) (by decide) (fun c1 => ?_) (fun c1 => ?_)
  · replace hf := if_f hf c1
    refine lv_aload_n hx hb (dq tk_X_dayKnown 7 rfl) rfl (lv_at hl 0 rfl) ?_
    refine G_X_theDay hc hw wd_665 (dq tk_X_dayKnown 8 rfl) ?_
    cases hf
    exact x_iret hc hw hr (dq tk_X_dayKnown 9 rfl)
  · replace hf := if_t hf c1
    refine lv_aload_n hx hb (dq tk_X_dayKnown 4 rfl) rfl (lv_at hl 0 rfl) ?_
    refine G_X_today hc hw wd_664 (dq tk_X_dayKnown 5 rfl) ?_
    refine lv_goto (tgt := 19) hx hb (dq tk_X_dayKnown 6 rfl) (by decide) ?_
    cases hf
    exact x_iret hc hw hr (dq tk_X_dayKnown 9 rfl)
theorem c_X_dayKnown {N : Nat}  {rv : Int32} {σ : St} (hf : fX_dayKnown N σ = some rv) : Ct l Z y_X_dayKnown prog_1_method_41_code 1 (some .int) (rmo (0)) [.ref (Z.1 + 0)] (cmb σ μ) (some (.int rv)) True (cmb σ μ) := by
  refine x_met (by decide) (Nat.le_of_ble_eq_true rfl) (fun p e s m args below meth c ls hc hr hw hl => ?_)
  exact w_X_dayKnown hc hr RO.self hw hl hf
theorem K_X_dayKnown {idx : Nat} {N : Nat}  {rv : Int32} {σ : St} (hc : Cxz p s m meth c args cc own nL Z) (hw : Wd Z (cmb σ μ) s H locs) (hl : Cond.methodLink own idx y_X_dayKnown ∈ TB) (hf : fX_dayKnown N σ = some rv) (hR : RO R ((0) + 1)) (hcs : cells ≤ R.cells ∧ slots ≤ R.slots) (hls : ls.size = nL) (hst : (rest.map fun v => v.category).sum ≤ 8) (hdg : decode cc pc = .ok (.invokevirtual idx, 3)) (kk : ∀ (H1 : Heap) (locs1 : List Loc), Wd Z (cmb σ μ) s H1 locs1 → True → W p l e R s m args below meth c H1 locs1 cells slots Q (F0 m (pc + 3) ls (.int rv :: rest))) : W p l e R s m args below meth c H locs cells slots Q (F0 m pc ls (.ref (Z.1 + 0) :: rest)) :=
  x_iv hc hw (c_X_dayKnown hf) yv_X_dayKnown (Nat.le_of_ble_eq_true rfl) rfl rfl hl (RO.call hR (by decide)) hcs rfl hls hst hdg rfl kk
set_option maxRecDepth 10000 in
theorem w_X_stamps_63 {N : Nat} (hc : Cxz p s m meth c args prog_1_method_7_code "LabourExchange" 6 Z) (hr : meth.sig.returnType = (some .int)) (hR : RO R 8) (hnt : ∀ x ∈ c.exceptionTable.toList, False) (hst : l.stackTraces = false) (hRc : 2 ≤ R.cells ∧ 12 ≤ R.slots) {rv : Option Int32} {σ : St} : ∀ {x4 : Int32} {H : Heap} {locs : List Loc} {ls : Array Slot} {cells slots : Nat}, cells ≤ 2 ∧ slots ≤ 12 → Wd Z (cmb σ μ) s H locs → lv_has ls 6 [(4, .int x4)] → fX_stamps_63 N x4 σ = some rv → W p l e R s m args below meth c H locs cells slots (vx_MQ below (Qz Z (rv.map (fun x => (some (.int x) : Option Value))) (cmb σ μ)) (Xz Z "java/util/NoSuchElementException" (rv.map (fun x => (some (.int x) : Option Value))) (cmb σ μ)) args s 2 12 (fun q => Z.1 ≤ q)) (F0 m 63 ls []) := by
  have hx := hc.hx
  have hb := hc.hb
  intro x4 H locs ls cells slots hcs hw hl hf
  unfold fX_stamps_63 at hf
  refine lv_iload hx hb (dq tk_X_stamps 34 rfl) (lv_at hl 0 rfl) ?_
  refine lv_goto (tgt := 73) hx hb (dq tk_X_stamps 35 rfl) (by decide) ?_
  cases hf
  exact z_end (by omega) (by omega) (x_iret hc hw hr (dq tk_X_stamps 39 rfl))
set_option maxRecDepth 10000 in
theorem w_X_stamps {N : Nat} (hc : Cxz p s m meth c args prog_1_method_7_code "LabourExchange" 6 Z) (hr : meth.sig.returnType = (some .int)) (hR : RO R 8) (hnt : ∀ x ∈ c.exceptionTable.toList, False) (hst : l.stackTraces = false) (hRc : 2 ≤ R.cells ∧ 12 ≤ R.slots) {rv : Option Int32} {σ : St} : ∀ {x1 : Int32} {x2 : Int32} {H : Heap} {locs : List Loc} {ls : Array Slot} {cells slots : Nat}, cells ≤ 0 ∧ slots ≤ 0 → Wd Z (cmb σ μ) s H locs → lv_has ls 6 [(0, .ref (Z.1 + 0)), (1, .int x1), (2, .int x2)] → fX_stamps N x1 x2 σ = some rv → W p l e R s m args below meth c H locs cells slots (vx_MQ below (Qz Z (rv.map (fun x => (some (.int x) : Option Value))) (cmb σ μ)) (Xz Z "java/util/NoSuchElementException" (rv.map (fun x => (some (.int x) : Option Value))) (cmb σ μ)) args s 2 12 (fun q => Z.1 ≤ q)) (F0 m 0 ls []) := by
  have hx := hc.hx
  have hb := hc.hb
  intro x1 x2 H locs ls cells slots hcs hw hl hf
  unfold fX_stamps at hf
  refine lv_aload_n hx hb (dq tk_X_stamps 0 rfl) rfl (lv_at hl 0 rfl) ?_
  refine lv_iload_n hx hb (dq tk_X_stamps 1 rfl) rfl (lv_at hl 1 rfl) ?_
  obtain ⟨q2, h2, hq2⟩ := btO_some hf
  refine KZ_X_requirePerson hst hc hw wd_1028 h2 (hR.mono (by decide)) ⟨by omega, by omega⟩ hl.1 (Nat.le_of_ble_eq_true rfl) (dq tk_X_stamps 2 rfl) (fun hn ce q H locs hw hce hcv hcl => ?_) (fun u2 hr2 H locs hw => ?_)
  · rcases hq2 with ⟨-, hf⟩ | ⟨r, hrq, -⟩
    · cases hf
      exact z_out (v := none) hc hw hnt rfl hce hcv hcl (by omega) (by omega)
    · rw [hn] at hrq
      cases hrq
  · rcases hq2 with ⟨hn, -⟩ | ⟨r, hrq, hf⟩
    · rw [hn] at hr2
      cases hr2
    rw [hrq] at hr2
    obtain rfl : u2 = r := (Option.some.inj hr2).symm
    refine lv_iload_n hx hb (dq tk_X_stamps 3 rfl) rfl (lv_at hl 2 rfl) ?_
    refine lv_sipush (v := 156) hx hb (dq tk_X_stamps 4 rfl) (by decide) ?_
    obtain ⟨q5, h5, hq5⟩ := btO_some hf
    refine KZ_X_requireElement hst hc hw wd_1032 h5 (hR.mono (by decide)) ⟨by omega, by omega⟩ hl.1 (Nat.le_of_ble_eq_true rfl) (dq tk_X_stamps 5 rfl) (fun hn ce q H locs hw hce hcv hcl => ?_) (fun u5 hr5 H locs hw => ?_)
    · rcases hq5 with ⟨-, hf⟩ | ⟨r, hrq, -⟩
      · cases hf
        exact z_out (v := none) hc hw hnt rfl hce hcv hcl (by omega) (by omega)
      · rw [hn] at hrq
        cases hrq
    · rcases hq5 with ⟨hn, -⟩ | ⟨r, hrq, hf⟩
      · rw [hn] at hr5
        cases hr5
      rw [hrq] at hr5
      obtain rfl : u5 = r := (Option.some.inj hr5).symm
      refine lv_aload_n hx hb (dq tk_X_stamps 6 rfl) rfl (lv_at hl 0 rfl) ?_
      obtain ⟨r1, h7, hf⟩ := bn1_someZ hf
      refine K_X_dayKnown hc hw wd_1129 h7 (hR.mono (by decide)) ⟨by omega, by omega⟩ hl.1 (Nat.le_of_ble_eq_true rfl) (dq tk_X_stamps 7 rfl) (fun H locs hw _ => ?_)
      refine lv_istore_n (lv' := [(3, .int r1), (0, .ref (Z.1 + 0)), (1, .int x1), (2, .int x2)]) hx hb (dq tk_X_stamps 8 rfl) rfl hl (by decide) rfl (fun ls hl => ?_)
      refine lv_aload_n hx hb (dq tk_X_stamps 9 rfl) rfl (lv_at hl 1 rfl) ?_
      refine G_X_books hc hw wd_653 (dq tk_X_stamps 10 rfl) ?_
      refine lv_iload_n hx hb (dq tk_X_stamps 11 rfl) rfl (lv_at hl 2 rfl) ?_
      refine lv_iload_n hx hb (dq tk_X_stamps 12 rfl) rfl (lv_at hl 3 rfl) ?_
      refine lv_iload_n hx hb (dq tk_X_stamps 13 rfl) rfl (lv_at hl 0 rfl) ?_
      obtain ⟨r2, h14, hf⟩ := bn1_someZ hf
      refine K_Books_stampsInRow hc hw wd_1133 h14 (hR.mono (by decide)) ⟨by omega, by omega⟩ hl.1 (Nat.le_of_ble_eq_true rfl) (dq tk_X_stamps 14 rfl) (fun H locs hw _ => ?_)
      refine lv_istore (lv' := [(4, .int r2), (3, .int r1), (0, .ref (Z.1 + 0)), (1, .int x1), (2, .int x2)]) hx hb (dq tk_X_stamps 15 rfl) hl (by decide) rfl (fun ls hl => ?_)
      refine lv_aload_n hx hb (dq tk_X_stamps 16 rfl) rfl (lv_at hl 2 rfl) ?_
      refine G_X_books hc hw wd_653 (dq tk_X_stamps 17 rfl) ?_
      refine lv_iload_n hx hb (dq tk_X_stamps 18 rfl) rfl (lv_at hl 3 rfl) ?_
      refine lv_iload_n hx hb (dq tk_X_stamps 19 rfl) rfl (lv_at hl 4 rfl) ?_
      refine lv_iload_n hx hb (dq tk_X_stamps 20 rfl) rfl (lv_at hl 1 rfl) ?_
      obtain ⟨r3, h21, hf⟩ := bn1_someZ hf
      refine K_Books_daysReturned hc hw wd_1137 h21 (hR.mono (by decide)) ⟨by omega, by omega⟩ hl.1 (Nat.le_of_ble_eq_true rfl) (dq tk_X_stamps 21 rfl) (fun H locs hw _ => ?_)
      refine lv_istore (lv' := [(5, .int r3), (4, .int r2), (3, .int r1), (0, .ref (Z.1 + 0)), (1, .int x1), (2, .int x2)]) hx hb (dq tk_X_stamps 22 rfl) hl (by decide) rfl (fun ls hl => ?_)
      refine lv_iload hx hb (dq tk_X_stamps 23 rfl) (lv_at hl 1 rfl) ?_
      refine lv_iconst (v := (-1)) hx hb (dq tk_X_stamps 24 rfl) (by decide) ?_
      refine lv_icmp_ne (tgt := 50) hx hb (dq tk_X_stamps 25 rfl) (by decide) (fun c1 => ?_) (fun c1 => ?_)
      · replace hf := if_f hf c1
        refine lv_iload hx hb (dq tk_X_stamps 28 rfl) (lv_at hl 0 rfl) ?_
        refine lv_iconst (v := (-1)) hx hb (dq tk_X_stamps 29 rfl) (by decide) ?_
        refine lv_icmp_eq (tgt := 63) hx hb (dq tk_X_stamps 30 rfl) (by decide) (fun c2 => ?_) (fun c2 => ?_)
        · replace hf := if_t hf c2
          exact w_X_stamps_63 hc hr hR hnt hst hRc (by omega) hw (lv_sub hl [1] rfl) hf
        · replace hf := if_f hf c2
          refine lv_iload hx hb (dq tk_X_stamps 31 rfl) (lv_at hl 0 rfl) ?_
          refine lv_iload hx hb (dq tk_X_stamps 32 rfl) (lv_at hl 1 rfl) ?_
          refine lv_icmp_ne (tgt := 68) hx hb (dq tk_X_stamps 33 rfl) (by decide) (fun c3 => ?_) (fun c3 => ?_)
          · replace hf := if_f hf c3
            refine lv_bipush (v := 10) hx hb (dq tk_X_stamps 36 rfl) (by decide) ?_
            refine lv_iload hx hb (dq tk_X_stamps 37 rfl) (lv_at hl 1 rfl) ?_
            refine lv_iadd hx hb (dq tk_X_stamps 38 rfl) ?_
            cases hf
            exact z_end (by omega) (by omega) (x_iret hc hw hr (dq tk_X_stamps 39 rfl))
          · replace hf := if_t hf c3
            exact w_X_stamps_63 hc hr hR hnt hst hRc (by omega) hw (lv_sub hl [1] rfl) hf
      · replace hf := if_t hf c1
        refine lv_iload hx hb (dq tk_X_stamps 26 rfl) (lv_at hl 0 rfl) ?_
        cases hf
        exact z_end (by omega) (by omega) (x_iret hc hw hr (dq tk_X_stamps 27 rfl))
theorem c_X_stamps (hst : l.stackTraces = false) {N : Nat}  {x1 : Int32} {x2 : Int32} {rv : Option Int32} {σ : St} (hf : fX_stamps N x1 x2 σ = some rv) : Cz l Z y_X_stamps prog_1_method_7_code 6 (some .int) { frames := 8, cells := 2, slots := 12, locals := 60 * 8 } "java/util/NoSuchElementException" [.ref (Z.1 + 0), .int x1, .int x2] (cmb σ μ) (rv.map (fun x => (some (.int x) : Option Value))) (cmb σ μ) := by
  refine z_met (by decide) (Nat.le_of_ble_eq_true rfl) (fun p e s m args below meth c ls hc hnt hr hw hl => ?_)
  exact w_X_stamps hc hr ⟨Nat.le_refl _, Nat.le_refl _⟩ hnt hst ⟨Nat.le_refl _, Nat.le_refl _⟩ ⟨Nat.zero_le _, Nat.zero_le _⟩ hw hl hf
theorem KZ_X_stamps (hst0 : l.stackTraces = false) {idx : Nat} {N : Nat}  {x1 : Int32} {x2 : Int32} {rv : Option Int32} {σ : St} (hc : Cxz p s m meth c args cc own nL Z) (hw : Wd Z (cmb σ μ) s H locs) (hl : Cond.methodLink own idx y_X_stamps ∈ TB) (hf : fX_stamps N x1 x2 σ = some rv) (hR : RO R (8 + 1)) (hcs : cells + 2 ≤ R.cells ∧ slots + 12 ≤ R.slots) (hls : ls.size = nL) (hst : (rest.map fun v => v.category).sum ≤ 8) (hdg : decode cc pc = .ok (.invokevirtual idx, 3)) (kx : rv = none → ∀ (ce : Cell) (q : Addr) (H1 : Heap) (locs1 : List Loc), Wd Z (cmb σ μ) s H1 locs1 → H1[q]? = some ce → ce.vm = .none → s.vm.findClass "java/util/NoSuchElementException" = some ce.cls → vx_W p l e R s m args below meth c H1 locs1 (cells + 2) (slots + 12) Q (F0 m pc ls rest) q) (kk : ∀ r1, rv = some r1 → ∀ (H1 : Heap) (locs1 : List Loc), Wd Z (cmb σ μ) s H1 locs1 → W p l e R s m args below meth c H1 locs1 (cells + 2) (slots + 12) Q (F0 m (pc + 3) ls (.int r1 :: rest))) : W p l e R s m args below meth c H locs cells slots Q (F0 m pc ls (.int x2 :: .int x1 :: .ref (Z.1 + 0) :: rest)) := by
  exact z_iv hc hw (c_X_stamps hst0 hf) yv_X_stamps (Nat.le_of_ble_eq_true rfl) rfl rfl hl (RO.call hR (by decide)) hcs rfl hls hst hdg rfl (fun hn => kx (by cases rv with | none => rfl | some _ => cases hn)) (fun v hv H1 locs1 hw1 => by cases rv with | none => cases hv | some r1 => cases hv; exact kk r1 rfl H1 locs1 hw1)
set_option maxRecDepth 10000 in
theorem w_X_requireOnTape_15 {N : Nat} (hc : Cxz p s m meth c args prog_1_method_40_code "LabourExchange" 2 Z) (hr : meth.sig.returnType = none) (hR : RO R 6) (hnt : ∀ x ∈ c.exceptionTable.toList, False) (hst : l.stackTraces = false) (hRc : 1 ≤ R.cells ∧ 6 ≤ R.slots) {rv : Option Unit} {σ : St} : ∀ {H : Heap} {locs : List Loc} {ls : Array Slot} {cells slots : Nat}, cells ≤ 0 ∧ slots ≤ 0 → Wd Z (cmb σ μ) s H locs → lv_has ls 2 [] → fX_requireOnTape_15 N σ = some rv → W p l e R s m args below meth c H locs cells slots (vx_MQ below (Qz Z (rv.map (fun _ => (none : Option Value))) (cmb σ μ)) (Xz Z "java/lang/IllegalArgumentException" (rv.map (fun _ => (none : Option Value))) (cmb σ μ)) args s 1 6 (fun q => Z.1 ≤ q)) (F0 m 15 ls []) := by
  have hx := hc.hx
  have hb := hc.hb
  intro H locs ls cells slots hcs hw hl hf
  unfold fX_requireOnTape_15 at hf
  cases hf
  exact z_throwI hc hw hnt hst hl.1 (dq tk_X_requireOnTape 7 rfl) (dq tk_X_requireOnTape 8 rfl) (dq tk_X_requireOnTape 9 rfl) (dq tk_X_requireOnTape 10 rfl) (hR.mono (by decide)) (by omega) (by omega) (by omega) (by omega)
set_option maxRecDepth 10000 in
theorem w_X_requireOnTape {N : Nat} (hc : Cxz p s m meth c args prog_1_method_40_code "LabourExchange" 2 Z) (hr : meth.sig.returnType = none) (hR : RO R 6) (hnt : ∀ x ∈ c.exceptionTable.toList, False) (hst : l.stackTraces = false) (hRc : 1 ≤ R.cells ∧ 6 ≤ R.slots) {rv : Option Unit} {σ : St} : ∀ {x1 : Int32} {H : Heap} {locs : List Loc} {ls : Array Slot} {cells slots : Nat}, cells ≤ 0 ∧ slots ≤ 0 → Wd Z (cmb σ μ) s H locs → lv_has ls 2 [(0, .ref (Z.1 + 0)), (1, .int x1)] → fX_requireOnTape N x1 σ = some rv → W p l e R s m args below meth c H locs cells slots (vx_MQ below (Qz Z (rv.map (fun _ => (none : Option Value))) (cmb σ μ)) (Xz Z "java/lang/IllegalArgumentException" (rv.map (fun _ => (none : Option Value))) (cmb σ μ)) args s 1 6 (fun q => Z.1 ≤ q)) (F0 m 0 ls []) := by
  have hx := hc.hx
  have hb := hc.hb
  intro x1 H locs ls cells slots hcs hw hl hf
  unfold fX_requireOnTape at hf
  refine lv_iload_n hx hb (dq tk_X_requireOnTape 0 rfl) rfl (lv_at hl 1 rfl) ?_
  refine lv_if_lt (tgt := 15) hx hb (dq tk_X_requireOnTape 1 rfl) (by decide) (fun c1 => ?_) (fun c1 => ?_)
  · replace hf := if_t hf c1
    exact w_X_requireOnTape_15 hc hr hR hnt hst hRc (by omega) hw (lv_sub hl [] rfl) hf
  · replace hf := if_f hf c1
    refine lv_iload_n hx hb (dq tk_X_requireOnTape 2 rfl) rfl (lv_at hl 1 rfl) ?_
    refine lv_aload_n hx hb (dq tk_X_requireOnTape 3 rfl) rfl (lv_at hl 0 rfl) ?_
    refine G_X_reader hc hw wd_651 (dq tk_X_requireOnTape 4 rfl) ?_
    refine G_Reader_size hc hw wd_43 (dq tk_X_requireOnTape 5 rfl) ?_
    refine lv_icmp_le (tgt := 23) hx hb (dq tk_X_requireOnTape 6 rfl) (by decide) (fun c2 => ?_) (fun c2 => ?_)
    · replace hf := if_t hf c2
      cases hf
      exact z_end (by omega) (by omega) (x_vret hc hw hr (dq tk_X_requireOnTape 11 rfl))
    · replace hf := if_f hf c2
      exact w_X_requireOnTape_15 hc hr hR hnt hst hRc (by omega) hw (lv_sub hl [] rfl) hf
theorem c_X_requireOnTape (hst : l.stackTraces = false) {N : Nat}  {x1 : Int32} {rv : Option Unit} {σ : St} (hf : fX_requireOnTape N x1 σ = some rv) : Cz l Z y_X_requireOnTape prog_1_method_40_code 2 none { frames := 6, cells := 1, slots := 6, locals := 60 * 6 } "java/lang/IllegalArgumentException" [.ref (Z.1 + 0), .int x1] (cmb σ μ) (rv.map (fun _ => (none : Option Value))) (cmb σ μ) := by
  refine z_met (by decide) (Nat.le_of_ble_eq_true rfl) (fun p e s m args below meth c ls hc hnt hr hw hl => ?_)
  exact w_X_requireOnTape hc hr ⟨Nat.le_refl _, Nat.le_refl _⟩ hnt hst ⟨Nat.le_refl _, Nat.le_refl _⟩ ⟨Nat.zero_le _, Nat.zero_le _⟩ hw hl hf
theorem KZ_X_requireOnTape (hst0 : l.stackTraces = false) {idx : Nat} {N : Nat}  {x1 : Int32} {rv : Option Unit} {σ : St} (hc : Cxz p s m meth c args cc own nL Z) (hw : Wd Z (cmb σ μ) s H locs) (hl : Cond.methodLink own idx y_X_requireOnTape ∈ TB) (hf : fX_requireOnTape N x1 σ = some rv) (hR : RO R (6 + 1)) (hcs : cells + 1 ≤ R.cells ∧ slots + 6 ≤ R.slots) (hls : ls.size = nL) (hst : (rest.map fun v => v.category).sum ≤ 8) (hdg : decode cc pc = .ok (.invokevirtual idx, 3)) (kx : rv = none → ∀ (ce : Cell) (q : Addr) (H1 : Heap) (locs1 : List Loc), Wd Z (cmb σ μ) s H1 locs1 → H1[q]? = some ce → ce.vm = .none → s.vm.findClass "java/lang/IllegalArgumentException" = some ce.cls → vx_W p l e R s m args below meth c H1 locs1 (cells + 1) (slots + 6) Q (F0 m pc ls rest) q) (kk : ∀ r1, rv = some r1 → ∀ (H1 : Heap) (locs1 : List Loc), Wd Z (cmb σ μ) s H1 locs1 → W p l e R s m args below meth c H1 locs1 (cells + 1) (slots + 6) Q (F0 m (pc + 3) ls rest)) : W p l e R s m args below meth c H locs cells slots Q (F0 m pc ls (.int x1 :: .ref (Z.1 + 0) :: rest)) := by
  exact z_iv hc hw (c_X_requireOnTape hst0 hf) yv_X_requireOnTape (Nat.le_of_ble_eq_true rfl) rfl rfl hl (RO.call hR (by decide)) hcs rfl hls hst hdg rfl (fun hn => kx (by cases rv with | none => rfl | some _ => cases hn)) (fun v hv H1 locs1 hw1 => by cases rv with | none => cases hv | some r1 => cases hv; exact kk r1 rfl H1 locs1 hw1)
set_option maxRecDepth 10000 in
theorem w_X_text_36 {N : Nat} (hc : Cxz p s m meth c args prog_1_method_8_code "LabourExchange" 5 Z) (hr : meth.sig.returnType = (some .int)) (hR : RO R 80) (hnt : ∀ x ∈ c.exceptionTable.toList, False) (hst : l.stackTraces = false) (hRc : 1 ≤ R.cells ∧ 6 ≤ R.slots) {rv : Option Int32} {σ' : St} : ∀ {σ : St} {H : Heap} {locs : List Loc} {ls : Array Slot} {cells slots : Nat}, cells ≤ 1 ∧ slots ≤ 6 → Wd Z (cmb σ μ) s H locs → lv_has ls 5 [(0, .ref (Z.1 + 0))] → fX_text_36 N σ = some (rv, σ') → W p l e R s m args below meth c H locs cells slots (vx_MQ below (Qz Z (rv.map (fun x => (some (.int x) : Option Value))) (cmb σ' μ)) (Xz Z "java/lang/IllegalArgumentException" (rv.map (fun x => (some (.int x) : Option Value))) (cmb σ' μ)) args s 1 6 (fun q => Z.1 ≤ q)) (F0 m 36 ls []) := by
  have hx := hc.hx
  have hb := hc.hb
  intro σ H locs ls cells slots hcs hw hl hf
  unfold fX_text_36 at hf
  refine lv_aload_n hx hb (dq tk_X_text 17 rfl) rfl (lv_at hl 0 rfl) ?_
  refine G_X_reader hc hw wd_651 (dq tk_X_text 18 rfl) ?_
  obtain ⟨σ1, h19, hf⟩ := bn1_someZ hf
  refine K_Reader_refuse hc hw wd_1168 h19 (hR.mono (by decide)) ⟨by omega, by omega⟩ hl.1 (Nat.le_of_ble_eq_true rfl) (dq tk_X_text 19 rfl) (fun H locs hw _ => ?_)
  refine lv_bipush (v := (-9)) hx hb (dq tk_X_text 20 rfl) (by decide) ?_
  cases hf
  exact z_end (by omega) (by omega) (x_iret hc hw hr (dq tk_X_text 21 rfl))
set_option maxRecDepth 10000 in
theorem w_X_text {N : Nat} (hc : Cxz p s m meth c args prog_1_method_8_code "LabourExchange" 5 Z) (hr : meth.sig.returnType = (some .int)) (hR : RO R 80) (hnt : ∀ x ∈ c.exceptionTable.toList, False) (hst : l.stackTraces = false) (hRc : 1 ≤ R.cells ∧ 6 ≤ R.slots) {rv : Option Int32} {σ' : St} : ∀ {x1 : Int32} {x2 : Int32} {x3 : Int32} {σ : St} {H : Heap} {locs : List Loc} {ls : Array Slot} {cells slots : Nat}, cells ≤ 0 ∧ slots ≤ 0 → Wd Z (cmb σ μ) s H locs → lv_has ls 5 [(0, .ref (Z.1 + 0)), (1, .int x1), (2, .int x2), (3, .int x3)] → fX_text N x1 x2 x3 σ = some (rv, σ') → W p l e R s m args below meth c H locs cells slots (vx_MQ below (Qz Z (rv.map (fun x => (some (.int x) : Option Value))) (cmb σ' μ)) (Xz Z "java/lang/IllegalArgumentException" (rv.map (fun x => (some (.int x) : Option Value))) (cmb σ' μ)) args s 1 6 (fun q => Z.1 ≤ q)) (F0 m 0 ls []) := by
  have hx := hc.hx
  have hb := hc.hb
  intro x1 x2 x3 σ H locs ls cells slots hcs hw hl hf
  unfold fX_text at hf
  refine lv_aload_n hx hb (dq tk_X_text 0 rfl) rfl (lv_at hl 0 rfl) ?_
  refine lv_iload_n hx hb (dq tk_X_text 1 rfl) rfl (lv_at hl 1 rfl) ?_
  obtain ⟨q2, h2, hq2⟩ := btR_some hf
  refine KZ_X_requireOnTape hst hc hw wd_1149 h2 (hR.mono (by decide)) ⟨by omega, by omega⟩ hl.1 (Nat.le_of_ble_eq_true rfl) (dq tk_X_text 2 rfl) (fun hn ce q H locs hw hce hcv hcl => ?_) (fun u2 hr2 H locs hw => ?_)
  · rcases hq2 with ⟨-, hf⟩ | ⟨r, hrq, -⟩
    · cases hf
      exact z_out (v := none) hc hw hnt rfl hce hcv hcl (by omega) (by omega)
    · rw [hn] at hrq
      cases hrq
  · rcases hq2 with ⟨hn, -⟩ | ⟨r, hrq, hf⟩
    · rw [hn] at hr2
      cases hr2
    rw [hrq] at hr2
    obtain rfl : u2 = r := (Option.some.inj hr2).symm
    refine lv_aload_n hx hb (dq tk_X_text 3 rfl) rfl (lv_at hl 0 rfl) ?_
    refine G_X_texts hc hw wd_662 (dq tk_X_text 4 rfl) ?_
    refine lv_bipush (v := 16) hx hb (dq tk_X_text 5 rfl) (by decide) ?_
    refine lv_icmp_ge (tgt := 36) hx hb (dq tk_X_text 6 rfl) (by decide) (fun c1 => ?_) (fun c1 => ?_)
    · replace hf := if_t hf c1
      exact w_X_text_36 hc hr hR hnt hst hRc (by omega) hw (lv_sub hl [0] rfl) hf
    · replace hf := if_f hf c1
      refine lv_iload_n hx hb (dq tk_X_text 7 rfl) rfl (lv_at hl 2 rfl) ?_
      refine lv_iconst (v := 0) hx hb (dq tk_X_text 8 rfl) (by decide) ?_
      refine lv_sipush (v := 935) hx hb (dq tk_X_text 9 rfl) (by decide) ?_
      obtain ⟨r1, h10, hf⟩ := bn1_someZ hf
      refine K_X_outside hc hw wd_701 h10 (hR.mono (by decide)) ⟨by omega, by omega⟩ hl.1 (Nat.le_of_ble_eq_true rfl) (dq tk_X_text 10 rfl) (fun H locs hw _ => ?_)
      refine lv_if_ne (tgt := 36) hx hb (dq tk_X_text 11 rfl) (by decide) (fun c2 => ?_) (fun c2 => ?_)
      · replace hf := if_f hf c2
        exact w_X_text_36 hc hr hR hnt hst hRc (by omega) hw (lv_sub hl [0] rfl) hf
      · replace hf := if_t hf c2
        refine lv_iload_n hx hb (dq tk_X_text 12 rfl) rfl (lv_at hl 3 rfl) ?_
        refine lv_iconst (v := 0) hx hb (dq tk_X_text 13 rfl) (by decide) ?_
        refine lv_sipush (v := 935) hx hb (dq tk_X_text 14 rfl) (by decide) ?_
        obtain ⟨r2, h15, hf⟩ := bn1_someZ hf
        refine K_X_outside hc hw wd_701 h15 (hR.mono (by decide)) ⟨by omega, by omega⟩ hl.1 (Nat.le_of_ble_eq_true rfl) (dq tk_X_text 15 rfl) (fun H locs hw _ => ?_)
        refine lv_if_eq (tgt := 46) hx hb (dq tk_X_text 16 rfl) (by decide) (fun c3 => ?_) (fun c3 => ?_)
        · replace hf := if_t hf c3
          refine lv_aload_n hx hb (dq tk_X_text 22 rfl) rfl (lv_at hl 0 rfl) ?_
          refine G_X_reader hc hw wd_651 (dq tk_X_text 23 rfl) ?_
          refine lv_iload_n hx hb (dq tk_X_text 24 rfl) rfl (lv_at hl 1 rfl) ?_
          refine lv_aload_n hx hb (dq tk_X_text 25 rfl) rfl (lv_at hl 0 rfl) ?_
          refine G_X_acts hc hw wd_655 (dq tk_X_text 26 rfl) ?_
          refine lv_aload_n hx hb (dq tk_X_text 27 rfl) rfl (lv_at hl 0 rfl) ?_
          refine G_X_texts hc hw wd_662 (dq tk_X_text 28 rfl) ?_
          obtain ⟨c4, hf⟩ := chk_some hf
          refine AL_X_acts hc hw c4 (dq tk_X_text 29 rfl) ?_
          obtain ⟨r3, σ4, h30, hf⟩ := bnd_some hf
          refine K_Reader_read hc hw (inb_lt c4) wd_1173 h30 (hR.mono (by decide)) ⟨by omega, by omega⟩ hl.1 (Nat.le_of_ble_eq_true rfl) (dq tk_X_text 30 rfl) (fun H locs hw _ => ?_)
          refine lv_istore (lv' := [(4, .int r3), (0, .ref (Z.1 + 0)), (1, .int x1), (2, .int x2), (3, .int x3)]) hx hb (dq tk_X_text 31 rfl) hl (by decide) rfl (fun ls hl => ?_)
          refine lv_iload hx hb (dq tk_X_text 32 rfl) (lv_at hl 0 rfl) ?_
          refine lv_if_eq (tgt := 75) hx hb (dq tk_X_text 33 rfl) (by decide) (fun c5 => ?_) (fun c5 => ?_)
          · replace hf := if_t hf c5
            refine lv_aload_n hx hb (dq tk_X_text 38 rfl) rfl (lv_at hl 1 rfl) ?_
            refine G_X_acts hc hw wd_655 (dq tk_X_text 39 rfl) ?_
            refine lv_aload_n hx hb (dq tk_X_text 40 rfl) rfl (lv_at hl 1 rfl) ?_
            refine G_X_texts hc hw wd_662 (dq tk_X_text 41 rfl) ?_
            obtain ⟨c6, hf⟩ := chk_some hf
            refine AL_X_acts hc hw c6 (dq tk_X_text 42 rfl) ?_
            refine lv_iload_n hx hb (dq tk_X_text 43 rfl) rfl (lv_at hl 3 rfl) ?_
            refine lv_iload_n hx hb (dq tk_X_text 44 rfl) rfl (lv_at hl 4 rfl) ?_
            refine lv_aload_n hx hb (dq tk_X_text 45 rfl) rfl (lv_at hl 1 rfl) ?_
            refine G_X_today hc hw wd_664 (dq tk_X_text 46 rfl) ?_
            obtain ⟨σ5, h47, hf⟩ := bn1_someZ hf
            refine K_Act_reign hc hw (inb_lt c6) wd_1340 h47 (hR.mono (by decide)) ⟨by omega, by omega⟩ hl.1 (Nat.le_of_ble_eq_true rfl) (dq tk_X_text 47 rfl) (fun H locs hw _ => ?_)
            refine lv_aload_n hx hb (dq tk_X_text 48 rfl) rfl (lv_at hl 1 rfl) ?_
            refine lv_dup hx hb (dq tk_X_text 49 rfl) rfl ?_
            refine G_X_texts hc hw wd_662 (dq tk_X_text 50 rfl) ?_
            refine lv_iconst (v := 1) hx hb (dq tk_X_text 51 rfl) (by decide) ?_
            refine lv_iadd hx hb (dq tk_X_text 52 rfl) ?_
            obtain ⟨σ6, hσ6, hf⟩ := nm_some hf
            refine P_X_texts hc hw wd_662 hσ6 (dq tk_X_text 53 rfl) (fun H locs hw => ?_)
            refine lv_aload_n hx hb (dq tk_X_text 54 rfl) rfl (lv_at hl 1 rfl) ?_
            refine G_X_texts hc hw wd_662 (dq tk_X_text 55 rfl) ?_
            refine lv_iconst (v := 1) hx hb (dq tk_X_text 56 rfl) (by decide) ?_
            refine lv_isub hx hb (dq tk_X_text 57 rfl) ?_
            cases hf
            exact z_end (by omega) (by omega) (x_iret hc hw hr (dq tk_X_text 58 rfl))
          · replace hf := if_f hf c5
            refine lv_iconst (v := (-1)) hx hb (dq tk_X_text 34 rfl) (by decide) ?_
            refine lv_iload hx hb (dq tk_X_text 35 rfl) (lv_at hl 0 rfl) ?_
            refine lv_isub hx hb (dq tk_X_text 36 rfl) ?_
            have hq1 := (Prod.mk.inj (Option.some.inj hf)).1
            have hq2 := (Prod.mk.inj (Option.some.inj hf)).2
            subst hq1
            subst hq2
            exact z_end (by omega) (by omega) (x_iret hc hw hr (dq tk_X_text 37 rfl))
        · replace hf := if_f hf c3
          exact w_X_text_36 hc hr hR hnt hst hRc (by omega) hw (lv_sub hl [0] rfl) hf
theorem c_X_text (hst : l.stackTraces = false) {N : Nat}  {x1 : Int32} {x2 : Int32} {x3 : Int32} {rv : Option Int32} {σ' : St} {σ : St} (hf : fX_text N x1 x2 x3 σ = some (rv, σ')) : Cz l Z y_X_text prog_1_method_8_code 5 (some .int) { frames := 80, cells := 1, slots := 6, locals := 60 * 80 } "java/lang/IllegalArgumentException" [.ref (Z.1 + 0), .int x1, .int x2, .int x3] (cmb σ μ) (rv.map (fun x => (some (.int x) : Option Value))) (cmb σ' μ) := by
  refine z_met (by decide) (Nat.le_of_ble_eq_true rfl) (fun p e s m args below meth c ls hc hnt hr hw hl => ?_)
  exact w_X_text hc hr ⟨Nat.le_refl _, Nat.le_refl _⟩ hnt hst ⟨Nat.le_refl _, Nat.le_refl _⟩ ⟨Nat.zero_le _, Nat.zero_le _⟩ hw hl hf
theorem KZ_X_text (hst0 : l.stackTraces = false) {idx : Nat} {N : Nat}  {x1 : Int32} {x2 : Int32} {x3 : Int32} {rv : Option Int32} {σ' : St} {σ : St} (hc : Cxz p s m meth c args cc own nL Z) (hw : Wd Z (cmb σ μ) s H locs) (hl : Cond.methodLink own idx y_X_text ∈ TB) (hf : fX_text N x1 x2 x3 σ = some (rv, σ')) (hR : RO R (80 + 1)) (hcs : cells + 1 ≤ R.cells ∧ slots + 6 ≤ R.slots) (hls : ls.size = nL) (hst : (rest.map fun v => v.category).sum ≤ 8) (hdg : decode cc pc = .ok (.invokevirtual idx, 3)) (kx : rv = none → ∀ (ce : Cell) (q : Addr) (H1 : Heap) (locs1 : List Loc), Wd Z (cmb σ' μ) s H1 locs1 → H1[q]? = some ce → ce.vm = .none → s.vm.findClass "java/lang/IllegalArgumentException" = some ce.cls → vx_W p l e R s m args below meth c H1 locs1 (cells + 1) (slots + 6) Q (F0 m pc ls rest) q) (kk : ∀ r1, rv = some r1 → ∀ (H1 : Heap) (locs1 : List Loc), Wd Z (cmb σ' μ) s H1 locs1 → W p l e R s m args below meth c H1 locs1 (cells + 1) (slots + 6) Q (F0 m (pc + 3) ls (.int r1 :: rest))) : W p l e R s m args below meth c H locs cells slots Q (F0 m pc ls (.int x3 :: .int x2 :: .int x1 :: .ref (Z.1 + 0) :: rest)) := by
  exact z_iv hc hw (c_X_text hst0 hf) yv_X_text (Nat.le_of_ble_eq_true rfl) rfl rfl hl (RO.call hR (by decide)) hcs rfl hls hst hdg rfl (fun hn => kx (by cases rv with | none => rfl | some _ => cases hn)) (fun v hv H1 locs1 hw1 => by cases rv with | none => cases hv | some r1 => cases hv; exact kk r1 rfl H1 locs1 hw1)
set_option maxRecDepth 10000 in
theorem w_X_tell {N : Nat} (hc : Cxz p s m meth c args prog_1_method_45_code "LabourExchange" 5 Z) (hr : meth.sig.returnType = (some .int)) (hR : RO R 1) {rv : Int32} {σ' : St} : ∀ {x1 : Int32} {x2 : Int32} {x3 : Int32} {x4 : Int32} {σ : St} {H : Heap} {locs : List Loc} {ls : Array Slot}, Wd Z (cmb σ μ) s H locs → lv_has ls 5 [(0, .ref (Z.1 + 0)), (1, .int x1), (2, .int x2), (3, .int x3), (4, .int x4)] → fX_tell N x1 x2 x3 x4 σ = some (rv, σ') → W p l e R s m args below meth c H locs 0 0 (MQ below (Qr Z (some (.int rv)) True (cmb σ' μ)) args s 0 0 (fun q => Z.1 ≤ q)) (F0 m 0 ls []) := by
  have hx := hc.hx
  have hb := hc.hb
  intro x1 x2 x3 x4 σ H locs ls hw hl hf
  unfold fX_tell at hf
  refine lv_aload_n hx hb (dq tk_X_tell 0 rfl) rfl (lv_at hl 0 rfl) ?_
  refine G_X_land hc hw wd_652 (dq tk_X_tell 1 rfl) ?_
  refine lv_iload_n hx hb (dq tk_X_tell 2 rfl) rfl (lv_at hl 2 rfl) ?_
  obtain ⟨σ1, h3, hf⟩ := bn1_someZ hf
  refine K_Land_noteChange hc hw wd_1107 h3 (hR.mono (by decide)) ⟨Nat.zero_le _, Nat.zero_le _⟩ hl.1 (Nat.le_of_ble_eq_true rfl) (dq tk_X_tell 3 rfl) (fun H locs hw _ => ?_)
  refine lv_aload_n hx hb (dq tk_X_tell 4 rfl) rfl (lv_at hl 0 rfl) ?_
  refine G_X_events hc hw wd_654 (dq tk_X_tell 5 rfl) ?_
  refine lv_iload_n hx hb (dq tk_X_tell 6 rfl) rfl (lv_at hl 1 rfl) ?_
  refine lv_iload_n hx hb (dq tk_X_tell 7 rfl) rfl (lv_at hl 2 rfl) ?_
  refine lv_iload_n hx hb (dq tk_X_tell 8 rfl) rfl (lv_at hl 3 rfl) ?_
  refine lv_iload hx hb (dq tk_X_tell 9 rfl) (lv_at hl 4 rfl) ?_
  refine lv_aload_n hx hb (dq tk_X_tell 10 rfl) rfl (lv_at hl 0 rfl) ?_
  refine G_X_today hc hw wd_664 (dq tk_X_tell 11 rfl) ?_
  obtain ⟨r2, σ3, h12, hf⟩ := bnd_some hf
  refine K_Events_add hc hw wd_1361 h12 (hR.mono (by decide)) ⟨Nat.zero_le _, Nat.zero_le _⟩ hl.1 (Nat.le_of_ble_eq_true rfl) (dq tk_X_tell 12 rfl) (fun H locs hw _ => ?_)
  cases hf
  exact x_iret hc hw hr (dq tk_X_tell 13 rfl)
theorem c_X_tell {N : Nat}  {x1 : Int32} {x2 : Int32} {x3 : Int32} {x4 : Int32} {rv : Int32} {σ' : St} {σ : St} (hf : fX_tell N x1 x2 x3 x4 σ = some (rv, σ')) : Ct l Z y_X_tell prog_1_method_45_code 5 (some .int) (rmo (1)) [.ref (Z.1 + 0), .int x1, .int x2, .int x3, .int x4] (cmb σ μ) (some (.int rv)) True (cmb σ' μ) := by
  refine x_met (by decide) (Nat.le_of_ble_eq_true rfl) (fun p e s m args below meth c ls hc hr hw hl => ?_)
  exact w_X_tell hc hr RO.self hw hl hf
theorem K_X_tell {idx : Nat} {N : Nat}  {x1 : Int32} {x2 : Int32} {x3 : Int32} {x4 : Int32} {rv : Int32} {σ' : St} {σ : St} (hc : Cxz p s m meth c args cc own nL Z) (hw : Wd Z (cmb σ μ) s H locs) (hl : Cond.methodLink own idx y_X_tell ∈ TB) (hf : fX_tell N x1 x2 x3 x4 σ = some (rv, σ')) (hR : RO R ((1) + 1)) (hcs : cells ≤ R.cells ∧ slots ≤ R.slots) (hls : ls.size = nL) (hst : (rest.map fun v => v.category).sum ≤ 8) (hdg : decode cc pc = .ok (.invokevirtual idx, 3)) (kk : ∀ (H1 : Heap) (locs1 : List Loc), Wd Z (cmb σ' μ) s H1 locs1 → True → W p l e R s m args below meth c H1 locs1 cells slots Q (F0 m (pc + 3) ls (.int rv :: rest))) : W p l e R s m args below meth c H locs cells slots Q (F0 m pc ls (.int x4 :: .int x3 :: .int x2 :: .int x1 :: .ref (Z.1 + 0) :: rest)) :=
  x_iv hc hw (c_X_tell hf) yv_X_tell (Nat.le_of_ble_eq_true rfl) rfl rfl hl (RO.call hR (by decide)) hcs rfl hls hst hdg rfl kk
set_option maxRecDepth 10000 in
theorem w_X_event {N : Nat} (hc : Cxz p s m meth c args prog_1_method_10_code "LabourExchange" 6 Z) (hr : meth.sig.returnType = (some .int)) (hR : RO R 8) (hnt : ∀ x ∈ c.exceptionTable.toList, False) (hst : l.stackTraces = false) (hRc : 2 ≤ R.cells ∧ 12 ≤ R.slots) {rv : Option Int32} {σ' : St} : ∀ {x1 : Int32} {x2 : Int32} {x3 : Int32} {x4 : Int32} {σ : St} {H : Heap} {locs : List Loc} {ls : Array Slot} {cells slots : Nat}, cells ≤ 0 ∧ slots ≤ 0 → Wd Z (cmb σ μ) s H locs → lv_has ls 6 [(0, .ref (Z.1 + 0)), (1, .int x1), (2, .int x2), (3, .int x3), (4, .int x4)] → fX_event N x1 x2 x3 x4 σ = some (rv, σ') → W p l e R s m args below meth c H locs cells slots (vx_MQ below (Qz Z (rv.map (fun x => (some (.int x) : Option Value))) (cmb σ' μ)) (Xz Z "java/util/NoSuchElementException" (rv.map (fun x => (some (.int x) : Option Value))) (cmb σ' μ)) args s 2 12 (fun q => Z.1 ≤ q)) (F0 m 0 ls []) := by
  have hx := hc.hx
  have hb := hc.hb
  intro x1 x2 x3 x4 σ H locs ls cells slots hcs hw hl hf
  unfold fX_event at hf
  refine lv_aload_n hx hb (dq tk_X_event 0 rfl) rfl (lv_at hl 0 rfl) ?_
  refine lv_iload_n hx hb (dq tk_X_event 1 rfl) rfl (lv_at hl 2 rfl) ?_
  obtain ⟨q2, h2, hq2⟩ := btR_some hf
  refine KZ_X_requirePerson hst hc hw wd_1028 h2 (hR.mono (by decide)) ⟨by omega, by omega⟩ hl.1 (Nat.le_of_ble_eq_true rfl) (dq tk_X_event 2 rfl) (fun hn ce q H locs hw hce hcv hcl => ?_) (fun u2 hr2 H locs hw => ?_)
  · rcases hq2 with ⟨-, hf⟩ | ⟨r, hrq, -⟩
    · cases hf
      exact z_out (v := none) hc hw hnt rfl hce hcv hcl (by omega) (by omega)
    · rw [hn] at hrq
      cases hrq
  · rcases hq2 with ⟨hn, -⟩ | ⟨r, hrq, hf⟩
    · rw [hn] at hr2
      cases hr2
    rw [hrq] at hr2
    obtain rfl : u2 = r := (Option.some.inj hr2).symm
    refine lv_iload_n hx hb (dq tk_X_event 3 rfl) rfl (lv_at hl 1 rfl) ?_
    refine lv_bipush (v := 7) hx hb (dq tk_X_event 4 rfl) (by decide) ?_
    obtain ⟨q5, h5, hq5⟩ := btR_some hf
    refine KZ_X_requireElement hst hc hw wd_1032 h5 (hR.mono (by decide)) ⟨by omega, by omega⟩ hl.1 (Nat.le_of_ble_eq_true rfl) (dq tk_X_event 5 rfl) (fun hn ce q H locs hw hce hcv hcl => ?_) (fun u5 hr5 H locs hw => ?_)
    · rcases hq5 with ⟨-, hf⟩ | ⟨r, hrq, -⟩
      · cases hf
        exact z_out (v := none) hc hw hnt rfl hce hcv hcl (by omega) (by omega)
      · rw [hn] at hrq
        cases hrq
    · rcases hq5 with ⟨hn, -⟩ | ⟨r, hrq, hf⟩
      · rw [hn] at hr5
        cases hr5
      rw [hrq] at hr5
      obtain rfl : u5 = r := (Option.some.inj hr5).symm
      refine lv_iload_n hx hb (dq tk_X_event 6 rfl) rfl (lv_at hl 3 rfl) ?_
      refine lv_iload_n hx hb (dq tk_X_event 7 rfl) rfl (lv_at hl 1 rfl) ?_
      obtain ⟨r1, h8, hf⟩ := bn1_someZ hf
      refine K_Events_leastNumber hc hw wd_1351 h8 (hR.mono (by decide)) ⟨by omega, by omega⟩ hl.1 (Nat.le_of_ble_eq_true rfl) (dq tk_X_event 8 rfl) (fun H locs hw _ => ?_)
      refine lv_iload_n hx hb (dq tk_X_event 9 rfl) rfl (lv_at hl 1 rfl) ?_
      obtain ⟨r2, h10, hf⟩ := bn1_someZ hf
      refine K_Events_mostNumber hc hw wd_1354 h10 (hR.mono (by decide)) ⟨by omega, by omega⟩ hl.1 (Nat.le_of_ble_eq_true rfl) (dq tk_X_event 10 rfl) (fun H locs hw _ => ?_)
      obtain ⟨r3, h11, hf⟩ := bn1_someZ hf
      refine K_X_outside hc hw wd_701 h11 (hR.mono (by decide)) ⟨by omega, by omega⟩ hl.1 (Nat.le_of_ble_eq_true rfl) (dq tk_X_event 11 rfl) (fun H locs hw _ => ?_)
      refine lv_istore (lv' := [(5, .int r3), (0, .ref (Z.1 + 0)), (1, .int x1), (2, .int x2), (3, .int x3), (4, .int x4)]) hx hb (dq tk_X_event 12 rfl) hl (by decide) rfl (fun ls hl => ?_)
      refine lv_aload_n hx hb (dq tk_X_event 13 rfl) rfl (lv_at hl 1 rfl) ?_
      refine G_X_events hc hw wd_654 (dq tk_X_event 14 rfl) ?_
      refine G_Events_count hc hw wd_221 (dq tk_X_event 15 rfl) ?_
      refine lv_sipush (v := 160) hx hb (dq tk_X_event 16 rfl) (by decide) ?_
      refine lv_icmp_ge (tgt := 58) hx hb (dq tk_X_event 17 rfl) (by decide) (fun c1 => ?_) (fun c1 => ?_)
      · replace hf := if_t hf c1
        refine lv_iconst (v := (-1)) hx hb (dq tk_X_event 26 rfl) (by decide) ?_
        cases hf
        exact z_end (by omega) (by omega) (x_iret hc hw hr (dq tk_X_event 27 rfl))
      · replace hf := if_f hf c1
        refine lv_iload hx hb (dq tk_X_event 18 rfl) (lv_at hl 0 rfl) ?_
        refine lv_if_ne (tgt := 58) hx hb (dq tk_X_event 19 rfl) (by decide) (fun c2 => ?_) (fun c2 => ?_)
        · replace hf := if_f hf c2
          refine lv_iconst (v := (-1)) hx hb (dq tk_X_event 26 rfl) (by decide) ?_
          cases hf
          exact z_end (by omega) (by omega) (x_iret hc hw hr (dq tk_X_event 27 rfl))
        · replace hf := if_t hf c2
          refine lv_iload hx hb (dq tk_X_event 20 rfl) (lv_at hl 5 rfl) ?_
          refine lv_sipush (v := 312) hx hb (dq tk_X_event 21 rfl) (by decide) ?_
          refine lv_aload_n hx hb (dq tk_X_event 22 rfl) rfl (lv_at hl 1 rfl) ?_
          refine G_X_today hc hw wd_664 (dq tk_X_event 23 rfl) ?_
          obtain ⟨r4, h24, hf⟩ := bn1_someZ hf
          refine K_X_outside hc hw wd_701 h24 (hR.mono (by decide)) ⟨by omega, by omega⟩ hl.1 (Nat.le_of_ble_eq_true rfl) (dq tk_X_event 24 rfl) (fun H locs hw _ => ?_)
          refine lv_if_eq (tgt := 60) hx hb (dq tk_X_event 25 rfl) (by decide) (fun c3 => ?_) (fun c3 => ?_)
          · replace hf := if_t hf c3
            refine lv_aload_n hx hb (dq tk_X_event 28 rfl) rfl (lv_at hl 1 rfl) ?_
            refine lv_iload_n hx hb (dq tk_X_event 29 rfl) rfl (lv_at hl 2 rfl) ?_
            refine lv_iload_n hx hb (dq tk_X_event 30 rfl) rfl (lv_at hl 3 rfl) ?_
            refine lv_iload_n hx hb (dq tk_X_event 31 rfl) rfl (lv_at hl 4 rfl) ?_
            refine lv_iload hx hb (dq tk_X_event 32 rfl) (lv_at hl 5 rfl) ?_
            obtain ⟨r5, σ6, h33, hf⟩ := bnd_some hf
            refine K_X_tell hc hw wd_1357 h33 (hR.mono (by decide)) ⟨by omega, by omega⟩ hl.1 (Nat.le_of_ble_eq_true rfl) (dq tk_X_event 33 rfl) (fun H locs hw _ => ?_)
            cases hf
            exact z_end (by omega) (by omega) (x_iret hc hw hr (dq tk_X_event 34 rfl))
          · replace hf := if_f hf c3
            refine lv_iconst (v := (-1)) hx hb (dq tk_X_event 26 rfl) (by decide) ?_
            cases hf
            exact z_end (by omega) (by omega) (x_iret hc hw hr (dq tk_X_event 27 rfl))
theorem c_X_event (hst : l.stackTraces = false) {N : Nat}  {x1 : Int32} {x2 : Int32} {x3 : Int32} {x4 : Int32} {rv : Option Int32} {σ' : St} {σ : St} (hf : fX_event N x1 x2 x3 x4 σ = some (rv, σ')) : Cz l Z y_X_event prog_1_method_10_code 6 (some .int) { frames := 8, cells := 2, slots := 12, locals := 60 * 8 } "java/util/NoSuchElementException" [.ref (Z.1 + 0), .int x1, .int x2, .int x3, .int x4] (cmb σ μ) (rv.map (fun x => (some (.int x) : Option Value))) (cmb σ' μ) := by
  refine z_met (by decide) (Nat.le_of_ble_eq_true rfl) (fun p e s m args below meth c ls hc hnt hr hw hl => ?_)
  exact w_X_event hc hr ⟨Nat.le_refl _, Nat.le_refl _⟩ hnt hst ⟨Nat.le_refl _, Nat.le_refl _⟩ ⟨Nat.zero_le _, Nat.zero_le _⟩ hw hl hf
theorem KZ_X_event (hst0 : l.stackTraces = false) {idx : Nat} {N : Nat}  {x1 : Int32} {x2 : Int32} {x3 : Int32} {x4 : Int32} {rv : Option Int32} {σ' : St} {σ : St} (hc : Cxz p s m meth c args cc own nL Z) (hw : Wd Z (cmb σ μ) s H locs) (hl : Cond.methodLink own idx y_X_event ∈ TB) (hf : fX_event N x1 x2 x3 x4 σ = some (rv, σ')) (hR : RO R (8 + 1)) (hcs : cells + 2 ≤ R.cells ∧ slots + 12 ≤ R.slots) (hls : ls.size = nL) (hst : (rest.map fun v => v.category).sum ≤ 8) (hdg : decode cc pc = .ok (.invokevirtual idx, 3)) (kx : rv = none → ∀ (ce : Cell) (q : Addr) (H1 : Heap) (locs1 : List Loc), Wd Z (cmb σ' μ) s H1 locs1 → H1[q]? = some ce → ce.vm = .none → s.vm.findClass "java/util/NoSuchElementException" = some ce.cls → vx_W p l e R s m args below meth c H1 locs1 (cells + 2) (slots + 12) Q (F0 m pc ls rest) q) (kk : ∀ r1, rv = some r1 → ∀ (H1 : Heap) (locs1 : List Loc), Wd Z (cmb σ' μ) s H1 locs1 → W p l e R s m args below meth c H1 locs1 (cells + 2) (slots + 12) Q (F0 m (pc + 3) ls (.int r1 :: rest))) : W p l e R s m args below meth c H locs cells slots Q (F0 m pc ls (.int x4 :: .int x3 :: .int x2 :: .int x1 :: .ref (Z.1 + 0) :: rest)) := by
  exact z_iv hc hw (c_X_event hst0 hf) yv_X_event (Nat.le_of_ble_eq_true rfl) rfl rfl hl (RO.call hR (by decide)) hcs rfl hls hst hdg rfl (fun hn => kx (by cases rv with | none => rfl | some _ => cases hn)) (fun v hv H1 locs1 hw1 => by cases rv with | none => cases hv | some r1 => cases hv; exact kk r1 rfl H1 locs1 hw1)
set_option maxRecDepth 10000 in
theorem w_X_back {N : Nat} (hc : Cxz p s m meth c args prog_1_method_11_code "LabourExchange" 2 Z) (hr : meth.sig.returnType = (some .boolean)) (hR : RO R 7) (hnt : ∀ x ∈ c.exceptionTable.toList, False) (hst : l.stackTraces = false) (hRc : 1 ≤ R.cells ∧ 6 ≤ R.slots) {rv : Option Int32} {σ' : St} : ∀ {x1 : Int32} {σ : St} {H : Heap} {locs : List Loc} {ls : Array Slot} {cells slots : Nat}, cells ≤ 0 ∧ slots ≤ 0 → Wd Z (cmb σ μ) s H locs → lv_has ls 2 [(0, .ref (Z.1 + 0)), (1, .int x1)] → fX_back N x1 σ = some (rv, σ') → W p l e R s m args below meth c H locs cells slots (vx_MQ below (Qz Z (rv.map (fun x => (some (.int x) : Option Value))) (cmb σ' μ)) (Xz Z "java/util/NoSuchElementException" (rv.map (fun x => (some (.int x) : Option Value))) (cmb σ' μ)) args s 1 6 (fun q => Z.1 ≤ q)) (F0 m 0 ls []) := by
  have hx := hc.hx
  have hb := hc.hb
  intro x1 σ H locs ls cells slots hcs hw hl hf
  unfold fX_back at hf
  refine lv_iload_n hx hb (dq tk_X_back 0 rfl) rfl (lv_at hl 1 rfl) ?_
  refine lv_aload_n hx hb (dq tk_X_back 1 rfl) rfl (lv_at hl 0 rfl) ?_
  refine G_X_events hc hw wd_654 (dq tk_X_back 2 rfl) ?_
  refine G_Events_count hc hw wd_221 (dq tk_X_back 3 rfl) ?_
  obtain ⟨q4, h4, hq4⟩ := btR_some hf
  refine KZ_X_requireElement hst hc hw wd_1032 h4 (hR.mono (by decide)) ⟨by omega, by omega⟩ hl.1 (Nat.le_of_ble_eq_true rfl) (dq tk_X_back 4 rfl) (fun hn ce q H locs hw hce hcv hcl => ?_) (fun u4 hr4 H locs hw => ?_)
  · rcases hq4 with ⟨-, hf⟩ | ⟨r, hrq, -⟩
    · cases hf
      exact z_out (v := none) hc hw hnt rfl hce hcv hcl (by omega) (by omega)
    · rw [hn] at hrq
      cases hrq
  · rcases hq4 with ⟨hn, -⟩ | ⟨r, hrq, hf⟩
    · rw [hn] at hr4
      cases hr4
    rw [hrq] at hr4
    obtain rfl : u4 = r := (Option.some.inj hr4).symm
    refine lv_aload_n hx hb (dq tk_X_back 5 rfl) rfl (lv_at hl 0 rfl) ?_
    refine G_X_events hc hw wd_654 (dq tk_X_back 6 rfl) ?_
    refine G_Events_takenBack hc hw wd_218 (dq tk_X_back 7 rfl) ?_
    refine lv_iload_n hx hb (dq tk_X_back 8 rfl) rfl (lv_at hl 1 rfl) ?_
    obtain ⟨c1, hf⟩ := chk_some hf
    refine AL_Events_takenBack hc hw c1 (dq tk_X_back 9 rfl) ?_
    refine lv_iconst (v := (-1)) hx hb (dq tk_X_back 10 rfl) (by decide) ?_
    refine lv_icmp_eq (tgt := 26) hx hb (dq tk_X_back 11 rfl) (by decide) (fun c2 => ?_) (fun c2 => ?_)
    · replace hf := if_t hf c2
      refine lv_aload_n hx hb (dq tk_X_back 14 rfl) rfl (lv_at hl 0 rfl) ?_
      refine G_X_events hc hw wd_654 (dq tk_X_back 15 rfl) ?_
      refine G_Events_takenBack hc hw wd_218 (dq tk_X_back 16 rfl) ?_
      refine lv_iload_n hx hb (dq tk_X_back 17 rfl) rfl (lv_at hl 1 rfl) ?_
      refine lv_aload_n hx hb (dq tk_X_back 18 rfl) rfl (lv_at hl 0 rfl) ?_
      refine G_X_today hc hw wd_664 (dq tk_X_back 19 rfl) ?_
      obtain ⟨σ1, hσ1, hf⟩ := nm_some hf
      refine AS_Events_takenBack hc hw c1 hσ1 (dq tk_X_back 20 rfl) (fun H locs hw => ?_)
      refine lv_aload_n hx hb (dq tk_X_back 21 rfl) rfl (lv_at hl 0 rfl) ?_
      refine G_X_land hc hw wd_652 (dq tk_X_back 22 rfl) ?_
      refine lv_aload_n hx hb (dq tk_X_back 23 rfl) rfl (lv_at hl 0 rfl) ?_
      refine G_X_events hc hw wd_654 (dq tk_X_back 24 rfl) ?_
      refine G_Events_person hc hw wd_208 (dq tk_X_back 25 rfl) ?_
      refine lv_iload_n hx hb (dq tk_X_back 26 rfl) rfl (lv_at hl 1 rfl) ?_
      refine AL_Events_person hc hw c1 (dq tk_X_back 27 rfl) ?_
      obtain ⟨σ2, h28, hf⟩ := bn1_someZ hf
      refine K_Land_noteChange hc hw wd_1107 h28 (hR.mono (by decide)) ⟨by omega, by omega⟩ hl.1 (Nat.le_of_ble_eq_true rfl) (dq tk_X_back 28 rfl) (fun H locs hw _ => ?_)
      refine lv_iconst (v := 1) hx hb (dq tk_X_back 29 rfl) (by decide) ?_
      cases hf
      exact z_end (by omega) (by omega) (x_zret hc hw hr (by decide) (dq tk_X_back 30 rfl))
    · replace hf := if_f hf c2
      refine lv_iconst (v := 0) hx hb (dq tk_X_back 12 rfl) (by decide) ?_
      cases hf
      exact z_end (by omega) (by omega) (x_zret hc hw hr (by decide) (dq tk_X_back 13 rfl))
theorem c_X_back (hst : l.stackTraces = false) {N : Nat}  {x1 : Int32} {rv : Option Int32} {σ' : St} {σ : St} (hf : fX_back N x1 σ = some (rv, σ')) : Cz l Z y_X_back prog_1_method_11_code 2 (some .boolean) { frames := 7, cells := 1, slots := 6, locals := 60 * 7 } "java/util/NoSuchElementException" [.ref (Z.1 + 0), .int x1] (cmb σ μ) (rv.map (fun x => (some (.int x) : Option Value))) (cmb σ' μ) := by
  refine z_met (by decide) (Nat.le_of_ble_eq_true rfl) (fun p e s m args below meth c ls hc hnt hr hw hl => ?_)
  exact w_X_back hc hr ⟨Nat.le_refl _, Nat.le_refl _⟩ hnt hst ⟨Nat.le_refl _, Nat.le_refl _⟩ ⟨Nat.zero_le _, Nat.zero_le _⟩ hw hl hf
theorem KZ_X_back (hst0 : l.stackTraces = false) {idx : Nat} {N : Nat}  {x1 : Int32} {rv : Option Int32} {σ' : St} {σ : St} (hc : Cxz p s m meth c args cc own nL Z) (hw : Wd Z (cmb σ μ) s H locs) (hl : Cond.methodLink own idx y_X_back ∈ TB) (hf : fX_back N x1 σ = some (rv, σ')) (hR : RO R (7 + 1)) (hcs : cells + 1 ≤ R.cells ∧ slots + 6 ≤ R.slots) (hls : ls.size = nL) (hst : (rest.map fun v => v.category).sum ≤ 8) (hdg : decode cc pc = .ok (.invokevirtual idx, 3)) (kx : rv = none → ∀ (ce : Cell) (q : Addr) (H1 : Heap) (locs1 : List Loc), Wd Z (cmb σ' μ) s H1 locs1 → H1[q]? = some ce → ce.vm = .none → s.vm.findClass "java/util/NoSuchElementException" = some ce.cls → vx_W p l e R s m args below meth c H1 locs1 (cells + 1) (slots + 6) Q (F0 m pc ls rest) q) (kk : ∀ r1, rv = some r1 → ∀ (H1 : Heap) (locs1 : List Loc), Wd Z (cmb σ' μ) s H1 locs1 → W p l e R s m args below meth c H1 locs1 (cells + 1) (slots + 6) Q (F0 m (pc + 3) ls (.int r1 :: rest))) : W p l e R s m args below meth c H locs cells slots Q (F0 m pc ls (.int x1 :: .ref (Z.1 + 0) :: rest)) := by
  exact z_iv hc hw (c_X_back hst0 hf) yv_X_back (Nat.le_of_ble_eq_true rfl) rfl rfl hl (RO.call hR (by decide)) hcs rfl hls hst hdg rfl (fun hn => kx (by cases rv with | none => rfl | some _ => cases hn)) (fun v hv H1 locs1 hw1 => by cases rv with | none => cases hv | some r1 => cases hv; exact kk r1 rfl H1 locs1 hw1)
set_option maxRecDepth 10000 in
theorem w_X_asOfToday {N : Nat} (hc : Cxz p s m meth c args prog_1_method_42_code "LabourExchange" 1 Z) (hr : meth.sig.returnType = (some (.object "LabourExchange$View"))) (hR : RO R 7) {rv : Nat} {σ' : St} : ∀ {σ : St} {H : Heap} {locs : List Loc} {ls : Array Slot}, Wd Z (cmb σ μ) s H locs → lv_has ls 1 [(0, .ref (Z.1 + 0))] → fX_asOfToday N σ = some (rv, σ') → W p l e R s m args below meth c H locs 0 0 (MQ below (Qr Z (some (.ref (Z.1 + (192 + 187 * rv)))) (rv < 2) (cmb σ' μ)) args s 0 0 (fun q => Z.1 ≤ q)) (F0 m 0 ls []) := by
  have hx := hc.hx
  have hb := hc.hb
  intro σ H locs ls hw hl hf
  unfold fX_asOfToday at hf
  refine lv_aload_n hx hb (dq tk_X_asOfToday 0 rfl) rfl (lv_at hl 0 rfl) ?_
  refine G_X_now hc hw wd_659 (dq tk_X_asOfToday 1 rfl) ?_
  refine lv_aload_n hx hb (dq tk_X_asOfToday 2 rfl) rfl (lv_at hl 0 rfl) ?_
  refine G_X_today hc hw wd_664 (dq tk_X_asOfToday 3 rfl) ?_
  refine lv_aload_n hx hb (dq tk_X_asOfToday 4 rfl) rfl (lv_at hl 0 rfl) ?_
  refine G_X_texts hc hw wd_662 (dq tk_X_asOfToday 5 rfl) ?_
  obtain ⟨σ1, h6, hf⟩ := bn1_someZ hf
  refine K_View_settle hc hw (by decide) wd_748 h6 (hR.mono (by decide)) ⟨Nat.zero_le _, Nat.zero_le _⟩ hl.1 (Nat.le_of_ble_eq_true rfl) (dq tk_X_asOfToday 6 rfl) (fun H locs hw _ => ?_)
  refine lv_aload_n hx hb (dq tk_X_asOfToday 7 rfl) rfl (lv_at hl 0 rfl) ?_
  refine G_X_now hc hw wd_659 (dq tk_X_asOfToday 8 rfl) ?_
  cases hf
  exact x_aret (by decide) hc hw hr (dq tk_X_asOfToday 9 rfl)
theorem c_X_asOfToday {N : Nat}  {rv : Nat} {σ' : St} {σ : St} (hf : fX_asOfToday N σ = some (rv, σ')) : Ct l Z y_X_asOfToday prog_1_method_42_code 1 (some (.object "LabourExchange$View")) (rmo (7)) [.ref (Z.1 + 0)] (cmb σ μ) (some (.ref (Z.1 + (192 + 187 * rv)))) (rv < 2) (cmb σ' μ) := by
  refine x_met (by decide) (Nat.le_of_ble_eq_true rfl) (fun p e s m args below meth c ls hc hr hw hl => ?_)
  exact w_X_asOfToday hc hr RO.self hw hl hf
theorem K_X_asOfToday {idx : Nat} {N : Nat}  {rv : Nat} {σ' : St} {σ : St} (hc : Cxz p s m meth c args cc own nL Z) (hw : Wd Z (cmb σ μ) s H locs) (hl : Cond.methodLink own idx y_X_asOfToday ∈ TB) (hf : fX_asOfToday N σ = some (rv, σ')) (hR : RO R ((7) + 1)) (hcs : cells ≤ R.cells ∧ slots ≤ R.slots) (hls : ls.size = nL) (hst : (rest.map fun v => v.category).sum ≤ 8) (hdg : decode cc pc = .ok (.invokevirtual idx, 3)) (kk : ∀ (H1 : Heap) (locs1 : List Loc), Wd Z (cmb σ' μ) s H1 locs1 → (rv < 2) → W p l e R s m args below meth c H1 locs1 cells slots Q (F0 m (pc + 3) ls (.ref (Z.1 + (192 + 187 * rv)) :: rest))) : W p l e R s m args below meth c H locs cells slots Q (F0 m pc ls (.ref (Z.1 + 0) :: rest)) :=
  x_iv hc hw (c_X_asOfToday hf) yv_X_asOfToday (Nat.le_of_ble_eq_true rfl) rfl rfl hl (RO.call hR (by decide)) hcs rfl hls hst hdg rfl kk
set_option maxRecDepth 10000 in
theorem w_X_textsToldBy_4 {N : Nat} (hc : Cxz p s m meth c args prog_1_method_44_code "LabourExchange" 4 Z) (hr : meth.sig.returnType = (some .int)) (hR : RO R 0) {rv : Int32} {σ : St} (n : Nat) : ∀ {x1 : Int32} {x2 : Int32} {x3 : Int32} {H : Heap} {locs : List Loc} {ls : Array Slot}, Wd Z (cmb σ μ) s H locs → lv_has ls 4 [(0, .ref (Z.1 + 0)), (1, .int x1), (2, .int x2), (3, .int x3)] → fX_textsToldBy_4 N n x1 x2 x3 σ = some rv → W p l e R s m args below meth c H locs 0 0 (MQ below (Qr Z (some (.int rv)) True (cmb σ μ)) args s 0 0 (fun q => Z.1 ≤ q)) (F0 m 4 ls []) := by
  have hx := hc.hx
  have hb := hc.hb
  induction n with
  | zero =>
    intro x1 x2 x3 H locs ls hw hl hf
    have hf : none = some _ := hf
    cases hf
  | succ n ih =>
    intro x1 x2 x3 H locs ls hw hl hf
    unfold fX_textsToldBy_4 at hf
    refine lv_iload_n hx hb (dq tk_X_textsToldBy 4 rfl) rfl (lv_at hl 3 rfl) ?_
    refine lv_aload_n hx hb (dq tk_X_textsToldBy 5 rfl) rfl (lv_at hl 0 rfl) ?_
    refine G_X_texts hc hw wd_662 (dq tk_X_textsToldBy 6 rfl) ?_
    refine lv_icmp_ge (tgt := 34) hx hb (dq tk_X_textsToldBy 7 rfl) (by decide) (fun c1 => ?_) (fun c1 => ?_)
    · replace hf := if_t hf c1
      refine lv_iload_n hx hb (dq tk_X_textsToldBy 18 rfl) rfl (lv_at hl 2 rfl) ?_
      cases hf
      exact x_iret hc hw hr (dq tk_X_textsToldBy 19 rfl)
    · replace hf := if_f hf c1
      refine lv_aload_n hx hb (dq tk_X_textsToldBy 8 rfl) rfl (lv_at hl 0 rfl) ?_
      refine G_X_acts hc hw wd_655 (dq tk_X_textsToldBy 9 rfl) ?_
      refine lv_iload_n hx hb (dq tk_X_textsToldBy 10 rfl) rfl (lv_at hl 3 rfl) ?_
      obtain ⟨c2, hf⟩ := chk_some hf
      refine AL_X_acts hc hw c2 (dq tk_X_textsToldBy 11 rfl) ?_
      refine G_Act_told (inb_lt c2) hc hw wd_448 (dq tk_X_textsToldBy 12 rfl) ?_
      refine lv_iload_n hx hb (dq tk_X_textsToldBy 13 rfl) rfl (lv_at hl 1 rfl) ?_
      refine lv_icmp_gt (tgt := 28) hx hb (dq tk_X_textsToldBy 14 rfl) (by decide) (fun c3 => ?_) (fun c3 => ?_)
      · replace hf := if_t hf c3
        refine lv_iinc (v := (x3 + 1)) (lv' := [(3, .int (x3 + 1)), (0, .ref (Z.1 + 0)), (1, .int x1), (2, .int x2)]) hx hb (dq tk_X_textsToldBy 16 rfl) hl (k := 3) rfl rfl (by decide) rfl (fun ls hl => ?_)
        refine lv_goto (tgt := 4) hx hb (dq tk_X_textsToldBy 17 rfl) (by decide) ?_
        exact ih hw (lv_sub hl [1, 2, 3, 0] rfl) hf
      · replace hf := if_f hf c3
        refine lv_iinc (v := (x2 + 1)) (lv' := [(2, .int (x2 + 1)), (0, .ref (Z.1 + 0)), (1, .int x1), (3, .int x3)]) hx hb (dq tk_X_textsToldBy 15 rfl) hl (k := 2) rfl rfl (by decide) rfl (fun ls hl => ?_)
        refine lv_iinc (v := (x3 + 1)) (lv' := [(3, .int (x3 + 1)), (2, .int (x2 + 1)), (0, .ref (Z.1 + 0)), (1, .int x1)]) hx hb (dq tk_X_textsToldBy 16 rfl) hl (k := 3) rfl rfl (by decide) rfl (fun ls hl => ?_)
        refine lv_goto (tgt := 4) hx hb (dq tk_X_textsToldBy 17 rfl) (by decide) ?_
        exact ih hw (lv_sub hl [2, 3, 1, 0] rfl) hf
set_option maxRecDepth 10000 in
theorem w_X_textsToldBy {N : Nat} (hc : Cxz p s m meth c args prog_1_method_44_code "LabourExchange" 4 Z) (hr : meth.sig.returnType = (some .int)) (hR : RO R 0) {rv : Int32} {σ : St} : ∀ {x1 : Int32} {H : Heap} {locs : List Loc} {ls : Array Slot}, Wd Z (cmb σ μ) s H locs → lv_has ls 4 [(0, .ref (Z.1 + 0)), (1, .int x1)] → fX_textsToldBy N x1 σ = some rv → W p l e R s m args below meth c H locs 0 0 (MQ below (Qr Z (some (.int rv)) True (cmb σ μ)) args s 0 0 (fun q => Z.1 ≤ q)) (F0 m 0 ls []) := by
  have hx := hc.hx
  have hb := hc.hb
  intro x1 H locs ls hw hl hf
  unfold fX_textsToldBy at hf
  refine lv_iconst (v := 0) hx hb (dq tk_X_textsToldBy 0 rfl) (by decide) ?_
  refine lv_istore_n (lv' := [(2, .int 0), (0, .ref (Z.1 + 0)), (1, .int x1)]) hx hb (dq tk_X_textsToldBy 1 rfl) rfl hl (by decide) rfl (fun ls hl => ?_)
  refine lv_iconst (v := 0) hx hb (dq tk_X_textsToldBy 2 rfl) (by decide) ?_
  refine lv_istore_n (lv' := [(3, .int 0), (2, .int 0), (0, .ref (Z.1 + 0)), (1, .int x1)]) hx hb (dq tk_X_textsToldBy 3 rfl) rfl hl (by decide) rfl (fun ls hl => ?_)
  exact w_X_textsToldBy_4 hc hr hR N hw (lv_sub hl [2, 3, 1, 0] rfl) hf
theorem c_X_textsToldBy {N : Nat}  {x1 : Int32} {rv : Int32} {σ : St} (hf : fX_textsToldBy N x1 σ = some rv) : Ct l Z y_X_textsToldBy prog_1_method_44_code 4 (some .int) (rmo (0)) [.ref (Z.1 + 0), .int x1] (cmb σ μ) (some (.int rv)) True (cmb σ μ) := by
  refine x_met (by decide) (Nat.le_of_ble_eq_true rfl) (fun p e s m args below meth c ls hc hr hw hl => ?_)
  exact w_X_textsToldBy hc hr RO.self hw hl hf
theorem K_X_textsToldBy {idx : Nat} {N : Nat}  {x1 : Int32} {rv : Int32} {σ : St} (hc : Cxz p s m meth c args cc own nL Z) (hw : Wd Z (cmb σ μ) s H locs) (hl : Cond.methodLink own idx y_X_textsToldBy ∈ TB) (hf : fX_textsToldBy N x1 σ = some rv) (hR : RO R ((0) + 1)) (hcs : cells ≤ R.cells ∧ slots ≤ R.slots) (hls : ls.size = nL) (hst : (rest.map fun v => v.category).sum ≤ 8) (hdg : decode cc pc = .ok (.invokevirtual idx, 3)) (kk : ∀ (H1 : Heap) (locs1 : List Loc), Wd Z (cmb σ μ) s H1 locs1 → True → W p l e R s m args below meth c H1 locs1 cells slots Q (F0 m (pc + 3) ls (.int rv :: rest))) : W p l e R s m args below meth c H locs cells slots Q (F0 m pc ls (.int x1 :: .ref (Z.1 + 0) :: rest)) :=
  x_iv hc hw (c_X_textsToldBy hf) yv_X_textsToldBy (Nat.le_of_ble_eq_true rfl) rfl rfl hl (RO.call hR (by decide)) hcs rfl hls hst hdg rfl kk
set_option maxRecDepth 10000 in
theorem w_X_asOfTheDay {N : Nat} (hc : Cxz p s m meth c args prog_1_method_43_code "LabourExchange" 2 Z) (hr : meth.sig.returnType = (some (.object "LabourExchange$View"))) (hR : RO R 8) {rv : Nat} {σ' : St} : ∀ {σ : St} {H : Heap} {locs : List Loc} {ls : Array Slot}, Wd Z (cmb σ μ) s H locs → lv_has ls 2 [(0, .ref (Z.1 + 0))] → fX_asOfTheDay N σ = some (rv, σ') → W p l e R s m args below meth c H locs 0 0 (MQ below (Qr Z (some (.ref (Z.1 + (192 + 187 * rv)))) (rv < 2) (cmb σ' μ)) args s 0 0 (fun q => Z.1 ≤ q)) (F0 m 0 ls []) := by
  have hx := hc.hx
  have hb := hc.hb
  intro σ H locs ls hw hl hf
  unfold fX_asOfTheDay at hf
  refine lv_aload_n hx hb (dq tk_X_asOfTheDay 0 rfl) rfl (lv_at hl 0 rfl) ?_
  obtain ⟨r1, h1, hf⟩ := bn1_someZ hf
  refine K_X_dayKnown hc hw wd_1129 h1 (hR.mono (by decide)) ⟨Nat.zero_le _, Nat.zero_le _⟩ hl.1 (Nat.le_of_ble_eq_true rfl) (dq tk_X_asOfTheDay 1 rfl) (fun H locs hw _ => ?_)
  refine lv_istore_n (lv' := [(1, .int r1), (0, .ref (Z.1 + 0))]) hx hb (dq tk_X_asOfTheDay 2 rfl) rfl hl (by decide) rfl (fun ls hl => ?_)
  refine lv_iload_n hx hb (dq tk_X_asOfTheDay 3 rfl) rfl (lv_at hl 0 rfl) ?_
  refine lv_aload_n hx hb (dq tk_X_asOfTheDay 4 rfl) rfl (lv_at hl 1 rfl) ?_
  refine G_X_today hc hw wd_664 (dq tk_X_asOfTheDay 5 rfl) ?_
  refine lv_icmp_ne (tgt := 18) hx hb (dq tk_X_asOfTheDay 6 rfl) (by decide) (fun c1 => ?_) (fun c1 => ?_)
  · replace hf := if_f hf c1
    refine lv_aload_n hx hb (dq tk_X_asOfTheDay 10 rfl) rfl (lv_at hl 1 rfl) ?_
    refine G_X_then hc hw wd_660 (dq tk_X_asOfTheDay 11 rfl) ?_
    refine lv_iload_n hx hb (dq tk_X_asOfTheDay 12 rfl) rfl (lv_at hl 0 rfl) ?_
    refine lv_aload_n hx hb (dq tk_X_asOfTheDay 13 rfl) rfl (lv_at hl 1 rfl) ?_
    refine lv_iload_n hx hb (dq tk_X_asOfTheDay 14 rfl) rfl (lv_at hl 0 rfl) ?_
    obtain ⟨r2, h15, hf⟩ := bn1_someZ hf
    refine K_X_textsToldBy hc hw wd_1388 h15 (hR.mono (by decide)) ⟨Nat.zero_le _, Nat.zero_le _⟩ hl.1 (Nat.le_of_ble_eq_true rfl) (dq tk_X_asOfTheDay 15 rfl) (fun H locs hw _ => ?_)
    obtain ⟨σ3, h16, hf⟩ := bn1_someZ hf
    refine K_View_settle hc hw (by decide) wd_748 h16 (hR.mono (by decide)) ⟨Nat.zero_le _, Nat.zero_le _⟩ hl.1 (Nat.le_of_ble_eq_true rfl) (dq tk_X_asOfTheDay 16 rfl) (fun H locs hw _ => ?_)
    refine lv_aload_n hx hb (dq tk_X_asOfTheDay 17 rfl) rfl (lv_at hl 1 rfl) ?_
    refine G_X_then hc hw wd_660 (dq tk_X_asOfTheDay 18 rfl) ?_
    cases hf
    exact x_aret (by decide) hc hw hr (dq tk_X_asOfTheDay 19 rfl)
  · replace hf := if_t hf c1
    refine lv_aload_n hx hb (dq tk_X_asOfTheDay 7 rfl) rfl (lv_at hl 1 rfl) ?_
    obtain ⟨r4, σ5, h8, hf⟩ := bnd_some hf
    refine K_X_asOfToday hc hw wd_744 h8 (hR.mono (by decide)) ⟨Nat.zero_le _, Nat.zero_le _⟩ hl.1 (Nat.le_of_ble_eq_true rfl) (dq tk_X_asOfTheDay 8 rfl) (fun H locs hw hr4 => ?_)
    cases hf
    exact x_aret hr4 hc hw hr (dq tk_X_asOfTheDay 9 rfl)
theorem c_X_asOfTheDay {N : Nat}  {rv : Nat} {σ' : St} {σ : St} (hf : fX_asOfTheDay N σ = some (rv, σ')) : Ct l Z y_X_asOfTheDay prog_1_method_43_code 2 (some (.object "LabourExchange$View")) (rmo (8)) [.ref (Z.1 + 0)] (cmb σ μ) (some (.ref (Z.1 + (192 + 187 * rv)))) (rv < 2) (cmb σ' μ) := by
  refine x_met (by decide) (Nat.le_of_ble_eq_true rfl) (fun p e s m args below meth c ls hc hr hw hl => ?_)
  exact w_X_asOfTheDay hc hr RO.self hw hl hf
theorem K_X_asOfTheDay {idx : Nat} {N : Nat}  {rv : Nat} {σ' : St} {σ : St} (hc : Cxz p s m meth c args cc own nL Z) (hw : Wd Z (cmb σ μ) s H locs) (hl : Cond.methodLink own idx y_X_asOfTheDay ∈ TB) (hf : fX_asOfTheDay N σ = some (rv, σ')) (hR : RO R ((8) + 1)) (hcs : cells ≤ R.cells ∧ slots ≤ R.slots) (hls : ls.size = nL) (hst : (rest.map fun v => v.category).sum ≤ 8) (hdg : decode cc pc = .ok (.invokevirtual idx, 3)) (kk : ∀ (H1 : Heap) (locs1 : List Loc), Wd Z (cmb σ' μ) s H1 locs1 → (rv < 2) → W p l e R s m args below meth c H1 locs1 cells slots Q (F0 m (pc + 3) ls (.ref (Z.1 + (192 + 187 * rv)) :: rest))) : W p l e R s m args below meth c H locs cells slots Q (F0 m pc ls (.ref (Z.1 + 0) :: rest)) :=
  x_iv hc hw (c_X_asOfTheDay hf) yv_X_asOfTheDay (Nat.le_of_ble_eq_true rfl) rfl rfl hl (RO.call hR (by decide)) hcs rfl hls hst hdg rfl kk
set_option maxRecDepth 10000 in
theorem w_X_doesSomething {N : Nat} (hc : Cxz p s m meth c args prog_1_method_46_code "LabourExchange" 3 Z) (hr : meth.sig.returnType = (some .boolean)) (hR : RO R 9) {rv : Int32} {σ' : St} : ∀ {x1 : Int32} {σ : St} {H : Heap} {locs : List Loc} {ls : Array Slot}, Wd Z (cmb σ μ) s H locs → lv_has ls 3 [(0, .ref (Z.1 + 0)), (1, .int x1)] → fX_doesSomething N x1 σ = some (rv, σ') → W p l e R s m args below meth c H locs 0 0 (MQ below (Qr Z (some (.int rv)) True (cmb σ' μ)) args s 0 0 (fun q => Z.1 ≤ q)) (F0 m 0 ls []) := by
  have hx := hc.hx
  have hb := hc.hb
  intro x1 σ H locs ls hw hl hf
  unfold fX_doesSomething at hf
  refine lv_aload_n hx hb (dq tk_X_doesSomething 0 rfl) rfl (lv_at hl 0 rfl) ?_
  refine G_X_events hc hw wd_654 (dq tk_X_doesSomething 1 rfl) ?_
  refine G_Events_kind hc hw wd_205 (dq tk_X_doesSomething 2 rfl) ?_
  refine lv_iload_n hx hb (dq tk_X_doesSomething 3 rfl) rfl (lv_at hl 1 rfl) ?_
  obtain ⟨c1, hf⟩ := chk_some hf
  refine AL_Events_kind hc hw c1 (dq tk_X_doesSomething 4 rfl) ?_
  refine lv_bipush (v := 8) hx hb (dq tk_X_doesSomething 5 rfl) (by decide) ?_
  refine lv_icmp_ne (tgt := 27) hx hb (dq tk_X_doesSomething 6 rfl) (by decide) (fun c2 => ?_) (fun c2 => ?_)
  · replace hf := if_f hf c2
    refine lv_aload_n hx hb (dq tk_X_doesSomething 14 rfl) rfl (lv_at hl 0 rfl) ?_
    obtain ⟨r1, σ2, h15, hf⟩ := bnd_some hf
    refine K_X_asOfTheDay hc hw wd_1384 h15 (hR.mono (by decide)) ⟨Nat.zero_le _, Nat.zero_le _⟩ hl.1 (Nat.le_of_ble_eq_true rfl) (dq tk_X_doesSomething 15 rfl) (fun H locs hw hr1 => ?_)
    refine lv_astore_n (lv' := [(2, .ref (Z.1 + (192 + 187 * r1))), (0, .ref (Z.1 + 0)), (1, .int x1)]) hx hb (dq tk_X_doesSomething 16 rfl) rfl hl (by decide) rfl (fun ls hl => ?_)
    refine lv_aload_n hx hb (dq tk_X_doesSomething 17 rfl) rfl (lv_at hl 0 rfl) ?_
    refine lv_aload_n hx hb (dq tk_X_doesSomething 18 rfl) rfl (lv_at hl 1 rfl) ?_
    refine G_X_events hc hw wd_654 (dq tk_X_doesSomething 19 rfl) ?_
    refine G_Events_person hc hw wd_208 (dq tk_X_doesSomething 20 rfl) ?_
    refine lv_iload_n hx hb (dq tk_X_doesSomething 21 rfl) rfl (lv_at hl 2 rfl) ?_
    refine AL_Events_person hc hw c1 (dq tk_X_doesSomething 22 rfl) ?_
    obtain ⟨r3, σ4, h23, hf⟩ := bnd_some hf
    refine K_View_lifeOf hc hw hr1 wd_779 h23 (hR.mono (by decide)) ⟨Nat.zero_le _, Nat.zero_le _⟩ hl.1 (Nat.le_of_ble_eq_true rfl) (dq tk_X_doesSomething 23 rfl) (fun H locs hw hr3 => ?_)
    refine lv_pop hx hb (dq tk_X_doesSomething 24 rfl) rfl ?_
    refine lv_aload_n hx hb (dq tk_X_doesSomething 25 rfl) rfl (lv_at hl 0 rfl) ?_
    refine G_View_does hr1 hc hw wd_626 (dq tk_X_doesSomething 26 rfl) ?_
    refine lv_iload_n hx hb (dq tk_X_doesSomething 27 rfl) rfl (lv_at hl 2 rfl) ?_
    refine AL_View_does hr1 hc hw c1 (dq tk_X_doesSomething 28 rfl) ?_
    cases hf
    exact x_zret hc hw hr rfl (dq tk_X_doesSomething 29 rfl)
  · replace hf := if_t hf c2
    refine lv_aload_n hx hb (dq tk_X_doesSomething 7 rfl) rfl (lv_at hl 0 rfl) ?_
    refine G_X_events hc hw wd_654 (dq tk_X_doesSomething 8 rfl) ?_
    refine lv_iload_n hx hb (dq tk_X_doesSomething 9 rfl) rfl (lv_at hl 1 rfl) ?_
    refine lv_aload_n hx hb (dq tk_X_doesSomething 10 rfl) rfl (lv_at hl 0 rfl) ?_
    obtain ⟨r5, h11, hf⟩ := bn1_someZ hf
    refine K_X_dayKnown hc hw wd_1129 h11 (hR.mono (by decide)) ⟨Nat.zero_le _, Nat.zero_le _⟩ hl.1 (Nat.le_of_ble_eq_true rfl) (dq tk_X_doesSomething 11 rfl) (fun H locs hw _ => ?_)
    obtain ⟨r6, h12, hf⟩ := bn1_someZ hf
    refine K_Events_isKnown hc hw wd_1383 h12 (hR.mono (by decide)) ⟨Nat.zero_le _, Nat.zero_le _⟩ hl.1 (Nat.le_of_ble_eq_true rfl) (dq tk_X_doesSomething 12 rfl) (fun H locs hw _ => ?_)
    cases hf
    exact x_zret hc hw hr rfl (dq tk_X_doesSomething 13 rfl)
theorem c_X_doesSomething {N : Nat}  {x1 : Int32} {rv : Int32} {σ' : St} {σ : St} (hf : fX_doesSomething N x1 σ = some (rv, σ')) : Ct l Z y_X_doesSomething prog_1_method_46_code 3 (some .boolean) (rmo (9)) [.ref (Z.1 + 0), .int x1] (cmb σ μ) (some (.int rv)) True (cmb σ' μ) := by
  refine x_met (by decide) (Nat.le_of_ble_eq_true rfl) (fun p e s m args below meth c ls hc hr hw hl => ?_)
  exact w_X_doesSomething hc hr RO.self hw hl hf
theorem K_X_doesSomething {idx : Nat} {N : Nat}  {x1 : Int32} {rv : Int32} {σ' : St} {σ : St} (hc : Cxz p s m meth c args cc own nL Z) (hw : Wd Z (cmb σ μ) s H locs) (hl : Cond.methodLink own idx y_X_doesSomething ∈ TB) (hf : fX_doesSomething N x1 σ = some (rv, σ')) (hR : RO R ((9) + 1)) (hcs : cells ≤ R.cells ∧ slots ≤ R.slots) (hls : ls.size = nL) (hst : (rest.map fun v => v.category).sum ≤ 8) (hdg : decode cc pc = .ok (.invokevirtual idx, 3)) (kk : ∀ (H1 : Heap) (locs1 : List Loc), Wd Z (cmb σ' μ) s H1 locs1 → True → W p l e R s m args below meth c H1 locs1 cells slots Q (F0 m (pc + 3) ls (.int rv :: rest))) : W p l e R s m args below meth c H locs cells slots Q (F0 m pc ls (.int x1 :: .ref (Z.1 + 0) :: rest)) :=
  x_iv hc hw (c_X_doesSomething hf) yv_X_doesSomething (Nat.le_of_ble_eq_true rfl) rfl rfl hl (RO.call hR (by decide)) hcs rfl hls hst hdg rfl kk
set_option maxRecDepth 10000 in
theorem w_X_told {N : Nat} (hc : Cxz p s m meth c args prog_1_method_12_code "LabourExchange" 3 Z) (hr : meth.sig.returnType = (some .int)) (hR : RO R 10) (hnt : ∀ x ∈ c.exceptionTable.toList, False) (hst : l.stackTraces = false) (hRc : 2 ≤ R.cells ∧ 12 ≤ R.slots) {rv : Option Int32} {σ' : St} : ∀ {x1 : Int32} {x2 : Int32} {σ : St} {H : Heap} {locs : List Loc} {ls : Array Slot} {cells slots : Nat}, cells ≤ 0 ∧ slots ≤ 0 → Wd Z (cmb σ μ) s H locs → lv_has ls 3 [(0, .ref (Z.1 + 0)), (1, .int x1), (2, .int x2)] → fX_told N x1 x2 σ = some (rv, σ') → W p l e R s m args below meth c H locs cells slots (vx_MQ below (Qz Z (rv.map (fun x => (some (.int x) : Option Value))) (cmb σ' μ)) (Xz Z "java/util/NoSuchElementException" (rv.map (fun x => (some (.int x) : Option Value))) (cmb σ' μ)) args s 2 12 (fun q => Z.1 ≤ q)) (F0 m 0 ls []) := by
  have hx := hc.hx
  have hb := hc.hb
  intro x1 x2 σ H locs ls cells slots hcs hw hl hf
  unfold fX_told at hf
  refine lv_iload_n hx hb (dq tk_X_told 0 rfl) rfl (lv_at hl 1 rfl) ?_
  refine lv_aload_n hx hb (dq tk_X_told 1 rfl) rfl (lv_at hl 0 rfl) ?_
  refine G_X_events hc hw wd_654 (dq tk_X_told 2 rfl) ?_
  refine G_Events_count hc hw wd_221 (dq tk_X_told 3 rfl) ?_
  obtain ⟨q4, h4, hq4⟩ := btR_some hf
  refine KZ_X_requireElement hst hc hw wd_1032 h4 (hR.mono (by decide)) ⟨by omega, by omega⟩ hl.1 (Nat.le_of_ble_eq_true rfl) (dq tk_X_told 4 rfl) (fun hn ce q H locs hw hce hcv hcl => ?_) (fun u4 hr4 H locs hw => ?_)
  · rcases hq4 with ⟨-, hf⟩ | ⟨r, hrq, -⟩
    · cases hf
      exact z_out (v := none) hc hw hnt rfl hce hcv hcl (by omega) (by omega)
    · rw [hn] at hrq
      cases hrq
  · rcases hq4 with ⟨hn, -⟩ | ⟨r, hrq, hf⟩
    · rw [hn] at hr4
      cases hr4
    rw [hrq] at hr4
    obtain rfl : u4 = r := (Option.some.inj hr4).symm
    refine lv_iload_n hx hb (dq tk_X_told 5 rfl) rfl (lv_at hl 2 rfl) ?_
    by_cases c8_0 : x2 = 0
    · replace hf := if_t hf c8_0
      refine lv_tableIn (tgt := 56) hx hb (dq tk_X_told 6 rfl) (by rw [c8_0]; decide) (by rw [c8_0]; decide) (by rw [c8_0]; first | done | rfl) (by decide) ?_
      refine lv_aload_n hx hb (dq tk_X_told 7 rfl) rfl (lv_at hl 0 rfl) ?_
      refine G_X_events hc hw wd_654 (dq tk_X_told 8 rfl) ?_
      refine G_Events_kind hc hw wd_205 (dq tk_X_told 9 rfl) ?_
      refine lv_iload_n hx hb (dq tk_X_told 10 rfl) rfl (lv_at hl 1 rfl) ?_
      obtain ⟨c1, hf⟩ := chk_some hf
      refine AL_Events_kind hc hw c1 (dq tk_X_told 11 rfl) ?_
      cases hf
      exact z_end (by omega) (by omega) (x_iret hc hw hr (dq tk_X_told 12 rfl))
    replace hf := if_f hf c8_0
    by_cases c8_1 : x2 = 1
    · replace hf := if_t hf c8_1
      refine lv_tableIn (tgt := 66) hx hb (dq tk_X_told 6 rfl) (by rw [c8_1]; decide) (by rw [c8_1]; decide) (by rw [c8_1]; first | done | rfl) (by decide) ?_
      refine lv_aload_n hx hb (dq tk_X_told 13 rfl) rfl (lv_at hl 0 rfl) ?_
      refine G_X_events hc hw wd_654 (dq tk_X_told 14 rfl) ?_
      refine G_Events_person hc hw wd_208 (dq tk_X_told 15 rfl) ?_
      refine lv_iload_n hx hb (dq tk_X_told 16 rfl) rfl (lv_at hl 1 rfl) ?_
      obtain ⟨c2, hf⟩ := chk_some hf
      refine AL_Events_person hc hw c2 (dq tk_X_told 17 rfl) ?_
      cases hf
      exact z_end (by omega) (by omega) (x_iret hc hw hr (dq tk_X_told 18 rfl))
    replace hf := if_f hf c8_1
    by_cases c8_2 : x2 = 2
    · replace hf := if_t hf c8_2
      refine lv_tableIn (tgt := 76) hx hb (dq tk_X_told 6 rfl) (by rw [c8_2]; decide) (by rw [c8_2]; decide) (by rw [c8_2]; first | done | rfl) (by decide) ?_
      refine lv_aload_n hx hb (dq tk_X_told 19 rfl) rfl (lv_at hl 0 rfl) ?_
      refine G_X_events hc hw wd_654 (dq tk_X_told 20 rfl) ?_
      refine G_Events_number hc hw wd_211 (dq tk_X_told 21 rfl) ?_
      refine lv_iload_n hx hb (dq tk_X_told 22 rfl) rfl (lv_at hl 1 rfl) ?_
      obtain ⟨c3, hf⟩ := chk_some hf
      refine AL_Events_number hc hw c3 (dq tk_X_told 23 rfl) ?_
      cases hf
      exact z_end (by omega) (by omega) (x_iret hc hw hr (dq tk_X_told 24 rfl))
    replace hf := if_f hf c8_2
    by_cases c8_3 : x2 = 3
    · replace hf := if_t hf c8_3
      refine lv_tableIn (tgt := 86) hx hb (dq tk_X_told 6 rfl) (by rw [c8_3]; decide) (by rw [c8_3]; decide) (by rw [c8_3]; first | done | rfl) (by decide) ?_
      refine lv_aload_n hx hb (dq tk_X_told 25 rfl) rfl (lv_at hl 0 rfl) ?_
      refine G_X_events hc hw wd_654 (dq tk_X_told 26 rfl) ?_
      refine G_Events_from hc hw wd_214 (dq tk_X_told 27 rfl) ?_
      refine lv_iload_n hx hb (dq tk_X_told 28 rfl) rfl (lv_at hl 1 rfl) ?_
      obtain ⟨c4, hf⟩ := chk_some hf
      refine AL_Events_from hc hw c4 (dq tk_X_told 29 rfl) ?_
      cases hf
      exact z_end (by omega) (by omega) (x_iret hc hw hr (dq tk_X_told 30 rfl))
    replace hf := if_f hf c8_3
    by_cases c8_4 : x2 = 4
    · replace hf := if_t hf c8_4
      refine lv_tableIn (tgt := 96) hx hb (dq tk_X_told 6 rfl) (by rw [c8_4]; decide) (by rw [c8_4]; decide) (by rw [c8_4]; first | done | rfl) (by decide) ?_
      refine lv_aload_n hx hb (dq tk_X_told 31 rfl) rfl (lv_at hl 0 rfl) ?_
      refine G_X_events hc hw wd_654 (dq tk_X_told 32 rfl) ?_
      refine G_Events_told hc hw wd_216 (dq tk_X_told 33 rfl) ?_
      refine lv_iload_n hx hb (dq tk_X_told 34 rfl) rfl (lv_at hl 1 rfl) ?_
      obtain ⟨c5, hf⟩ := chk_some hf
      refine AL_Events_told hc hw c5 (dq tk_X_told 35 rfl) ?_
      cases hf
      exact z_end (by omega) (by omega) (x_iret hc hw hr (dq tk_X_told 36 rfl))
    replace hf := if_f hf c8_4
    by_cases c8_5 : x2 = 5
    · replace hf := if_t hf c8_5
      refine lv_tableIn (tgt := 106) hx hb (dq tk_X_told 6 rfl) (by rw [c8_5]; decide) (by rw [c8_5]; decide) (by rw [c8_5]; first | done | rfl) (by decide) ?_
      refine lv_aload_n hx hb (dq tk_X_told 37 rfl) rfl (lv_at hl 0 rfl) ?_
      refine G_X_events hc hw wd_654 (dq tk_X_told 38 rfl) ?_
      refine G_Events_takenBack hc hw wd_218 (dq tk_X_told 39 rfl) ?_
      refine lv_iload_n hx hb (dq tk_X_told 40 rfl) rfl (lv_at hl 1 rfl) ?_
      obtain ⟨c6, hf⟩ := chk_some hf
      refine AL_Events_takenBack hc hw c6 (dq tk_X_told 41 rfl) ?_
      cases hf
      exact z_end (by omega) (by omega) (x_iret hc hw hr (dq tk_X_told 42 rfl))
    replace hf := if_f hf c8_5
    by_cases c8_6 : x2 = 6
    · replace hf := if_t hf c8_6
      refine lv_tableIn (tgt := 116) hx hb (dq tk_X_told 6 rfl) (by rw [c8_6]; decide) (by rw [c8_6]; decide) (by rw [c8_6]; first | done | rfl) (by decide) ?_
      refine lv_aload_n hx hb (dq tk_X_told 43 rfl) rfl (lv_at hl 0 rfl) ?_
      refine lv_iload_n hx hb (dq tk_X_told 44 rfl) rfl (lv_at hl 1 rfl) ?_
      obtain ⟨r1, σ2, h45, hf⟩ := bnd_some hf
      refine K_X_doesSomething hc hw wd_1379 h45 (hR.mono (by decide)) ⟨by omega, by omega⟩ hl.1 (Nat.le_of_ble_eq_true rfl) (dq tk_X_told 45 rfl) (fun H locs hw _ => ?_)
      refine lv_if_eq (tgt := 128) hx hb (dq tk_X_told 46 rfl) (by decide) (fun c7 => ?_) (fun c7 => ?_)
      · replace hf := if_t hf c7
        refine lv_iconst (v := 0) hx hb (dq tk_X_told 49 rfl) (by decide) ?_
        cases hf
        exact z_end (by omega) (by omega) (x_iret hc hw hr (dq tk_X_told 50 rfl))
      · replace hf := if_f hf c7
        refine lv_iconst (v := 1) hx hb (dq tk_X_told 47 rfl) (by decide) ?_
        refine lv_goto (tgt := 129) hx hb (dq tk_X_told 48 rfl) (by decide) ?_
        cases hf
        exact z_end (by omega) (by omega) (x_iret hc hw hr (dq tk_X_told 50 rfl))
    replace hf := if_f hf c8_6
    refine lv_tableOut (tgt := 130) hx hb (dq tk_X_told 6 rfl) (sw_out (fun k h1 h2 => by
      have h3 : k = 0 ∨ k = 1 ∨ k = 2 ∨ k = 3 ∨ k = 4 ∨ k = 5 ∨ k = 6 := by omega
      rcases h3 with rfl | rfl | rfl | rfl | rfl | rfl | rfl
      · exact c8_0
      · exact c8_1
      · exact c8_2
      · exact c8_3
      · exact c8_4
      · exact c8_5
      · exact c8_6
      )) (by decide) ?_
    cases hf
    exact z_throwN hc hw hnt hst hl.1 (dq tk_X_told 51 rfl) (dq tk_X_told 52 rfl) (dq tk_X_told 53 rfl) (dq tk_X_told 54 rfl) (hR.mono (by decide)) (by omega) (by omega) (by omega) (by omega)
theorem c_X_told (hst : l.stackTraces = false) {N : Nat}  {x1 : Int32} {x2 : Int32} {rv : Option Int32} {σ' : St} {σ : St} (hf : fX_told N x1 x2 σ = some (rv, σ')) : Cz l Z y_X_told prog_1_method_12_code 3 (some .int) { frames := 10, cells := 2, slots := 12, locals := 60 * 10 } "java/util/NoSuchElementException" [.ref (Z.1 + 0), .int x1, .int x2] (cmb σ μ) (rv.map (fun x => (some (.int x) : Option Value))) (cmb σ' μ) := by
  refine z_met (by decide) (Nat.le_of_ble_eq_true rfl) (fun p e s m args below meth c ls hc hnt hr hw hl => ?_)
  exact w_X_told hc hr ⟨Nat.le_refl _, Nat.le_refl _⟩ hnt hst ⟨Nat.le_refl _, Nat.le_refl _⟩ ⟨Nat.zero_le _, Nat.zero_le _⟩ hw hl hf
theorem KZ_X_told (hst0 : l.stackTraces = false) {idx : Nat} {N : Nat}  {x1 : Int32} {x2 : Int32} {rv : Option Int32} {σ' : St} {σ : St} (hc : Cxz p s m meth c args cc own nL Z) (hw : Wd Z (cmb σ μ) s H locs) (hl : Cond.methodLink own idx y_X_told ∈ TB) (hf : fX_told N x1 x2 σ = some (rv, σ')) (hR : RO R (10 + 1)) (hcs : cells + 2 ≤ R.cells ∧ slots + 12 ≤ R.slots) (hls : ls.size = nL) (hst : (rest.map fun v => v.category).sum ≤ 8) (hdg : decode cc pc = .ok (.invokevirtual idx, 3)) (kx : rv = none → ∀ (ce : Cell) (q : Addr) (H1 : Heap) (locs1 : List Loc), Wd Z (cmb σ' μ) s H1 locs1 → H1[q]? = some ce → ce.vm = .none → s.vm.findClass "java/util/NoSuchElementException" = some ce.cls → vx_W p l e R s m args below meth c H1 locs1 (cells + 2) (slots + 12) Q (F0 m pc ls rest) q) (kk : ∀ r1, rv = some r1 → ∀ (H1 : Heap) (locs1 : List Loc), Wd Z (cmb σ' μ) s H1 locs1 → W p l e R s m args below meth c H1 locs1 (cells + 2) (slots + 12) Q (F0 m (pc + 3) ls (.int r1 :: rest))) : W p l e R s m args below meth c H locs cells slots Q (F0 m pc ls (.int x2 :: .int x1 :: .ref (Z.1 + 0) :: rest)) := by
  exact z_iv hc hw (c_X_told hst0 hf) yv_X_told (Nat.le_of_ble_eq_true rfl) rfl rfl hl (RO.call hR (by decide)) hcs rfl hls hst hdg rfl (fun hn => kx (by cases rv with | none => rfl | some _ => cases hn)) (fun v hv H1 locs1 hw1 => by cases rv with | none => cases hv | some r1 => cases hv; exact kk r1 rfl H1 locs1 hw1)
set_option maxRecDepth 10000 in
theorem w_X_payWeek_27 {N : Nat} (hc : Cxz p s m meth c args prog_1_method_47_code "LabourExchange" 7 Z) (hr : meth.sig.returnType = none) (hR : RO R 8) {σ' : St} (n : Nat) : ∀ {k1_0 : Nat} {x2 : Int32} {x3 : Int32} {x4 : Int32} {x5 : Int32} {σ : St} {H : Heap} {locs : List Loc} {ls : Array Slot} (hk1_0 : k1_0 < 2), Wd Z (cmb σ μ) s H locs → lv_has ls 7 [(0, .ref (Z.1 + 0)), (1, .ref (Z.1 + (192 + 187 * k1_0))), (2, .int x2), (3, .int x3), (4, .int x4), (5, .int x5)] → fX_payWeek_27 N n k1_0 x2 x3 x4 x5 σ = some σ' → W p l e R s m args below meth c H locs 0 0 (MQ below (Qr Z none True (cmb σ' μ)) args s 0 0 (fun q => Z.1 ≤ q)) (F0 m 27 ls []) := by
  have hx := hc.hx
  have hb := hc.hb
  induction n with
  | zero =>
    intro k1_0 x2 x3 x4 x5 σ H locs ls hk1_0 hw hl hf
    have hf : none = some _ := hf
    cases hf
  | succ n ih =>
    intro k1_0 x2 x3 x4 x5 σ H locs ls hk1_0 hw hl hf
    unfold fX_payWeek_27 at hf
    refine lv_iload hx hb (dq tk_X_payWeek 16 rfl) (lv_at hl 5 rfl) ?_
    refine lv_aload_n hx hb (dq tk_X_payWeek 17 rfl) rfl (lv_at hl 0 rfl) ?_
    refine G_X_land hc hw wd_652 (dq tk_X_payWeek 18 rfl) ?_
    refine G_Land_people hc hw wd_103 (dq tk_X_payWeek 19 rfl) ?_
    refine lv_icmp_ge (tgt := 88) hx hb (dq tk_X_payWeek 20 rfl) (by decide) (fun c1 => ?_) (fun c1 => ?_)
    · replace hf := if_t hf c1
      refine lv_aload_n hx hb (dq tk_X_payWeek 47 rfl) rfl (lv_at hl 0 rfl) ?_
      refine G_X_land hc hw wd_652 (dq tk_X_payWeek 48 rfl) ?_
      refine lv_iload_n hx hb (dq tk_X_payWeek 49 rfl) rfl (lv_at hl 3 rfl) ?_
      refine lv_iload hx hb (dq tk_X_payWeek 50 rfl) (lv_at hl 4 rfl) ?_
      obtain ⟨σ1, h51, hf⟩ := bn1_someZ hf
      refine K_Land_closeWeek hc hw wd_1416 h51 (hR.mono (by decide)) ⟨Nat.zero_le _, Nat.zero_le _⟩ hl.1 (Nat.le_of_ble_eq_true rfl) (dq tk_X_payWeek 51 rfl) (fun H locs hw _ => ?_)
      cases hf
      exact x_vret hc hw hr (dq tk_X_payWeek 52 rfl)
    · replace hf := if_f hf c1
      refine lv_aload_n hx hb (dq tk_X_payWeek 21 rfl) rfl (lv_at hl 1 rfl) ?_
      refine lv_iload hx hb (dq tk_X_payWeek 22 rfl) (lv_at hl 5 rfl) ?_
      obtain ⟨r2, σ3, h23, hf⟩ := bnd_some hf
      refine K_View_lifeOf hc hw hk1_0 wd_779 h23 (hR.mono (by decide)) ⟨Nat.zero_le _, Nat.zero_le _⟩ hl.1 (Nat.le_of_ble_eq_true rfl) (dq tk_X_payWeek 23 rfl) (fun H locs hw hr2 => ?_)
      refine lv_astore (lv' := [(6, .ref (Z.1 + (279 + 187 * r2.1 + 5 * r2.2))), (0, .ref (Z.1 + 0)), (1, .ref (Z.1 + (192 + 187 * k1_0))), (2, .int x2), (3, .int x3), (4, .int x4), (5, .int x5)]) hx hb (dq tk_X_payWeek 24 rfl) hl (by decide) rfl (fun ls hl => ?_)
      refine lv_iload_n hx hb (dq tk_X_payWeek 25 rfl) rfl (lv_at hl 4 rfl) ?_
      refine lv_iload_n hx hb (dq tk_X_payWeek 26 rfl) rfl (lv_at hl 3 rfl) ?_
      refine lv_aload hx hb (dq tk_X_payWeek 27 rfl) (lv_at hl 0 rfl) ?_
      refine lv_aload_n hx hb (dq tk_X_payWeek 28 rfl) rfl (lv_at hl 1 rfl) ?_
      refine G_X_today hc hw wd_664 (dq tk_X_payWeek 29 rfl) ?_
      obtain ⟨r4, h30, hf⟩ := bn1_someZ hf
      refine K_Life_stampedDays hc hw hr2.1 hr2.2 wd_1404 h30 (hR.mono (by decide)) ⟨Nat.zero_le _, Nat.zero_le _⟩ hl.1 (Nat.le_of_ble_eq_true rfl) (dq tk_X_payWeek 30 rfl) (fun H locs hw _ => ?_)
      refine lv_imul hx hb (dq tk_X_payWeek 31 rfl) ?_
      refine lv_iadd hx hb (dq tk_X_payWeek 32 rfl) ?_
      obtain ⟨y5, hy5, hf⟩ := nm_some hf
      refine tst (congrArg Value.int hy5) ?_
      refine lv_istore_n (lv' := [(3, .int y5), (6, .ref (Z.1 + (279 + 187 * r2.1 + 5 * r2.2))), (0, .ref (Z.1 + 0)), (1, .ref (Z.1 + (192 + 187 * k1_0))), (2, .int x2), (4, .int x4), (5, .int x5)]) hx hb (dq tk_X_payWeek 33 rfl) rfl hl (by decide) rfl (fun ls hl => ?_)
      refine lv_iload hx hb (dq tk_X_payWeek 34 rfl) (lv_at hl 5 rfl) ?_
      refine lv_aload_n hx hb (dq tk_X_payWeek 35 rfl) rfl (lv_at hl 2 rfl) ?_
      refine G_X_land hc hw wd_652 (dq tk_X_payWeek 36 rfl) ?_
      refine lv_iload hx hb (dq tk_X_payWeek 37 rfl) (lv_at hl 6 rfl) ?_
      refine lv_aload hx hb (dq tk_X_payWeek 38 rfl) (lv_at hl 1 rfl) ?_
      refine G_Life_totals hr2.1 hr2.2 hc hw wd_557 (dq tk_X_payWeek 39 rfl) ?_
      refine lv_iconst (v := 0) hx hb (dq tk_X_payWeek 40 rfl) (by decide) ?_
      refine AL_Life_totals hr2.1 hr2.2 hc hw (by decide) (dq tk_X_payWeek 41 rfl) ?_
      obtain ⟨r6, σ7, h42, hf⟩ := bnd_some hf
      refine K_Land_settle hc hw wd_1412 h42 (hR.mono (by decide)) ⟨Nat.zero_le _, Nat.zero_le _⟩ hl.1 (Nat.le_of_ble_eq_true rfl) (dq tk_X_payWeek 42 rfl) (fun H locs hw _ => ?_)
      refine lv_iadd hx hb (dq tk_X_payWeek 43 rfl) ?_
      obtain ⟨y8, hy8, hf⟩ := nm_some hf
      refine tst (congrArg Value.int hy8) ?_
      refine lv_istore (lv' := [(4, .int y8), (3, .int y5), (6, .ref (Z.1 + (279 + 187 * r2.1 + 5 * r2.2))), (0, .ref (Z.1 + 0)), (1, .ref (Z.1 + (192 + 187 * k1_0))), (2, .int x2), (5, .int x5)]) hx hb (dq tk_X_payWeek 44 rfl) hl (by decide) rfl (fun ls hl => ?_)
      refine lv_iinc (v := (x5 + 1)) (lv' := [(5, .int (x5 + 1)), (4, .int y8), (3, .int y5), (6, .ref (Z.1 + (279 + 187 * r2.1 + 5 * r2.2))), (0, .ref (Z.1 + 0)), (1, .ref (Z.1 + (192 + 187 * k1_0))), (2, .int x2)]) hx hb (dq tk_X_payWeek 45 rfl) hl (k := 6) rfl rfl (by decide) rfl (fun ls hl => ?_)
      refine lv_goto (tgt := 27) hx hb (dq tk_X_payWeek 46 rfl) (by decide) ?_
      exact ih hk1_0 hw (lv_sub hl [4, 5, 6, 2, 1, 0] rfl) hf
set_option maxRecDepth 10000 in
theorem w_X_payWeek {N : Nat} (hc : Cxz p s m meth c args prog_1_method_47_code "LabourExchange" 7 Z) (hr : meth.sig.returnType = none) (hR : RO R 8) {σ' : St} : ∀ {σ : St} {H : Heap} {locs : List Loc} {ls : Array Slot}, Wd Z (cmb σ μ) s H locs → lv_has ls 7 [(0, .ref (Z.1 + 0))] → fX_payWeek N σ = some σ' → W p l e R s m args below meth c H locs 0 0 (MQ below (Qr Z none True (cmb σ' μ)) args s 0 0 (fun q => Z.1 ≤ q)) (F0 m 0 ls []) := by
  have hx := hc.hx
  have hb := hc.hb
  intro σ H locs ls hw hl hf
  unfold fX_payWeek at hf
  refine lv_aload_n hx hb (dq tk_X_payWeek 0 rfl) rfl (lv_at hl 0 rfl) ?_
  obtain ⟨r1, σ2, h1, hf⟩ := bnd_some hf
  refine K_X_asOfToday hc hw wd_744 h1 (hR.mono (by decide)) ⟨Nat.zero_le _, Nat.zero_le _⟩ hl.1 (Nat.le_of_ble_eq_true rfl) (dq tk_X_payWeek 1 rfl) (fun H locs hw hr1 => ?_)
  refine lv_astore_n (lv' := [(1, .ref (Z.1 + (192 + 187 * r1))), (0, .ref (Z.1 + 0))]) hx hb (dq tk_X_payWeek 2 rfl) rfl hl (by decide) rfl (fun ls hl => ?_)
  refine lv_aload_n hx hb (dq tk_X_payWeek 3 rfl) rfl (lv_at hl 0 rfl) ?_
  refine G_View_law hr1 hc hw wd_622 (dq tk_X_payWeek 4 rfl) ?_
  refine lv_bipush (v := 6) hx hb (dq tk_X_payWeek 5 rfl) (by decide) ?_
  refine lv_aload_n hx hb (dq tk_X_payWeek 6 rfl) rfl (lv_at hl 1 rfl) ?_
  refine G_X_today hc hw wd_664 (dq tk_X_payWeek 7 rfl) ?_
  obtain ⟨r3, h8, hf⟩ := bn1_someZ hf
  refine K_Law_param hc hw hr1 wd_1403 h8 (hR.mono (by decide)) ⟨Nat.zero_le _, Nat.zero_le _⟩ hl.1 (Nat.le_of_ble_eq_true rfl) (dq tk_X_payWeek 8 rfl) (fun H locs hw _ => ?_)
  refine lv_istore_n (lv' := [(2, .int r3), (1, .ref (Z.1 + (192 + 187 * r1))), (0, .ref (Z.1 + 0))]) hx hb (dq tk_X_payWeek 9 rfl) rfl hl (by decide) rfl (fun ls hl => ?_)
  refine lv_iconst (v := 0) hx hb (dq tk_X_payWeek 10 rfl) (by decide) ?_
  refine lv_istore_n (lv' := [(3, .int 0), (2, .int r3), (1, .ref (Z.1 + (192 + 187 * r1))), (0, .ref (Z.1 + 0))]) hx hb (dq tk_X_payWeek 11 rfl) rfl hl (by decide) rfl (fun ls hl => ?_)
  refine lv_iconst (v := 0) hx hb (dq tk_X_payWeek 12 rfl) (by decide) ?_
  refine lv_istore (lv' := [(4, .int 0), (3, .int 0), (2, .int r3), (1, .ref (Z.1 + (192 + 187 * r1))), (0, .ref (Z.1 + 0))]) hx hb (dq tk_X_payWeek 13 rfl) hl (by decide) rfl (fun ls hl => ?_)
  refine lv_iconst (v := 0) hx hb (dq tk_X_payWeek 14 rfl) (by decide) ?_
  refine lv_istore (lv' := [(5, .int 0), (4, .int 0), (3, .int 0), (2, .int r3), (1, .ref (Z.1 + (192 + 187 * r1))), (0, .ref (Z.1 + 0))]) hx hb (dq tk_X_payWeek 15 rfl) hl (by decide) rfl (fun ls hl => ?_)
  exact w_X_payWeek_27 hc hr hR N hr1 hw (lv_sub hl [5, 4, 3, 2, 1, 0] rfl) hf
theorem c_X_payWeek {N : Nat}  {σ' : St} {σ : St} (hf : fX_payWeek N σ = some σ') : Ct l Z y_X_payWeek prog_1_method_47_code 7 none (rmo (8)) [.ref (Z.1 + 0)] (cmb σ μ) none True (cmb σ' μ) := by
  refine x_met (by decide) (Nat.le_of_ble_eq_true rfl) (fun p e s m args below meth c ls hc hr hw hl => ?_)
  exact w_X_payWeek hc hr RO.self hw hl hf
theorem K_X_payWeek {idx : Nat} {N : Nat}  {σ' : St} {σ : St} (hc : Cxz p s m meth c args cc own nL Z) (hw : Wd Z (cmb σ μ) s H locs) (hl : Cond.methodLink own idx y_X_payWeek ∈ TB) (hf : fX_payWeek N σ = some σ') (hR : RO R ((8) + 1)) (hcs : cells ≤ R.cells ∧ slots ≤ R.slots) (hls : ls.size = nL) (hst : (rest.map fun v => v.category).sum ≤ 8) (hdg : decode cc pc = .ok (.invokevirtual idx, 3)) (kk : ∀ (H1 : Heap) (locs1 : List Loc), Wd Z (cmb σ' μ) s H1 locs1 → True → W p l e R s m args below meth c H1 locs1 cells slots Q (F0 m (pc + 3) ls rest)) : W p l e R s m args below meth c H locs cells slots Q (F0 m pc ls (.ref (Z.1 + 0) :: rest)) :=
  x_iv hc hw (c_X_payWeek hf) yv_X_payWeek (Nat.le_of_ble_eq_true rfl) rfl rfl hl (RO.call hR (by decide)) hcs rfl hls hst hdg rfl kk
set_option maxRecDepth 10000 in
theorem w_X_days_22 {N : Nat} (hc : Cxz p s m meth c args prog_1_method_13_code "LabourExchange" 3 Z) (hr : meth.sig.returnType = (some .int)) (hR : RO R 9) (hnt : ∀ x ∈ c.exceptionTable.toList, False) (hst : l.stackTraces = false) (hRc : 1 ≤ R.cells ∧ 6 ≤ R.slots) {rv : Option Int32} {σ' : St} : ∀ {σ : St} {H : Heap} {locs : List Loc} {ls : Array Slot} {cells slots : Nat}, cells ≤ 0 ∧ slots ≤ 0 → Wd Z (cmb σ μ) s H locs → lv_has ls 3 [] → fX_days_22 N σ = some (rv, σ') → W p l e R s m args below meth c H locs cells slots (vx_MQ below (Qz Z (rv.map (fun x => (some (.int x) : Option Value))) (cmb σ' μ)) (Xz Z "java/lang/IllegalArgumentException" (rv.map (fun x => (some (.int x) : Option Value))) (cmb σ' μ)) args s 1 6 (fun q => Z.1 ≤ q)) (F0 m 22 ls []) := by
  have hx := hc.hx
  have hb := hc.hb
  intro σ H locs ls cells slots hcs hw hl hf
  unfold fX_days_22 at hf
  cases hf
  exact z_throwI hc hw hnt hst hl.1 (dq tk_X_days 11 rfl) (dq tk_X_days 12 rfl) (dq tk_X_days 13 rfl) (dq tk_X_days 14 rfl) (hR.mono (by decide)) (by omega) (by omega) (by omega) (by omega)
set_option maxRecDepth 10000 in
theorem w_X_days_52 {N : Nat} (hc : Cxz p s m meth c args prog_1_method_13_code "LabourExchange" 3 Z) (hr : meth.sig.returnType = (some .int)) (hR : RO R 9) (hnt : ∀ x ∈ c.exceptionTable.toList, False) (hst : l.stackTraces = false) (hRc : 1 ≤ R.cells ∧ 6 ≤ R.slots) {rv : Option Int32} {σ' : St} {go32 : Int32 → Int32 → St → Option ((Option Int32) × St)} (hgo32 : ∀ {x1 : Int32} {x2 : Int32} {σ : St} {H : Heap} {locs : List Loc} {ls : Array Slot} {cells slots : Nat}, cells ≤ 1 ∧ slots ≤ 6 → Wd Z (cmb σ μ) s H locs → lv_has ls 3 [(0, .ref (Z.1 + 0)), (1, .int x1), (2, .int x2)] → go32 x1 x2 σ = some (rv, σ') → W p l e R s m args below meth c H locs cells slots (vx_MQ below (Qz Z (rv.map (fun x => (some (.int x) : Option Value))) (cmb σ' μ)) (Xz Z "java/lang/IllegalArgumentException" (rv.map (fun x => (some (.int x) : Option Value))) (cmb σ' μ)) args s 1 6 (fun q => Z.1 ≤ q)) (F0 m 32 ls [])) : ∀ {x1 : Int32} {x2 : Int32} {σ : St} {H : Heap} {locs : List Loc} {ls : Array Slot} {cells slots : Nat}, cells ≤ 1 ∧ slots ≤ 6 → Wd Z (cmb σ μ) s H locs → lv_has ls 3 [(0, .ref (Z.1 + 0)), (1, .int x1), (2, .int x2)] → fX_days_52 N go32 x1 x2 σ = some (rv, σ') → W p l e R s m args below meth c H locs cells slots (vx_MQ below (Qz Z (rv.map (fun x => (some (.int x) : Option Value))) (cmb σ' μ)) (Xz Z "java/lang/IllegalArgumentException" (rv.map (fun x => (some (.int x) : Option Value))) (cmb σ' μ)) args s 1 6 (fun q => Z.1 ≤ q)) (F0 m 52 ls []) := by
  have hx := hc.hx
  have hb := hc.hb
  intro x1 x2 σ H locs ls cells slots hcs hw hl hf
  unfold fX_days_52 at hf
  refine lv_aload_n hx hb (dq tk_X_days 28 rfl) rfl (lv_at hl 0 rfl) ?_
  refine lv_dup hx hb (dq tk_X_days 29 rfl) rfl ?_
  refine G_X_today hc hw wd_664 (dq tk_X_days 30 rfl) ?_
  refine lv_iconst (v := 1) hx hb (dq tk_X_days 31 rfl) (by decide) ?_
  refine lv_iadd hx hb (dq tk_X_days 32 rfl) ?_
  obtain ⟨σ1, hσ1, hf⟩ := nm_some hf
  refine P_X_today hc hw wd_664 hσ1 (dq tk_X_days 33 rfl) (fun H locs hw => ?_)
  refine lv_iinc (v := (x2 + 1)) (lv' := [(2, .int (x2 + 1)), (0, .ref (Z.1 + 0)), (1, .int x1)]) hx hb (dq tk_X_days 34 rfl) hl (k := 2) rfl rfl (by decide) rfl (fun ls hl => ?_)
  refine lv_goto (tgt := 32) hx hb (dq tk_X_days 35 rfl) (by decide) ?_
  exact hgo32 (by omega) hw (lv_sub hl [1, 2, 0] rfl) hf
set_option maxRecDepth 10000 in
theorem w_X_days_32 {N : Nat} (hc : Cxz p s m meth c args prog_1_method_13_code "LabourExchange" 3 Z) (hr : meth.sig.returnType = (some .int)) (hR : RO R 9) (hnt : ∀ x ∈ c.exceptionTable.toList, False) (hst : l.stackTraces = false) (hRc : 1 ≤ R.cells ∧ 6 ≤ R.slots) {rv : Option Int32} {σ' : St} (n : Nat) : ∀ {x1 : Int32} {x2 : Int32} {σ : St} {H : Heap} {locs : List Loc} {ls : Array Slot} {cells slots : Nat}, cells ≤ 1 ∧ slots ≤ 6 → Wd Z (cmb σ μ) s H locs → lv_has ls 3 [(0, .ref (Z.1 + 0)), (1, .int x1), (2, .int x2)] → fX_days_32 N n x1 x2 σ = some (rv, σ') → W p l e R s m args below meth c H locs cells slots (vx_MQ below (Qz Z (rv.map (fun x => (some (.int x) : Option Value))) (cmb σ' μ)) (Xz Z "java/lang/IllegalArgumentException" (rv.map (fun x => (some (.int x) : Option Value))) (cmb σ' μ)) args s 1 6 (fun q => Z.1 ≤ q)) (F0 m 32 ls []) := by
  have hx := hc.hx
  have hb := hc.hb
  induction n with
  | zero =>
    intro x1 x2 σ H locs ls cells slots hcs hw hl hf
    have hf : none = some _ := hf
    cases hf
  | succ n ih =>
    intro x1 x2 σ H locs ls cells slots hcs hw hl hf
    unfold fX_days_32 at hf
    refine lv_iload_n hx hb (dq tk_X_days 17 rfl) rfl (lv_at hl 2 rfl) ?_
    refine lv_iload_n hx hb (dq tk_X_days 18 rfl) rfl (lv_at hl 1 rfl) ?_
    refine lv_icmp_ge (tgt := 68) hx hb (dq tk_X_days 19 rfl) (by decide) (fun c1 => ?_) (fun c1 => ?_)
    · replace hf := if_t hf c1
      refine lv_aload_n hx hb (dq tk_X_days 36 rfl) rfl (lv_at hl 0 rfl) ?_
      refine G_X_today hc hw wd_664 (dq tk_X_days 37 rfl) ?_
      cases hf
      exact z_end (by omega) (by omega) (x_iret hc hw hr (dq tk_X_days 38 rfl))
    · replace hf := if_f hf c1
      refine lv_aload_n hx hb (dq tk_X_days 20 rfl) rfl (lv_at hl 0 rfl) ?_
      refine G_X_today hc hw wd_664 (dq tk_X_days 21 rfl) ?_
      refine lv_bipush (v := 6) hx hb (dq tk_X_days 22 rfl) (by decide) ?_
      refine lv_irem hx hb (dq tk_X_days 23 rfl) (by decide) ?_
      refine lv_iconst (v := 5) hx hb (dq tk_X_days 24 rfl) (by decide) ?_
      refine lv_icmp_ne (tgt := 52) hx hb (dq tk_X_days 25 rfl) (by decide) (fun c2 => ?_) (fun c2 => ?_)
      · replace hf := if_f hf c2
        exact w_X_days_52 hc hr hR hnt hst hRc ih (by omega) hw (lv_sub hl [0, 1, 2] rfl) hf
      · replace hf := if_t hf c2
        refine lv_aload_n hx hb (dq tk_X_days 26 rfl) rfl (lv_at hl 0 rfl) ?_
        obtain ⟨σ1, h27, hf⟩ := bn1_someZ hf
        refine K_X_payWeek hc hw wd_1399 h27 (hR.mono (by decide)) ⟨by omega, by omega⟩ hl.1 (Nat.le_of_ble_eq_true rfl) (dq tk_X_days 27 rfl) (fun H locs hw _ => ?_)
        exact w_X_days_52 hc hr hR hnt hst hRc ih (by omega) hw (lv_sub hl [0, 1, 2] rfl) hf
set_option maxRecDepth 10000 in
theorem w_X_days {N : Nat} (hc : Cxz p s m meth c args prog_1_method_13_code "LabourExchange" 3 Z) (hr : meth.sig.returnType = (some .int)) (hR : RO R 9) (hnt : ∀ x ∈ c.exceptionTable.toList, False) (hst : l.stackTraces = false) (hRc : 1 ≤ R.cells ∧ 6 ≤ R.slots) {rv : Option Int32} {σ' : St} : ∀ {x1 : Int32} {σ : St} {H : Heap} {locs : List Loc} {ls : Array Slot} {cells slots : Nat}, cells ≤ 0 ∧ slots ≤ 0 → Wd Z (cmb σ μ) s H locs → lv_has ls 3 [(0, .ref (Z.1 + 0)), (1, .int x1)] → fX_days N x1 σ = some (rv, σ') → W p l e R s m args below meth c H locs cells slots (vx_MQ below (Qz Z (rv.map (fun x => (some (.int x) : Option Value))) (cmb σ' μ)) (Xz Z "java/lang/IllegalArgumentException" (rv.map (fun x => (some (.int x) : Option Value))) (cmb σ' μ)) args s 1 6 (fun q => Z.1 ≤ q)) (F0 m 0 ls []) := by
  have hx := hc.hx
  have hb := hc.hb
  intro x1 σ H locs ls cells slots hcs hw hl hf
  unfold fX_days at hf
  refine lv_iload_n hx hb (dq tk_X_days 0 rfl) rfl (lv_at hl 1 rfl) ?_
  refine lv_iconst (v := 0) hx hb (dq tk_X_days 1 rfl) (by decide) ?_
  refine lv_bipush (v := 120) hx hb (dq tk_X_days 2 rfl) (by decide) ?_
  obtain ⟨r1, h3, hf⟩ := bn1_someZ hf
  refine K_X_outside hc hw wd_701 h3 (hR.mono (by decide)) ⟨by omega, by omega⟩ hl.1 (Nat.le_of_ble_eq_true rfl) (dq tk_X_days 3 rfl) (fun H locs hw _ => ?_)
  refine lv_if_ne (tgt := 22) hx hb (dq tk_X_days 4 rfl) (by decide) (fun c1 => ?_) (fun c1 => ?_)
  · replace hf := if_f hf c1
    exact w_X_days_22 hc hr hR hnt hst hRc (by omega) hw (lv_sub hl [] rfl) hf
  · replace hf := if_t hf c1
    refine lv_iload_n hx hb (dq tk_X_days 5 rfl) rfl (lv_at hl 1 rfl) ?_
    refine lv_sipush (v := 935) hx hb (dq tk_X_days 6 rfl) (by decide) ?_
    refine lv_aload_n hx hb (dq tk_X_days 7 rfl) rfl (lv_at hl 0 rfl) ?_
    refine G_X_today hc hw wd_664 (dq tk_X_days 8 rfl) ?_
    refine lv_isub hx hb (dq tk_X_days 9 rfl) ?_
    refine lv_icmp_le (tgt := 30) hx hb (dq tk_X_days 10 rfl) (by decide) (fun c2 => ?_) (fun c2 => ?_)
    · replace hf := if_t hf c2
      refine lv_iconst (v := 0) hx hb (dq tk_X_days 15 rfl) (by decide) ?_
      refine lv_istore_n (lv' := [(2, .int 0), (0, .ref (Z.1 + 0)), (1, .int x1)]) hx hb (dq tk_X_days 16 rfl) rfl hl (by decide) rfl (fun ls hl => ?_)
      exact w_X_days_32 hc hr hR hnt hst hRc N (by omega) hw (lv_sub hl [1, 2, 0] rfl) hf
    · replace hf := if_f hf c2
      exact w_X_days_22 hc hr hR hnt hst hRc (by omega) hw (lv_sub hl [] rfl) hf
theorem c_X_days (hst : l.stackTraces = false) {N : Nat}  {x1 : Int32} {rv : Option Int32} {σ' : St} {σ : St} (hf : fX_days N x1 σ = some (rv, σ')) : Cz l Z y_X_days prog_1_method_13_code 3 (some .int) { frames := 9, cells := 1, slots := 6, locals := 60 * 9 } "java/lang/IllegalArgumentException" [.ref (Z.1 + 0), .int x1] (cmb σ μ) (rv.map (fun x => (some (.int x) : Option Value))) (cmb σ' μ) := by
  refine z_met (by decide) (Nat.le_of_ble_eq_true rfl) (fun p e s m args below meth c ls hc hnt hr hw hl => ?_)
  exact w_X_days hc hr ⟨Nat.le_refl _, Nat.le_refl _⟩ hnt hst ⟨Nat.le_refl _, Nat.le_refl _⟩ ⟨Nat.zero_le _, Nat.zero_le _⟩ hw hl hf
theorem KZ_X_days (hst0 : l.stackTraces = false) {idx : Nat} {N : Nat}  {x1 : Int32} {rv : Option Int32} {σ' : St} {σ : St} (hc : Cxz p s m meth c args cc own nL Z) (hw : Wd Z (cmb σ μ) s H locs) (hl : Cond.methodLink own idx y_X_days ∈ TB) (hf : fX_days N x1 σ = some (rv, σ')) (hR : RO R (9 + 1)) (hcs : cells + 1 ≤ R.cells ∧ slots + 6 ≤ R.slots) (hls : ls.size = nL) (hst : (rest.map fun v => v.category).sum ≤ 8) (hdg : decode cc pc = .ok (.invokevirtual idx, 3)) (kx : rv = none → ∀ (ce : Cell) (q : Addr) (H1 : Heap) (locs1 : List Loc), Wd Z (cmb σ' μ) s H1 locs1 → H1[q]? = some ce → ce.vm = .none → s.vm.findClass "java/lang/IllegalArgumentException" = some ce.cls → vx_W p l e R s m args below meth c H1 locs1 (cells + 1) (slots + 6) Q (F0 m pc ls rest) q) (kk : ∀ r1, rv = some r1 → ∀ (H1 : Heap) (locs1 : List Loc), Wd Z (cmb σ' μ) s H1 locs1 → W p l e R s m args below meth c H1 locs1 (cells + 1) (slots + 6) Q (F0 m (pc + 3) ls (.int r1 :: rest))) : W p l e R s m args below meth c H locs cells slots Q (F0 m pc ls (.int x1 :: .ref (Z.1 + 0) :: rest)) := by
  exact z_iv hc hw (c_X_days hst0 hf) yv_X_days (Nat.le_of_ble_eq_true rfl) rfl rfl hl (RO.call hR (by decide)) hcs rfl hls hst hdg rfl (fun hn => kx (by cases rv with | none => rfl | some _ => cases hn)) (fun v hv H1 locs1 hw1 => by cases rv with | none => cases hv | some r1 => cases hv; exact kk r1 rfl H1 locs1 hw1)
set_option maxRecDepth 10000 in
theorem w_X_look_27 {N : Nat} (hc : Cxz p s m meth c args prog_1_method_14_code "LabourExchange" 3 Z) (hr : meth.sig.returnType = (some .int)) (hR : RO R 6) (hnt : ∀ x ∈ c.exceptionTable.toList, False) (hst : l.stackTraces = false) (hRc : 1 ≤ R.cells ∧ 6 ≤ R.slots) {rv : Option Int32} {σ' : St} : ∀ {x1 : Int32} {σ : St} {H : Heap} {locs : List Loc} {ls : Array Slot} {cells slots : Nat}, cells ≤ 1 ∧ slots ≤ 6 → Wd Z (cmb σ μ) s H locs → lv_has ls 3 [(0, .ref (Z.1 + 0)), (1, .int x1)] → fX_look_27 N x1 σ = some (rv, σ') → W p l e R s m args below meth c H locs cells slots (vx_MQ below (Qz Z (rv.map (fun x => (some (.int x) : Option Value))) (cmb σ' μ)) (Xz Z "java/lang/IllegalArgumentException" (rv.map (fun x => (some (.int x) : Option Value))) (cmb σ' μ)) args s 1 6 (fun q => Z.1 ≤ q)) (F0 m 27 ls []) := by
  have hx := hc.hx
  have hb := hc.hb
  intro x1 σ H locs ls cells slots hcs hw hl hf
  unfold fX_look_27 at hf
  refine lv_aload_n hx hb (dq tk_X_look 13 rfl) rfl (lv_at hl 0 rfl) ?_
  refine G_X_theDay hc hw wd_665 (dq tk_X_look 14 rfl) ?_
  obtain ⟨y1, hy1, hf⟩ := nm_some hf
  refine tst (congrArg Value.int hy1) ?_
  refine lv_istore_n (lv' := [(2, .int y1), (0, .ref (Z.1 + 0)), (1, .int x1)]) hx hb (dq tk_X_look 15 rfl) rfl hl (by decide) rfl (fun ls hl => ?_)
  refine lv_aload_n hx hb (dq tk_X_look 16 rfl) rfl (lv_at hl 1 rfl) ?_
  refine lv_iload_n hx hb (dq tk_X_look 17 rfl) rfl (lv_at hl 2 rfl) ?_
  obtain ⟨σ2, hσ2, hf⟩ := nm_some hf
  refine P_X_theDay hc hw wd_665 hσ2 (dq tk_X_look 18 rfl) (fun H locs hw => ?_)
  refine lv_iload_n hx hb (dq tk_X_look 19 rfl) rfl (lv_at hl 0 rfl) ?_
  cases hf
  exact z_end (by omega) (by omega) (x_iret hc hw hr (dq tk_X_look 20 rfl))
set_option maxRecDepth 10000 in
theorem w_X_look {N : Nat} (hc : Cxz p s m meth c args prog_1_method_14_code "LabourExchange" 3 Z) (hr : meth.sig.returnType = (some .int)) (hR : RO R 6) (hnt : ∀ x ∈ c.exceptionTable.toList, False) (hst : l.stackTraces = false) (hRc : 1 ≤ R.cells ∧ 6 ≤ R.slots) {rv : Option Int32} {σ' : St} : ∀ {x1 : Int32} {σ : St} {H : Heap} {locs : List Loc} {ls : Array Slot} {cells slots : Nat}, cells ≤ 0 ∧ slots ≤ 0 → Wd Z (cmb σ μ) s H locs → lv_has ls 3 [(0, .ref (Z.1 + 0)), (1, .int x1)] → fX_look N x1 σ = some (rv, σ') → W p l e R s m args below meth c H locs cells slots (vx_MQ below (Qz Z (rv.map (fun x => (some (.int x) : Option Value))) (cmb σ' μ)) (Xz Z "java/lang/IllegalArgumentException" (rv.map (fun x => (some (.int x) : Option Value))) (cmb σ' μ)) args s 1 6 (fun q => Z.1 ≤ q)) (F0 m 0 ls []) := by
  have hx := hc.hx
  have hb := hc.hb
  intro x1 σ H locs ls cells slots hcs hw hl hf
  unfold fX_look at hf
  refine lv_iload_n hx hb (dq tk_X_look 0 rfl) rfl (lv_at hl 1 rfl) ?_
  refine lv_iconst (v := (-1)) hx hb (dq tk_X_look 1 rfl) (by decide) ?_
  refine lv_icmp_eq (tgt := 27) hx hb (dq tk_X_look 2 rfl) (by decide) (fun c1 => ?_) (fun c1 => ?_)
  · replace hf := if_t hf c1
    exact w_X_look_27 hc hr hR hnt hst hRc (by omega) hw (lv_sub hl [0, 1] rfl) hf
  · replace hf := if_f hf c1
    refine lv_iload_n hx hb (dq tk_X_look 3 rfl) rfl (lv_at hl 1 rfl) ?_
    refine lv_sipush (v := 312) hx hb (dq tk_X_look 4 rfl) (by decide) ?_
    refine lv_aload_n hx hb (dq tk_X_look 5 rfl) rfl (lv_at hl 0 rfl) ?_
    refine G_X_today hc hw wd_664 (dq tk_X_look 6 rfl) ?_
    obtain ⟨r1, h7, hf⟩ := bn1_someZ hf
    refine K_X_outside hc hw wd_701 h7 (hR.mono (by decide)) ⟨by omega, by omega⟩ hl.1 (Nat.le_of_ble_eq_true rfl) (dq tk_X_look 7 rfl) (fun H locs hw _ => ?_)
    refine lv_if_eq (tgt := 27) hx hb (dq tk_X_look 8 rfl) (by decide) (fun c2 => ?_) (fun c2 => ?_)
    · replace hf := if_t hf c2
      exact w_X_look_27 hc hr hR hnt hst hRc (by omega) hw (lv_sub hl [0, 1] rfl) hf
    · replace hf := if_f hf c2
      cases hf
      exact z_throwI hc hw hnt hst hl.1 (dq tk_X_look 9 rfl) (dq tk_X_look 10 rfl) (dq tk_X_look 11 rfl) (dq tk_X_look 12 rfl) (hR.mono (by decide)) (by omega) (by omega) (by omega) (by omega)
theorem c_X_look (hst : l.stackTraces = false) {N : Nat}  {x1 : Int32} {rv : Option Int32} {σ' : St} {σ : St} (hf : fX_look N x1 σ = some (rv, σ')) : Cz l Z y_X_look prog_1_method_14_code 3 (some .int) { frames := 6, cells := 1, slots := 6, locals := 60 * 6 } "java/lang/IllegalArgumentException" [.ref (Z.1 + 0), .int x1] (cmb σ μ) (rv.map (fun x => (some (.int x) : Option Value))) (cmb σ' μ) := by
  refine z_met (by decide) (Nat.le_of_ble_eq_true rfl) (fun p e s m args below meth c ls hc hnt hr hw hl => ?_)
  exact w_X_look hc hr ⟨Nat.le_refl _, Nat.le_refl _⟩ hnt hst ⟨Nat.le_refl _, Nat.le_refl _⟩ ⟨Nat.zero_le _, Nat.zero_le _⟩ hw hl hf
theorem KZ_X_look (hst0 : l.stackTraces = false) {idx : Nat} {N : Nat}  {x1 : Int32} {rv : Option Int32} {σ' : St} {σ : St} (hc : Cxz p s m meth c args cc own nL Z) (hw : Wd Z (cmb σ μ) s H locs) (hl : Cond.methodLink own idx y_X_look ∈ TB) (hf : fX_look N x1 σ = some (rv, σ')) (hR : RO R (6 + 1)) (hcs : cells + 1 ≤ R.cells ∧ slots + 6 ≤ R.slots) (hls : ls.size = nL) (hst : (rest.map fun v => v.category).sum ≤ 8) (hdg : decode cc pc = .ok (.invokevirtual idx, 3)) (kx : rv = none → ∀ (ce : Cell) (q : Addr) (H1 : Heap) (locs1 : List Loc), Wd Z (cmb σ' μ) s H1 locs1 → H1[q]? = some ce → ce.vm = .none → s.vm.findClass "java/lang/IllegalArgumentException" = some ce.cls → vx_W p l e R s m args below meth c H1 locs1 (cells + 1) (slots + 6) Q (F0 m pc ls rest) q) (kk : ∀ r1, rv = some r1 → ∀ (H1 : Heap) (locs1 : List Loc), Wd Z (cmb σ' μ) s H1 locs1 → W p l e R s m args below meth c H1 locs1 (cells + 1) (slots + 6) Q (F0 m (pc + 3) ls (.int r1 :: rest))) : W p l e R s m args below meth c H locs cells slots Q (F0 m pc ls (.int x1 :: .ref (Z.1 + 0) :: rest)) := by
  exact z_iv hc hw (c_X_look hst0 hf) yv_X_look (Nat.le_of_ble_eq_true rfl) rfl rfl hl (RO.call hR (by decide)) hcs rfl hls hst hdg rfl (fun hn => kx (by cases rv with | none => rfl | some _ => cases hn)) (fun v hv H1 locs1 hw1 => by cases rv with | none => cases hv | some r1 => cases hv; exact kk r1 rfl H1 locs1 hw1)
set_option maxRecDepth 10000 in
theorem w_X_day_28 {N : Nat} (hc : Cxz p s m meth c args prog_1_method_15_code "LabourExchange" 5 Z) (hr : meth.sig.returnType = (some .int)) (hR : RO R 9) (hnt : ∀ x ∈ c.exceptionTable.toList, False) (hst : l.stackTraces = false) (hRc : 2 ≤ R.cells ∧ 12 ≤ R.slots) {rv : Option Int32} {σ' : St} : ∀ {σ : St} {H : Heap} {locs : List Loc} {ls : Array Slot} {cells slots : Nat}, cells ≤ 1 ∧ slots ≤ 6 → Wd Z (cmb σ μ) s H locs → lv_has ls 5 [] → fX_day_28 N σ = some (rv, σ') → W p l e R s m args below meth c H locs cells slots (vx_MQ below (Qz Z (rv.map (fun x => (some (.int x) : Option Value))) (cmb σ' μ)) (Xz Z "java/util/NoSuchElementException" (rv.map (fun x => (some (.int x) : Option Value))) (cmb σ' μ)) args s 2 12 (fun q => Z.1 ≤ q)) (F0 m 28 ls []) := by
  have hx := hc.hx
  have hb := hc.hb
  intro σ H locs ls cells slots hcs hw hl hf
  unfold fX_day_28 at hf
  cases hf
  exact z_throwN hc hw hnt hst hl.1 (dq tk_X_day 14 rfl) (dq tk_X_day 15 rfl) (dq tk_X_day 16 rfl) (dq tk_X_day 17 rfl) (hR.mono (by decide)) (by omega) (by omega) (by omega) (by omega)
set_option maxRecDepth 10000 in
theorem w_X_day {N : Nat} (hc : Cxz p s m meth c args prog_1_method_15_code "LabourExchange" 5 Z) (hr : meth.sig.returnType = (some .int)) (hR : RO R 9) (hnt : ∀ x ∈ c.exceptionTable.toList, False) (hst : l.stackTraces = false) (hRc : 2 ≤ R.cells ∧ 12 ≤ R.slots) {rv : Option Int32} {σ' : St} : ∀ {x1 : Int32} {x2 : Int32} {x3 : Int32} {σ : St} {H : Heap} {locs : List Loc} {ls : Array Slot} {cells slots : Nat}, cells ≤ 0 ∧ slots ≤ 0 → Wd Z (cmb σ μ) s H locs → lv_has ls 5 [(0, .ref (Z.1 + 0)), (1, .int x1), (2, .int x2), (3, .int x3)] → fX_day N x1 x2 x3 σ = some (rv, σ') → W p l e R s m args below meth c H locs cells slots (vx_MQ below (Qz Z (rv.map (fun x => (some (.int x) : Option Value))) (cmb σ' μ)) (Xz Z "java/util/NoSuchElementException" (rv.map (fun x => (some (.int x) : Option Value))) (cmb σ' μ)) args s 2 12 (fun q => Z.1 ≤ q)) (F0 m 0 ls []) := by
  have hx := hc.hx
  have hb := hc.hb
  intro x1 x2 x3 σ H locs ls cells slots hcs hw hl hf
  unfold fX_day at hf
  refine lv_aload_n hx hb (dq tk_X_day 0 rfl) rfl (lv_at hl 0 rfl) ?_
  refine lv_iload_n hx hb (dq tk_X_day 1 rfl) rfl (lv_at hl 1 rfl) ?_
  obtain ⟨q2, h2, hq2⟩ := btR_some hf
  refine KZ_X_requirePerson hst hc hw wd_1028 h2 (hR.mono (by decide)) ⟨by omega, by omega⟩ hl.1 (Nat.le_of_ble_eq_true rfl) (dq tk_X_day 2 rfl) (fun hn ce q H locs hw hce hcv hcl => ?_) (fun u2 hr2 H locs hw => ?_)
  · rcases hq2 with ⟨-, hf⟩ | ⟨r, hrq, -⟩
    · cases hf
      exact z_out (v := none) hc hw hnt rfl hce hcv hcl (by omega) (by omega)
    · rw [hn] at hrq
      cases hrq
  · rcases hq2 with ⟨hn, -⟩ | ⟨r, hrq, hf⟩
    · rw [hn] at hr2
      cases hr2
    rw [hrq] at hr2
    obtain rfl : u2 = r := (Option.some.inj hr2).symm
    refine lv_iload_n hx hb (dq tk_X_day 3 rfl) rfl (lv_at hl 2 rfl) ?_
    refine lv_sipush (v := 312) hx hb (dq tk_X_day 4 rfl) (by decide) ?_
    refine lv_aload_n hx hb (dq tk_X_day 5 rfl) rfl (lv_at hl 0 rfl) ?_
    obtain ⟨r1, h6, hf⟩ := bn1_someZ hf
    refine K_X_dayKnown hc hw wd_1129 h6 (hR.mono (by decide)) ⟨by omega, by omega⟩ hl.1 (Nat.le_of_ble_eq_true rfl) (dq tk_X_day 6 rfl) (fun H locs hw _ => ?_)
    obtain ⟨r2, h7, hf⟩ := bn1_someZ hf
    refine K_X_outside hc hw wd_701 h7 (hR.mono (by decide)) ⟨by omega, by omega⟩ hl.1 (Nat.le_of_ble_eq_true rfl) (dq tk_X_day 7 rfl) (fun H locs hw _ => ?_)
    refine lv_if_ne (tgt := 28) hx hb (dq tk_X_day 8 rfl) (by decide) (fun c1 => ?_) (fun c1 => ?_)
    · replace hf := if_f hf c1
      exact w_X_day_28 hc hr hR hnt hst hRc (by omega) hw (lv_sub hl [] rfl) hf
    · replace hf := if_t hf c1
      refine lv_iload_n hx hb (dq tk_X_day 9 rfl) rfl (lv_at hl 3 rfl) ?_
      refine lv_iconst (v := 0) hx hb (dq tk_X_day 10 rfl) (by decide) ?_
      refine lv_iconst (v := 3) hx hb (dq tk_X_day 11 rfl) (by decide) ?_
      obtain ⟨r3, h12, hf⟩ := bn1_someZ hf
      refine K_X_outside hc hw wd_701 h12 (hR.mono (by decide)) ⟨by omega, by omega⟩ hl.1 (Nat.le_of_ble_eq_true rfl) (dq tk_X_day 12 rfl) (fun H locs hw _ => ?_)
      refine lv_if_eq (tgt := 36) hx hb (dq tk_X_day 13 rfl) (by decide) (fun c2 => ?_) (fun c2 => ?_)
      · replace hf := if_t hf c2
        refine lv_aload_n hx hb (dq tk_X_day 18 rfl) rfl (lv_at hl 0 rfl) ?_
        obtain ⟨r4, σ5, h19, hf⟩ := bnd_some hf
        refine K_X_asOfTheDay hc hw wd_1384 h19 (hR.mono (by decide)) ⟨by omega, by omega⟩ hl.1 (Nat.le_of_ble_eq_true rfl) (dq tk_X_day 19 rfl) (fun H locs hw hr4 => ?_)
        refine lv_iload_n hx hb (dq tk_X_day 20 rfl) rfl (lv_at hl 1 rfl) ?_
        obtain ⟨r6, σ7, h21, hf⟩ := bnd_some hf
        refine K_View_lifeOf hc hw hr4 wd_779 h21 (hR.mono (by decide)) ⟨by omega, by omega⟩ hl.1 (Nat.le_of_ble_eq_true rfl) (dq tk_X_day 21 rfl) (fun H locs hw hr6 => ?_)
        refine lv_astore (lv' := [(4, .ref (Z.1 + (279 + 187 * r6.1 + 5 * r6.2))), (0, .ref (Z.1 + 0)), (1, .int x1), (2, .int x2), (3, .int x3)]) hx hb (dq tk_X_day 22 rfl) hl (by decide) rfl (fun ls hl => ?_)
        refine lv_iload_n hx hb (dq tk_X_day 23 rfl) rfl (lv_at hl 4 rfl) ?_
        by_cases c3_0 : x3 = 0
        · replace hf := if_t hf c3_0
          refine lv_tableIn (tgt := 72) hx hb (dq tk_X_day 24 rfl) (by rw [c3_0]; decide) (by rw [c3_0]; decide) (by rw [c3_0]; first | done | rfl) (by decide) ?_
          refine lv_aload hx hb (dq tk_X_day 25 rfl) (lv_at hl 0 rfl) ?_
          refine lv_iload_n hx hb (dq tk_X_day 26 rfl) rfl (lv_at hl 3 rfl) ?_
          obtain ⟨r8, h27, hf⟩ := bn1_someZ hf
          refine K_Life_kindOn hc hw hr6.1 hr6.2 wd_1434 h27 (hR.mono (by decide)) ⟨by omega, by omega⟩ hl.1 (Nat.le_of_ble_eq_true rfl) (dq tk_X_day 27 rfl) (fun H locs hw _ => ?_)
          cases hf
          exact z_end (by omega) (by omega) (x_iret hc hw hr (dq tk_X_day 28 rfl))
        replace hf := if_f hf c3_0
        by_cases c3_1 : x3 = 1
        · replace hf := if_t hf c3_1
          refine lv_tableIn (tgt := 79) hx hb (dq tk_X_day 24 rfl) (by rw [c3_1]; decide) (by rw [c3_1]; decide) (by rw [c3_1]; first | done | rfl) (by decide) ?_
          refine lv_aload hx hb (dq tk_X_day 29 rfl) (lv_at hl 0 rfl) ?_
          refine lv_iload_n hx hb (dq tk_X_day 30 rfl) rfl (lv_at hl 3 rfl) ?_
          obtain ⟨r9, h31, hf⟩ := bn1_someZ hf
          refine K_Life_payOn hc hw hr6.1 hr6.2 wd_1435 h31 (hR.mono (by decide)) ⟨by omega, by omega⟩ hl.1 (Nat.le_of_ble_eq_true rfl) (dq tk_X_day 31 rfl) (fun H locs hw _ => ?_)
          cases hf
          exact z_end (by omega) (by omega) (x_iret hc hw hr (dq tk_X_day 32 rfl))
        replace hf := if_f hf c3_1
        by_cases c3_2 : x3 = 2
        · replace hf := if_t hf c3_2
          refine lv_tableIn (tgt := 86) hx hb (dq tk_X_day 24 rfl) (by rw [c3_2]; decide) (by rw [c3_2]; decide) (by rw [c3_2]; first | done | rfl) (by decide) ?_
          refine lv_aload hx hb (dq tk_X_day 33 rfl) (lv_at hl 0 rfl) ?_
          refine lv_iload_n hx hb (dq tk_X_day 34 rfl) rfl (lv_at hl 3 rfl) ?_
          obtain ⟨r10, h35, hf⟩ := bn1_someZ hf
          refine K_Life_actOn hc hw hr6.1 hr6.2 wd_1439 h35 (hR.mono (by decide)) ⟨by omega, by omega⟩ hl.1 (Nat.le_of_ble_eq_true rfl) (dq tk_X_day 35 rfl) (fun H locs hw _ => ?_)
          cases hf
          exact z_end (by omega) (by omega) (x_iret hc hw hr (dq tk_X_day 36 rfl))
        replace hf := if_f hf c3_2
        refine lv_tableOut (tgt := 93) hx hb (dq tk_X_day 24 rfl) (sw_out (fun k h1 h2 => by
          have h3 : k = 0 ∨ k = 1 ∨ k = 2 := by omega
          rcases h3 with rfl | rfl | rfl
          · exact c3_0
          · exact c3_1
          · exact c3_2
          )) (by decide) ?_
        refine lv_aload hx hb (dq tk_X_day 37 rfl) (lv_at hl 0 rfl) ?_
        refine lv_iload_n hx hb (dq tk_X_day 38 rfl) rfl (lv_at hl 3 rfl) ?_
        obtain ⟨r11, h39, hf⟩ := bn1_someZ hf
        refine K_Life_claimOn hc hw hr6.1 hr6.2 wd_1443 h39 (hR.mono (by decide)) ⟨by omega, by omega⟩ hl.1 (Nat.le_of_ble_eq_true rfl) (dq tk_X_day 39 rfl) (fun H locs hw _ => ?_)
        cases hf
        exact z_end (by omega) (by omega) (x_iret hc hw hr (dq tk_X_day 40 rfl))
      · replace hf := if_f hf c2
        exact w_X_day_28 hc hr hR hnt hst hRc (by omega) hw (lv_sub hl [] rfl) hf
theorem c_X_day (hst : l.stackTraces = false) {N : Nat}  {x1 : Int32} {x2 : Int32} {x3 : Int32} {rv : Option Int32} {σ' : St} {σ : St} (hf : fX_day N x1 x2 x3 σ = some (rv, σ')) : Cz l Z y_X_day prog_1_method_15_code 5 (some .int) { frames := 9, cells := 2, slots := 12, locals := 60 * 9 } "java/util/NoSuchElementException" [.ref (Z.1 + 0), .int x1, .int x2, .int x3] (cmb σ μ) (rv.map (fun x => (some (.int x) : Option Value))) (cmb σ' μ) := by
  refine z_met (by decide) (Nat.le_of_ble_eq_true rfl) (fun p e s m args below meth c ls hc hnt hr hw hl => ?_)
  exact w_X_day hc hr ⟨Nat.le_refl _, Nat.le_refl _⟩ hnt hst ⟨Nat.le_refl _, Nat.le_refl _⟩ ⟨Nat.zero_le _, Nat.zero_le _⟩ hw hl hf
theorem KZ_X_day (hst0 : l.stackTraces = false) {idx : Nat} {N : Nat}  {x1 : Int32} {x2 : Int32} {x3 : Int32} {rv : Option Int32} {σ' : St} {σ : St} (hc : Cxz p s m meth c args cc own nL Z) (hw : Wd Z (cmb σ μ) s H locs) (hl : Cond.methodLink own idx y_X_day ∈ TB) (hf : fX_day N x1 x2 x3 σ = some (rv, σ')) (hR : RO R (9 + 1)) (hcs : cells + 2 ≤ R.cells ∧ slots + 12 ≤ R.slots) (hls : ls.size = nL) (hst : (rest.map fun v => v.category).sum ≤ 8) (hdg : decode cc pc = .ok (.invokevirtual idx, 3)) (kx : rv = none → ∀ (ce : Cell) (q : Addr) (H1 : Heap) (locs1 : List Loc), Wd Z (cmb σ' μ) s H1 locs1 → H1[q]? = some ce → ce.vm = .none → s.vm.findClass "java/util/NoSuchElementException" = some ce.cls → vx_W p l e R s m args below meth c H1 locs1 (cells + 2) (slots + 12) Q (F0 m pc ls rest) q) (kk : ∀ r1, rv = some r1 → ∀ (H1 : Heap) (locs1 : List Loc), Wd Z (cmb σ' μ) s H1 locs1 → W p l e R s m args below meth c H1 locs1 (cells + 2) (slots + 12) Q (F0 m (pc + 3) ls (.int r1 :: rest))) : W p l e R s m args below meth c H locs cells slots Q (F0 m pc ls (.int x3 :: .int x2 :: .int x1 :: .ref (Z.1 + 0) :: rest)) := by
  exact z_iv hc hw (c_X_day hst0 hf) yv_X_day (Nat.le_of_ble_eq_true rfl) rfl rfl hl (RO.call hR (by decide)) hcs rfl hls hst hdg rfl (fun hn => kx (by cases rv with | none => rfl | some _ => cases hn)) (fun v hv H1 locs1 hw1 => by cases rv with | none => cases hv | some r1 => cases hv; exact kk r1 rfl H1 locs1 hw1)
set_option maxRecDepth 10000 in
theorem w_X_claim {N : Nat} (hc : Cxz p s m meth c args prog_1_method_16_code "LabourExchange" 5 Z) (hr : meth.sig.returnType = (some .int)) (hR : RO R 9) (hnt : ∀ x ∈ c.exceptionTable.toList, False) (hst : l.stackTraces = false) (hRc : 3 ≤ R.cells ∧ 18 ≤ R.slots) {rv : Option Int32} {σ' : St} : ∀ {x1 : Int32} {x2 : Int32} {x3 : Int32} {σ : St} {H : Heap} {locs : List Loc} {ls : Array Slot} {cells slots : Nat}, cells ≤ 0 ∧ slots ≤ 0 → Wd Z (cmb σ μ) s H locs → lv_has ls 5 [(0, .ref (Z.1 + 0)), (1, .int x1), (2, .int x2), (3, .int x3)] → fX_claim N x1 x2 x3 σ = some (rv, σ') → W p l e R s m args below meth c H locs cells slots (vx_MQ below (Qz Z (rv.map (fun x => (some (.int x) : Option Value))) (cmb σ' μ)) (Xz Z "java/util/NoSuchElementException" (rv.map (fun x => (some (.int x) : Option Value))) (cmb σ' μ)) args s 3 18 (fun q => Z.1 ≤ q)) (F0 m 0 ls []) := by
  have hx := hc.hx
  have hb := hc.hb
  intro x1 x2 x3 σ H locs ls cells slots hcs hw hl hf
  unfold fX_claim at hf
  refine lv_aload_n hx hb (dq tk_X_claim 0 rfl) rfl (lv_at hl 0 rfl) ?_
  refine lv_iload_n hx hb (dq tk_X_claim 1 rfl) rfl (lv_at hl 1 rfl) ?_
  obtain ⟨q2, h2, hq2⟩ := btR_some hf
  refine KZ_X_requirePerson hst hc hw wd_1028 h2 (hR.mono (by decide)) ⟨by omega, by omega⟩ hl.1 (Nat.le_of_ble_eq_true rfl) (dq tk_X_claim 2 rfl) (fun hn ce q H locs hw hce hcv hcl => ?_) (fun u2 hr2 H locs hw => ?_)
  · rcases hq2 with ⟨-, hf⟩ | ⟨r, hrq, -⟩
    · cases hf
      exact z_out (v := none) hc hw hnt rfl hce hcv hcl (by omega) (by omega)
    · rw [hn] at hrq
      cases hrq
  · rcases hq2 with ⟨hn, -⟩ | ⟨r, hrq, hf⟩
    · rw [hn] at hr2
      cases hr2
    rw [hrq] at hr2
    obtain rfl : u2 = r := (Option.some.inj hr2).symm
    refine lv_iload_n hx hb (dq tk_X_claim 3 rfl) rfl (lv_at hl 3 rfl) ?_
    refine lv_bipush (v := 11) hx hb (dq tk_X_claim 4 rfl) (by decide) ?_
    obtain ⟨q5, h5, hq5⟩ := btR_some hf
    refine KZ_X_requireElement hst hc hw wd_1032 h5 (hR.mono (by decide)) ⟨by omega, by omega⟩ hl.1 (Nat.le_of_ble_eq_true rfl) (dq tk_X_claim 5 rfl) (fun hn ce q H locs hw hce hcv hcl => ?_) (fun u5 hr5 H locs hw => ?_)
    · rcases hq5 with ⟨-, hf⟩ | ⟨r, hrq, -⟩
      · cases hf
        exact z_out (v := none) hc hw hnt rfl hce hcv hcl (by omega) (by omega)
      · rw [hn] at hrq
        cases hrq
    · rcases hq5 with ⟨hn, -⟩ | ⟨r, hrq, hf⟩
      · rw [hn] at hr5
        cases hr5
      rw [hrq] at hr5
      obtain rfl : u5 = r := (Option.some.inj hr5).symm
      refine lv_aload_n hx hb (dq tk_X_claim 6 rfl) rfl (lv_at hl 0 rfl) ?_
      obtain ⟨r1, σ2, h7, hf⟩ := bnd_some hf
      refine K_X_asOfTheDay hc hw wd_1384 h7 (hR.mono (by decide)) ⟨by omega, by omega⟩ hl.1 (Nat.le_of_ble_eq_true rfl) (dq tk_X_claim 7 rfl) (fun H locs hw hr1 => ?_)
      refine lv_iload_n hx hb (dq tk_X_claim 8 rfl) rfl (lv_at hl 1 rfl) ?_
      obtain ⟨r3, σ4, h9, hf⟩ := bnd_some hf
      refine K_View_lifeOf hc hw hr1 wd_779 h9 (hR.mono (by decide)) ⟨by omega, by omega⟩ hl.1 (Nat.le_of_ble_eq_true rfl) (dq tk_X_claim 9 rfl) (fun H locs hw hr3 => ?_)
      refine lv_astore (lv' := [(4, .ref (Z.1 + (279 + 187 * r3.1 + 5 * r3.2))), (0, .ref (Z.1 + 0)), (1, .int x1), (2, .int x2), (3, .int x3)]) hx hb (dq tk_X_claim 10 rfl) hl (by decide) rfl (fun ls hl => ?_)
      refine lv_iload_n hx hb (dq tk_X_claim 11 rfl) rfl (lv_at hl 3 rfl) ?_
      refine lv_aload hx hb (dq tk_X_claim 12 rfl) (lv_at hl 0 rfl) ?_
      refine G_Life_claimCount hr3.1 hr3.2 hc hw wd_563 (dq tk_X_claim 13 rfl) ?_
      obtain ⟨q14, h14, hq14⟩ := btR_some hf
      refine KZ_X_requireElement hst hc hw wd_1032 h14 (hR.mono (by decide)) ⟨by omega, by omega⟩ hl.1 (Nat.le_of_ble_eq_true rfl) (dq tk_X_claim 14 rfl) (fun hn ce q H locs hw hce hcv hcl => ?_) (fun u14 hr14 H locs hw => ?_)
      · rcases hq14 with ⟨-, hf⟩ | ⟨r, hrq, -⟩
        · cases hf
          exact z_out (v := none) hc hw hnt rfl hce hcv hcl (by omega) (by omega)
        · rw [hn] at hrq
          cases hrq
      · rcases hq14 with ⟨hn, -⟩ | ⟨r, hrq, hf⟩
        · rw [hn] at hr14
          cases hr14
        rw [hrq] at hr14
        obtain rfl : u14 = r := (Option.some.inj hr14).symm
        refine lv_aload hx hb (dq tk_X_claim 15 rfl) (lv_at hl 0 rfl) ?_
        refine G_Life_claims hr3.1 hr3.2 hc hw wd_553 (dq tk_X_claim 16 rfl) ?_
        refine lv_iload_n hx hb (dq tk_X_claim 17 rfl) rfl (lv_at hl 3 rfl) ?_
        refine lv_bipush (v := 11) hx hb (dq tk_X_claim 18 rfl) (by decide) ?_
        refine lv_imul hx hb (dq tk_X_claim 19 rfl) ?_
        refine lv_iload_n hx hb (dq tk_X_claim 20 rfl) rfl (lv_at hl 4 rfl) ?_
        refine lv_iadd hx hb (dq tk_X_claim 21 rfl) ?_
        obtain ⟨c1, hf⟩ := chk_some hf
        refine AL_Life_claims hr3.1 hr3.2 hc hw c1 (dq tk_X_claim 22 rfl) ?_
        cases hf
        exact z_end (by omega) (by omega) (x_iret hc hw hr (dq tk_X_claim 23 rfl))
theorem c_X_claim (hst : l.stackTraces = false) {N : Nat}  {x1 : Int32} {x2 : Int32} {x3 : Int32} {rv : Option Int32} {σ' : St} {σ : St} (hf : fX_claim N x1 x2 x3 σ = some (rv, σ')) : Cz l Z y_X_claim prog_1_method_16_code 5 (some .int) { frames := 9, cells := 3, slots := 18, locals := 60 * 9 } "java/util/NoSuchElementException" [.ref (Z.1 + 0), .int x1, .int x2, .int x3] (cmb σ μ) (rv.map (fun x => (some (.int x) : Option Value))) (cmb σ' μ) := by
  refine z_met (by decide) (Nat.le_of_ble_eq_true rfl) (fun p e s m args below meth c ls hc hnt hr hw hl => ?_)
  exact w_X_claim hc hr ⟨Nat.le_refl _, Nat.le_refl _⟩ hnt hst ⟨Nat.le_refl _, Nat.le_refl _⟩ ⟨Nat.zero_le _, Nat.zero_le _⟩ hw hl hf
theorem KZ_X_claim (hst0 : l.stackTraces = false) {idx : Nat} {N : Nat}  {x1 : Int32} {x2 : Int32} {x3 : Int32} {rv : Option Int32} {σ' : St} {σ : St} (hc : Cxz p s m meth c args cc own nL Z) (hw : Wd Z (cmb σ μ) s H locs) (hl : Cond.methodLink own idx y_X_claim ∈ TB) (hf : fX_claim N x1 x2 x3 σ = some (rv, σ')) (hR : RO R (9 + 1)) (hcs : cells + 3 ≤ R.cells ∧ slots + 18 ≤ R.slots) (hls : ls.size = nL) (hst : (rest.map fun v => v.category).sum ≤ 8) (hdg : decode cc pc = .ok (.invokevirtual idx, 3)) (kx : rv = none → ∀ (ce : Cell) (q : Addr) (H1 : Heap) (locs1 : List Loc), Wd Z (cmb σ' μ) s H1 locs1 → H1[q]? = some ce → ce.vm = .none → s.vm.findClass "java/util/NoSuchElementException" = some ce.cls → vx_W p l e R s m args below meth c H1 locs1 (cells + 3) (slots + 18) Q (F0 m pc ls rest) q) (kk : ∀ r1, rv = some r1 → ∀ (H1 : Heap) (locs1 : List Loc), Wd Z (cmb σ' μ) s H1 locs1 → W p l e R s m args below meth c H1 locs1 (cells + 3) (slots + 18) Q (F0 m (pc + 3) ls (.int r1 :: rest))) : W p l e R s m args below meth c H locs cells slots Q (F0 m pc ls (.int x3 :: .int x2 :: .int x1 :: .ref (Z.1 + 0) :: rest)) := by
  exact z_iv hc hw (c_X_claim hst0 hf) yv_X_claim (Nat.le_of_ble_eq_true rfl) rfl rfl hl (RO.call hR (by decide)) hcs rfl hls hst hdg rfl (fun hn => kx (by cases rv with | none => rfl | some _ => cases hn)) (fun v hv H1 locs1 hw1 => by cases rv with | none => cases hv | some r1 => cases hv; exact kk r1 rfl H1 locs1 hw1)
set_option maxRecDepth 10000 in
theorem w_X_value {N : Nat} (hc : Cxz p s m meth c args prog_1_method_17_code "LabourExchange" 4 Z) (hr : meth.sig.returnType = (some .long)) (hR : RO R 8) (hnt : ∀ x ∈ c.exceptionTable.toList, False) (hst : l.stackTraces = false) (hRc : 2 ≤ R.cells ∧ 12 ≤ R.slots) {rv : Option Int64} {σ' : St} : ∀ {x1 : Int32} {x2 : Int32} {σ : St} {H : Heap} {locs : List Loc} {ls : Array Slot} {cells slots : Nat}, cells ≤ 0 ∧ slots ≤ 0 → Wd Z (cmb σ μ) s H locs → lv_has ls 4 [(0, .ref (Z.1 + 0)), (1, .int x1), (2, .int x2)] → fX_value N x1 x2 σ = some (rv, σ') → W p l e R s m args below meth c H locs cells slots (vx_MQ below (Qz Z (rv.map (fun x => (some (.long x) : Option Value))) (cmb σ' μ)) (Xz Z "java/util/NoSuchElementException" (rv.map (fun x => (some (.long x) : Option Value))) (cmb σ' μ)) args s 2 12 (fun q => Z.1 ≤ q)) (F0 m 0 ls []) := by
  have hx := hc.hx
  have hb := hc.hb
  intro x1 x2 σ H locs ls cells slots hcs hw hl hf
  unfold fX_value at hf
  refine lv_aload_n hx hb (dq tk_X_value 0 rfl) rfl (lv_at hl 0 rfl) ?_
  refine lv_iload_n hx hb (dq tk_X_value 1 rfl) rfl (lv_at hl 1 rfl) ?_
  obtain ⟨q2, h2, hq2⟩ := btR_some hf
  refine KZ_X_requirePerson hst hc hw wd_1028 h2 (hR.mono (by decide)) ⟨by omega, by omega⟩ hl.1 (Nat.le_of_ble_eq_true rfl) (dq tk_X_value 2 rfl) (fun hn ce q H locs hw hce hcv hcl => ?_) (fun u2 hr2 H locs hw => ?_)
  · rcases hq2 with ⟨-, hf⟩ | ⟨r, hrq, -⟩
    · cases hf
      exact z_out (v := none) hc hw hnt rfl hce hcv hcl (by omega) (by omega)
    · rw [hn] at hrq
      cases hrq
  · rcases hq2 with ⟨hn, -⟩ | ⟨r, hrq, hf⟩
    · rw [hn] at hr2
      cases hr2
    rw [hrq] at hr2
    obtain rfl : u2 = r := (Option.some.inj hr2).symm
    refine lv_iload_n hx hb (dq tk_X_value 3 rfl) rfl (lv_at hl 2 rfl) ?_
    refine lv_bipush (v := 9) hx hb (dq tk_X_value 4 rfl) (by decide) ?_
    obtain ⟨q5, h5, hq5⟩ := btR_some hf
    refine KZ_X_requireElement hst hc hw wd_1032 h5 (hR.mono (by decide)) ⟨by omega, by omega⟩ hl.1 (Nat.le_of_ble_eq_true rfl) (dq tk_X_value 5 rfl) (fun hn ce q H locs hw hce hcv hcl => ?_) (fun u5 hr5 H locs hw => ?_)
    · rcases hq5 with ⟨-, hf⟩ | ⟨r, hrq, -⟩
      · cases hf
        exact z_out (v := none) hc hw hnt rfl hce hcv hcl (by omega) (by omega)
      · rw [hn] at hrq
        cases hrq
    · rcases hq5 with ⟨hn, -⟩ | ⟨r, hrq, hf⟩
      · rw [hn] at hr5
        cases hr5
      rw [hrq] at hr5
      obtain rfl : u5 = r := (Option.some.inj hr5).symm
      refine lv_aload_n hx hb (dq tk_X_value 6 rfl) rfl (lv_at hl 0 rfl) ?_
      obtain ⟨r1, σ2, h7, hf⟩ := bnd_some hf
      refine K_X_asOfToday hc hw wd_744 h7 (hR.mono (by decide)) ⟨by omega, by omega⟩ hl.1 (Nat.le_of_ble_eq_true rfl) (dq tk_X_value 7 rfl) (fun H locs hw hr1 => ?_)
      refine lv_astore_n (lv' := [(3, .ref (Z.1 + (192 + 187 * r1))), (0, .ref (Z.1 + 0)), (1, .int x1), (2, .int x2)]) hx hb (dq tk_X_value 8 rfl) rfl hl (by decide) rfl (fun ls hl => ?_)
      refine lv_aload_n hx hb (dq tk_X_value 9 rfl) rfl (lv_at hl 0 rfl) ?_
      refine lv_iload_n hx hb (dq tk_X_value 10 rfl) rfl (lv_at hl 2 rfl) ?_
      obtain ⟨r3, σ4, h11, hf⟩ := bnd_some hf
      refine K_View_lifeOf hc hw hr1 wd_779 h11 (hR.mono (by decide)) ⟨by omega, by omega⟩ hl.1 (Nat.le_of_ble_eq_true rfl) (dq tk_X_value 11 rfl) (fun H locs hw hr3 => ?_)
      refine lv_aload_n hx hb (dq tk_X_value 12 rfl) rfl (lv_at hl 1 rfl) ?_
      refine G_X_today hc hw wd_664 (dq tk_X_value 13 rfl) ?_
      obtain ⟨σ5, h14, hf⟩ := bn1_someZ hf
      refine K_Life_setOut hc hw hr3.1 hr3.2 wd_1461 h14 (hR.mono (by decide)) ⟨by omega, by omega⟩ hl.1 (Nat.le_of_ble_eq_true rfl) (dq tk_X_value 14 rfl) (fun H locs hw _ => ?_)
      refine lv_aload_n hx hb (dq tk_X_value 15 rfl) rfl (lv_at hl 0 rfl) ?_
      refine G_View_law hr1 hc hw wd_622 (dq tk_X_value 16 rfl) ?_
      refine G_Law_values hr1 hc hw wd_510 (dq tk_X_value 17 rfl) ?_
      refine lv_bipush (v := 8) hx hb (dq tk_X_value 18 rfl) (by decide) ?_
      refine lv_iload_n hx hb (dq tk_X_value 19 rfl) rfl (lv_at hl 3 rfl) ?_
      refine lv_iadd hx hb (dq tk_X_value 20 rfl) ?_
      obtain ⟨c1, hf⟩ := chk_some hf
      refine AL_Law_values hr1 hc hw c1 (dq tk_X_value 21 rfl) ?_
      cases hf
      exact z_end (by omega) (by omega) (x_lret hc hw hr (dq tk_X_value 22 rfl))
theorem c_X_value (hst : l.stackTraces = false) {N : Nat}  {x1 : Int32} {x2 : Int32} {rv : Option Int64} {σ' : St} {σ : St} (hf : fX_value N x1 x2 σ = some (rv, σ')) : Cz l Z y_X_value prog_1_method_17_code 4 (some .long) { frames := 8, cells := 2, slots := 12, locals := 60 * 8 } "java/util/NoSuchElementException" [.ref (Z.1 + 0), .int x1, .int x2] (cmb σ μ) (rv.map (fun x => (some (.long x) : Option Value))) (cmb σ' μ) := by
  refine z_met (by decide) (Nat.le_of_ble_eq_true rfl) (fun p e s m args below meth c ls hc hnt hr hw hl => ?_)
  exact w_X_value hc hr ⟨Nat.le_refl _, Nat.le_refl _⟩ hnt hst ⟨Nat.le_refl _, Nat.le_refl _⟩ ⟨Nat.zero_le _, Nat.zero_le _⟩ hw hl hf
theorem KZ_X_value (hst0 : l.stackTraces = false) {idx : Nat} {N : Nat}  {x1 : Int32} {x2 : Int32} {rv : Option Int64} {σ' : St} {σ : St} (hc : Cxz p s m meth c args cc own nL Z) (hw : Wd Z (cmb σ μ) s H locs) (hl : Cond.methodLink own idx y_X_value ∈ TB) (hf : fX_value N x1 x2 σ = some (rv, σ')) (hR : RO R (8 + 1)) (hcs : cells + 2 ≤ R.cells ∧ slots + 12 ≤ R.slots) (hls : ls.size = nL) (hst : (rest.map fun v => v.category).sum ≤ 8) (hdg : decode cc pc = .ok (.invokevirtual idx, 3)) (kx : rv = none → ∀ (ce : Cell) (q : Addr) (H1 : Heap) (locs1 : List Loc), Wd Z (cmb σ' μ) s H1 locs1 → H1[q]? = some ce → ce.vm = .none → s.vm.findClass "java/util/NoSuchElementException" = some ce.cls → vx_W p l e R s m args below meth c H1 locs1 (cells + 2) (slots + 12) Q (F0 m pc ls rest) q) (kk : ∀ r1, rv = some r1 → ∀ (H1 : Heap) (locs1 : List Loc), Wd Z (cmb σ' μ) s H1 locs1 → W p l e R s m args below meth c H1 locs1 (cells + 2) (slots + 12) Q (F0 m (pc + 3) ls (.long r1 :: rest))) : W p l e R s m args below meth c H locs cells slots Q (F0 m pc ls (.int x2 :: .int x1 :: .ref (Z.1 + 0) :: rest)) := by
  exact z_iv hc hw (c_X_value hst0 hf) yv_X_value (Nat.le_of_ble_eq_true rfl) rfl rfl hl (RO.call hR (by decide)) hcs rfl hls hst hdg rfl (fun hn => kx (by cases rv with | none => rfl | some _ => cases hn)) (fun v hv H1 locs1 hw1 => by cases rv with | none => cases hv | some r1 => cases hv; exact kk r1 rfl H1 locs1 hw1)
set_option maxRecDepth 10000 in
theorem w_X_law_42 {N : Nat} (hc : Cxz p s m meth c args prog_1_method_18_code "LabourExchange" 5 Z) (hr : meth.sig.returnType = (some .int)) (hR : RO R 9) (hnt : ∀ x ∈ c.exceptionTable.toList, False) (hst : l.stackTraces = false) (hRc : 2 ≤ R.cells ∧ 12 ≤ R.slots) {rv : Option Int32} {σ' : St} : ∀ {x1 : Int32} {x2 : Int32} {x3 : Int32} {s0 : Int32} {s1 : Int32} {σ : St} {H : Heap} {locs : List Loc} {ls : Array Slot} {cells slots : Nat}, cells ≤ 1 ∧ slots ≤ 6 → Wd Z (cmb σ μ) s H locs → lv_has ls 5 [(0, .ref (Z.1 + 0)), (1, .int x1), (2, .int x2), (3, .int x3)] → fX_law_42 N x1 x2 x3 s0 s1 σ = some (rv, σ') → W p l e R s m args below meth c H locs cells slots (vx_MQ below (Qz Z (rv.map (fun x => (some (.int x) : Option Value))) (cmb σ' μ)) (Xz Z "java/util/NoSuchElementException" (rv.map (fun x => (some (.int x) : Option Value))) (cmb σ' μ)) args s 2 12 (fun q => Z.1 ≤ q)) (F0 m 42 ls [.int s1, .int s0]) := by
  have hx := hc.hx
  have hb := hc.hb
  intro x1 x2 x3 s0 s1 σ H locs ls cells slots hcs hw hl hf
  unfold fX_law_42 at hf
  obtain ⟨q22, h22, hq22⟩ := btR_some hf
  refine KZ_X_requireElement hst hc hw wd_1032 h22 (hR.mono (by decide)) ⟨by omega, by omega⟩ hl.1 (Nat.le_of_ble_eq_true rfl) (dq tk_X_law 22 rfl) (fun hn ce q H locs hw hce hcv hcl => ?_) (fun u22 hr22 H locs hw => ?_)
  · rcases hq22 with ⟨-, hf⟩ | ⟨r, hrq, -⟩
    · cases hf
      exact z_out (v := none) hc hw hnt rfl hce hcv hcl (by omega) (by omega)
    · rw [hn] at hrq
      cases hrq
  · rcases hq22 with ⟨hn, -⟩ | ⟨r, hrq, hf⟩
    · rw [hn] at hr22
      cases hr22
    rw [hrq] at hr22
    obtain rfl : u22 = r := (Option.some.inj hr22).symm
    refine lv_aload_n hx hb (dq tk_X_law 23 rfl) rfl (lv_at hl 0 rfl) ?_
    obtain ⟨r1, σ2, h24, hf⟩ := bnd_some hf
    refine K_X_asOfTheDay hc hw wd_1384 h24 (hR.mono (by decide)) ⟨by omega, by omega⟩ hl.1 (Nat.le_of_ble_eq_true rfl) (dq tk_X_law 24 rfl) (fun H locs hw hr1 => ?_)
    refine G_View_law hr1 hc hw wd_622 (dq tk_X_law 25 rfl) ?_
    refine lv_astore (lv' := [(4, .ref (Z.1 + (197 + 187 * r1))), (0, .ref (Z.1 + 0)), (1, .int x1), (2, .int x2), (3, .int x3)]) hx hb (dq tk_X_law 26 rfl) hl (by decide) rfl (fun ls hl => ?_)
    refine lv_iload_n hx hb (dq tk_X_law 27 rfl) rfl (lv_at hl 4 rfl) ?_
    refine lv_if_eq (tgt := 77) hx hb (dq tk_X_law 28 rfl) (by decide) (fun c1 => ?_) (fun c1 => ?_)
    · replace hf := if_t hf c1
      refine lv_aload hx hb (dq tk_X_law 40 rfl) (lv_at hl 0 rfl) ?_
      refine lv_iload_n hx hb (dq tk_X_law 41 rfl) rfl (lv_at hl 2 rfl) ?_
      refine lv_iload_n hx hb (dq tk_X_law 42 rfl) rfl (lv_at hl 3 rfl) ?_
      obtain ⟨r3, h43, hf⟩ := bn1_someZ hf
      refine K_Law_param hc hw hr1 wd_1403 h43 (hR.mono (by decide)) ⟨by omega, by omega⟩ hl.1 (Nat.le_of_ble_eq_true rfl) (dq tk_X_law 43 rfl) (fun H locs hw _ => ?_)
      cases hf
      exact z_end (by omega) (by omega) (x_iret hc hw hr (dq tk_X_law 44 rfl))
    · replace hf := if_f hf c1
      refine lv_aload hx hb (dq tk_X_law 29 rfl) (lv_at hl 0 rfl) ?_
      refine lv_iload_n hx hb (dq tk_X_law 30 rfl) rfl (lv_at hl 2 rfl) ?_
      refine lv_bipush (v := 10) hx hb (dq tk_X_law 31 rfl) (by decide) ?_
      refine lv_isub hx hb (dq tk_X_law 32 rfl) ?_
      refine lv_iload_n hx hb (dq tk_X_law 33 rfl) rfl (lv_at hl 3 rfl) ?_
      obtain ⟨r4, h34, hf⟩ := bn1_someZ hf
      refine K_Law_insures hc hw hr1 wd_1469 h34 (hR.mono (by decide)) ⟨by omega, by omega⟩ hl.1 (Nat.le_of_ble_eq_true rfl) (dq tk_X_law 34 rfl) (fun H locs hw _ => ?_)
      refine lv_if_eq (tgt := 75) hx hb (dq tk_X_law 35 rfl) (by decide) (fun c2 => ?_) (fun c2 => ?_)
      · replace hf := if_t hf c2
        refine lv_iconst (v := 0) hx hb (dq tk_X_law 38 rfl) (by decide) ?_
        cases hf
        exact z_end (by omega) (by omega) (x_iret hc hw hr (dq tk_X_law 39 rfl))
      · replace hf := if_f hf c2
        refine lv_iconst (v := 1) hx hb (dq tk_X_law 36 rfl) (by decide) ?_
        refine lv_goto (tgt := 76) hx hb (dq tk_X_law 37 rfl) (by decide) ?_
        cases hf
        exact z_end (by omega) (by omega) (x_iret hc hw hr (dq tk_X_law 39 rfl))
set_option maxRecDepth 10000 in
theorem w_X_law_31 {N : Nat} (hc : Cxz p s m meth c args prog_1_method_18_code "LabourExchange" 5 Z) (hr : meth.sig.returnType = (some .int)) (hR : RO R 9) (hnt : ∀ x ∈ c.exceptionTable.toList, False) (hst : l.stackTraces = false) (hRc : 2 ≤ R.cells ∧ 12 ≤ R.slots) {rv : Option Int32} {σ' : St} : ∀ {x1 : Int32} {x2 : Int32} {x3 : Int32} {s0 : Int32} {σ : St} {H : Heap} {locs : List Loc} {ls : Array Slot} {cells slots : Nat}, cells ≤ 1 ∧ slots ≤ 6 → Wd Z (cmb σ μ) s H locs → lv_has ls 5 [(0, .ref (Z.1 + 0)), (1, .int x1), (2, .int x2), (3, .int x3)] → fX_law_31 N x1 x2 x3 s0 σ = some (rv, σ') → W p l e R s m args below meth c H locs cells slots (vx_MQ below (Qz Z (rv.map (fun x => (some (.int x) : Option Value))) (cmb σ' μ)) (Xz Z "java/util/NoSuchElementException" (rv.map (fun x => (some (.int x) : Option Value))) (cmb σ' μ)) args s 2 12 (fun q => Z.1 ≤ q)) (F0 m 31 ls [.int s0]) := by
  have hx := hc.hx
  have hb := hc.hb
  intro x1 x2 x3 s0 σ H locs ls cells slots hcs hw hl hf
  unfold fX_law_31 at hf
  refine lv_iload_n hx hb (dq tk_X_law 17 rfl) rfl (lv_at hl 3 rfl) ?_
  refine lv_if_eq (tgt := 40) hx hb (dq tk_X_law 18 rfl) (by decide) (fun c1 => ?_) (fun c1 => ?_)
  · replace hf := if_t hf c1
    refine lv_bipush (v := 8) hx hb (dq tk_X_law 21 rfl) (by decide) ?_
    exact w_X_law_42 hc hr hR hnt hst hRc (by omega) hw (lv_sub hl [0, 1, 2, 3] rfl) hf
  · replace hf := if_f hf c1
    refine lv_bipush (v := 8) hx hb (dq tk_X_law 19 rfl) (by decide) ?_
    refine lv_goto (tgt := 42) hx hb (dq tk_X_law 20 rfl) (by decide) ?_
    exact w_X_law_42 hc hr hR hnt hst hRc (by omega) hw (lv_sub hl [0, 1, 2, 3] rfl) hf
set_option maxRecDepth 10000 in
theorem w_X_law_18 {N : Nat} (hc : Cxz p s m meth c args prog_1_method_18_code "LabourExchange" 5 Z) (hr : meth.sig.returnType = (some .int)) (hR : RO R 9) (hnt : ∀ x ∈ c.exceptionTable.toList, False) (hst : l.stackTraces = false) (hRc : 2 ≤ R.cells ∧ 12 ≤ R.slots) {rv : Option Int32} {σ' : St} : ∀ {x1 : Int32} {x2 : Int32} {s0 : Int32} {σ : St} {H : Heap} {locs : List Loc} {ls : Array Slot} {cells slots : Nat}, cells ≤ 1 ∧ slots ≤ 6 → Wd Z (cmb σ μ) s H locs → lv_has ls 5 [(0, .ref (Z.1 + 0)), (1, .int x1), (2, .int x2)] → fX_law_18 N x1 x2 s0 σ = some (rv, σ') → W p l e R s m args below meth c H locs cells slots (vx_MQ below (Qz Z (rv.map (fun x => (some (.int x) : Option Value))) (cmb σ' μ)) (Xz Z "java/util/NoSuchElementException" (rv.map (fun x => (some (.int x) : Option Value))) (cmb σ' μ)) args s 2 12 (fun q => Z.1 ≤ q)) (F0 m 18 ls [.int s0]) := by
  have hx := hc.hx
  have hb := hc.hb
  intro x1 x2 s0 σ H locs ls cells slots hcs hw hl hf
  unfold fX_law_18 at hf
  refine lv_istore_n (lv' := [(3, .int s0), (0, .ref (Z.1 + 0)), (1, .int x1), (2, .int x2)]) hx hb (dq tk_X_law 9 rfl) rfl hl (by decide) rfl (fun ls hl => ?_)
  refine lv_iload_n hx hb (dq tk_X_law 10 rfl) rfl (lv_at hl 0 rfl) ?_
  refine lv_if_eq (tgt := 30) hx hb (dq tk_X_law 11 rfl) (by decide) (fun c1 => ?_) (fun c1 => ?_)
  · replace hf := if_t hf c1
    refine lv_iload_n hx hb (dq tk_X_law 16 rfl) rfl (lv_at hl 2 rfl) ?_
    exact w_X_law_31 hc hr hR hnt hst hRc (by omega) hw (lv_sub hl [1, 2, 3, 0] rfl) hf
  · replace hf := if_f hf c1
    refine lv_iload_n hx hb (dq tk_X_law 12 rfl) rfl (lv_at hl 2 rfl) ?_
    refine lv_bipush (v := 10) hx hb (dq tk_X_law 13 rfl) (by decide) ?_
    refine lv_isub hx hb (dq tk_X_law 14 rfl) ?_
    refine lv_goto (tgt := 31) hx hb (dq tk_X_law 15 rfl) (by decide) ?_
    exact w_X_law_31 hc hr hR hnt hst hRc (by omega) hw (lv_sub hl [1, 2, 3, 0] rfl) hf
set_option maxRecDepth 10000 in
theorem w_X_law {N : Nat} (hc : Cxz p s m meth c args prog_1_method_18_code "LabourExchange" 5 Z) (hr : meth.sig.returnType = (some .int)) (hR : RO R 9) (hnt : ∀ x ∈ c.exceptionTable.toList, False) (hst : l.stackTraces = false) (hRc : 2 ≤ R.cells ∧ 12 ≤ R.slots) {rv : Option Int32} {σ' : St} : ∀ {x1 : Int32} {x2 : Int32} {σ : St} {H : Heap} {locs : List Loc} {ls : Array Slot} {cells slots : Nat}, cells ≤ 0 ∧ slots ≤ 0 → Wd Z (cmb σ μ) s H locs → lv_has ls 5 [(0, .ref (Z.1 + 0)), (1, .int x1), (2, .int x2)] → fX_law N x1 x2 σ = some (rv, σ') → W p l e R s m args below meth c H locs cells slots (vx_MQ below (Qz Z (rv.map (fun x => (some (.int x) : Option Value))) (cmb σ' μ)) (Xz Z "java/util/NoSuchElementException" (rv.map (fun x => (some (.int x) : Option Value))) (cmb σ' μ)) args s 2 12 (fun q => Z.1 ≤ q)) (F0 m 0 ls []) := by
  have hx := hc.hx
  have hb := hc.hb
  intro x1 x2 σ H locs ls cells slots hcs hw hl hf
  unfold fX_law at hf
  refine lv_iload_n hx hb (dq tk_X_law 0 rfl) rfl (lv_at hl 2 rfl) ?_
  refine lv_sipush (v := 936) hx hb (dq tk_X_law 1 rfl) (by decide) ?_
  obtain ⟨q2, h2, hq2⟩ := btR_some hf
  refine KZ_X_requireElement hst hc hw wd_1032 h2 (hR.mono (by decide)) ⟨by omega, by omega⟩ hl.1 (Nat.le_of_ble_eq_true rfl) (dq tk_X_law 2 rfl) (fun hn ce q H locs hw hce hcv hcl => ?_) (fun u2 hr2 H locs hw => ?_)
  · rcases hq2 with ⟨-, hf⟩ | ⟨r, hrq, -⟩
    · cases hf
      exact z_out (v := none) hc hw hnt rfl hce hcv hcl (by omega) (by omega)
    · rw [hn] at hrq
      cases hrq
  · rcases hq2 with ⟨hn, -⟩ | ⟨r, hrq, hf⟩
    · rw [hn] at hr2
      cases hr2
    rw [hrq] at hr2
    obtain rfl : u2 = r := (Option.some.inj hr2).symm
    refine lv_iload_n hx hb (dq tk_X_law 3 rfl) rfl (lv_at hl 1 rfl) ?_
    refine lv_bipush (v := 10) hx hb (dq tk_X_law 4 rfl) (by decide) ?_
    refine lv_icmp_lt (tgt := 17) hx hb (dq tk_X_law 5 rfl) (by decide) (fun c1 => ?_) (fun c1 => ?_)
    · replace hf := if_t hf c1
      refine lv_iconst (v := 0) hx hb (dq tk_X_law 8 rfl) (by decide) ?_
      exact w_X_law_18 hc hr hR hnt hst hRc (by omega) hw (lv_sub hl [0, 1, 2] rfl) hf
    · replace hf := if_f hf c1
      refine lv_iconst (v := 1) hx hb (dq tk_X_law 6 rfl) (by decide) ?_
      refine lv_goto (tgt := 18) hx hb (dq tk_X_law 7 rfl) (by decide) ?_
      exact w_X_law_18 hc hr hR hnt hst hRc (by omega) hw (lv_sub hl [0, 1, 2] rfl) hf
theorem c_X_law (hst : l.stackTraces = false) {N : Nat}  {x1 : Int32} {x2 : Int32} {rv : Option Int32} {σ' : St} {σ : St} (hf : fX_law N x1 x2 σ = some (rv, σ')) : Cz l Z y_X_law prog_1_method_18_code 5 (some .int) { frames := 9, cells := 2, slots := 12, locals := 60 * 9 } "java/util/NoSuchElementException" [.ref (Z.1 + 0), .int x1, .int x2] (cmb σ μ) (rv.map (fun x => (some (.int x) : Option Value))) (cmb σ' μ) := by
  refine z_met (by decide) (Nat.le_of_ble_eq_true rfl) (fun p e s m args below meth c ls hc hnt hr hw hl => ?_)
  exact w_X_law hc hr ⟨Nat.le_refl _, Nat.le_refl _⟩ hnt hst ⟨Nat.le_refl _, Nat.le_refl _⟩ ⟨Nat.zero_le _, Nat.zero_le _⟩ hw hl hf
theorem KZ_X_law (hst0 : l.stackTraces = false) {idx : Nat} {N : Nat}  {x1 : Int32} {x2 : Int32} {rv : Option Int32} {σ' : St} {σ : St} (hc : Cxz p s m meth c args cc own nL Z) (hw : Wd Z (cmb σ μ) s H locs) (hl : Cond.methodLink own idx y_X_law ∈ TB) (hf : fX_law N x1 x2 σ = some (rv, σ')) (hR : RO R (9 + 1)) (hcs : cells + 2 ≤ R.cells ∧ slots + 12 ≤ R.slots) (hls : ls.size = nL) (hst : (rest.map fun v => v.category).sum ≤ 8) (hdg : decode cc pc = .ok (.invokevirtual idx, 3)) (kx : rv = none → ∀ (ce : Cell) (q : Addr) (H1 : Heap) (locs1 : List Loc), Wd Z (cmb σ' μ) s H1 locs1 → H1[q]? = some ce → ce.vm = .none → s.vm.findClass "java/util/NoSuchElementException" = some ce.cls → vx_W p l e R s m args below meth c H1 locs1 (cells + 2) (slots + 12) Q (F0 m pc ls rest) q) (kk : ∀ r1, rv = some r1 → ∀ (H1 : Heap) (locs1 : List Loc), Wd Z (cmb σ' μ) s H1 locs1 → W p l e R s m args below meth c H1 locs1 (cells + 2) (slots + 12) Q (F0 m (pc + 3) ls (.int r1 :: rest))) : W p l e R s m args below meth c H locs cells slots Q (F0 m pc ls (.int x2 :: .int x1 :: .ref (Z.1 + 0) :: rest)) := by
  exact z_iv hc hw (c_X_law hst0 hf) yv_X_law (Nat.le_of_ble_eq_true rfl) rfl rfl hl (RO.call hR (by decide)) hcs rfl hls hst hdg rfl (fun hn => kx (by cases rv with | none => rfl | some _ => cases hn)) (fun v hv H1 locs1 hw1 => by cases rv with | none => cases hv | some r1 => cases hv; exact kk r1 rfl H1 locs1 hw1)
set_option maxRecDepth 10000 in
theorem w_X_paid {N : Nat} (hc : Cxz p s m meth c args prog_1_method_19_code "LabourExchange" 3 Z) (hr : meth.sig.returnType = (some .int)) (hR : RO R 9) (hnt : ∀ x ∈ c.exceptionTable.toList, False) (hst : l.stackTraces = false) (hRc : 2 ≤ R.cells ∧ 12 ≤ R.slots) {rv : Option Int32} {σ' : St} : ∀ {x1 : Int32} {x2 : Int32} {σ : St} {H : Heap} {locs : List Loc} {ls : Array Slot} {cells slots : Nat}, cells ≤ 0 ∧ slots ≤ 0 → Wd Z (cmb σ μ) s H locs → lv_has ls 3 [(0, .ref (Z.1 + 0)), (1, .int x1), (2, .int x2)] → fX_paid N x1 x2 σ = some (rv, σ') → W p l e R s m args below meth c H locs cells slots (vx_MQ below (Qz Z (rv.map (fun x => (some (.int x) : Option Value))) (cmb σ' μ)) (Xz Z "java/util/NoSuchElementException" (rv.map (fun x => (some (.int x) : Option Value))) (cmb σ' μ)) args s 2 12 (fun q => Z.1 ≤ q)) (F0 m 0 ls []) := by
  have hx := hc.hx
  have hb := hc.hb
  intro x1 x2 σ H locs ls cells slots hcs hw hl hf
  unfold fX_paid at hf
  refine lv_aload_n hx hb (dq tk_X_paid 0 rfl) rfl (lv_at hl 0 rfl) ?_
  refine lv_iload_n hx hb (dq tk_X_paid 1 rfl) rfl (lv_at hl 1 rfl) ?_
  obtain ⟨q2, h2, hq2⟩ := btR_some hf
  refine KZ_X_requirePerson hst hc hw wd_1028 h2 (hR.mono (by decide)) ⟨by omega, by omega⟩ hl.1 (Nat.le_of_ble_eq_true rfl) (dq tk_X_paid 2 rfl) (fun hn ce q H locs hw hce hcv hcl => ?_) (fun u2 hr2 H locs hw => ?_)
  · rcases hq2 with ⟨-, hf⟩ | ⟨r, hrq, -⟩
    · cases hf
      exact z_out (v := none) hc hw hnt rfl hce hcv hcl (by omega) (by omega)
    · rw [hn] at hrq
      cases hrq
  · rcases hq2 with ⟨hn, -⟩ | ⟨r, hrq, hf⟩
    · rw [hn] at hr2
      cases hr2
    rw [hrq] at hr2
    obtain rfl : u2 = r := (Option.some.inj hr2).symm
    refine lv_iload_n hx hb (dq tk_X_paid 3 rfl) rfl (lv_at hl 2 rfl) ?_
    by_cases c3_0 : x2 = 0
    · replace hf := if_t hf c3_0
      refine lv_tableIn (tgt := 32) hx hb (dq tk_X_paid 4 rfl) (by rw [c3_0]; decide) (by rw [c3_0]; decide) (by rw [c3_0]; first | done | rfl) (by decide) ?_
      refine lv_aload_n hx hb (dq tk_X_paid 5 rfl) rfl (lv_at hl 0 rfl) ?_
      refine G_X_land hc hw wd_652 (dq tk_X_paid 6 rfl) ?_
      refine G_Land_received hc hw wd_108 (dq tk_X_paid 7 rfl) ?_
      refine lv_iload_n hx hb (dq tk_X_paid 8 rfl) rfl (lv_at hl 1 rfl) ?_
      obtain ⟨c1, hf⟩ := chk_some hf
      refine AL_Land_received hc hw c1 (dq tk_X_paid 9 rfl) ?_
      cases hf
      exact z_end (by omega) (by omega) (x_iret hc hw hr (dq tk_X_paid 10 rfl))
    replace hf := if_f hf c3_0
    by_cases c3_1 : x2 = 1
    · replace hf := if_t hf c3_1
      refine lv_tableIn (tgt := 42) hx hb (dq tk_X_paid 4 rfl) (by rw [c3_1]; decide) (by rw [c3_1]; decide) (by rw [c3_1]; first | done | rfl) (by decide) ?_
      refine lv_aload_n hx hb (dq tk_X_paid 11 rfl) rfl (lv_at hl 0 rfl) ?_
      refine G_X_land hc hw wd_652 (dq tk_X_paid 12 rfl) ?_
      refine G_Land_owed hc hw wd_110 (dq tk_X_paid 13 rfl) ?_
      refine lv_iload_n hx hb (dq tk_X_paid 14 rfl) rfl (lv_at hl 1 rfl) ?_
      obtain ⟨c2, hf⟩ := chk_some hf
      refine AL_Land_owed hc hw c2 (dq tk_X_paid 15 rfl) ?_
      cases hf
      exact z_end (by omega) (by omega) (x_iret hc hw hr (dq tk_X_paid 16 rfl))
    replace hf := if_f hf c3_1
    by_cases c3_2 : x2 = 2
    · replace hf := if_t hf c3_2
      refine lv_tableIn (tgt := 52) hx hb (dq tk_X_paid 4 rfl) (by rw [c3_2]; decide) (by rw [c3_2]; decide) (by rw [c3_2]; first | done | rfl) (by decide) ?_
      refine lv_aload_n hx hb (dq tk_X_paid 17 rfl) rfl (lv_at hl 0 rfl) ?_
      obtain ⟨r1, σ2, h18, hf⟩ := bnd_some hf
      refine K_X_asOfTheDay hc hw wd_1384 h18 (hR.mono (by decide)) ⟨by omega, by omega⟩ hl.1 (Nat.le_of_ble_eq_true rfl) (dq tk_X_paid 18 rfl) (fun H locs hw hr1 => ?_)
      refine lv_iload_n hx hb (dq tk_X_paid 19 rfl) rfl (lv_at hl 1 rfl) ?_
      obtain ⟨r3, σ4, h20, hf⟩ := bnd_some hf
      refine K_View_lifeOf hc hw hr1 wd_779 h20 (hR.mono (by decide)) ⟨by omega, by omega⟩ hl.1 (Nat.le_of_ble_eq_true rfl) (dq tk_X_paid 20 rfl) (fun H locs hw hr3 => ?_)
      refine G_Life_totals hr3.1 hr3.2 hc hw wd_557 (dq tk_X_paid 21 rfl) ?_
      refine lv_iconst (v := 0) hx hb (dq tk_X_paid 22 rfl) (by decide) ?_
      refine AL_Life_totals hr3.1 hr3.2 hc hw (by decide) (dq tk_X_paid 23 rfl) ?_
      cases hf
      exact z_end (by omega) (by omega) (x_iret hc hw hr (dq tk_X_paid 24 rfl))
    replace hf := if_f hf c3_2
    refine lv_tableOut (tgt := 66) hx hb (dq tk_X_paid 4 rfl) (sw_out (fun k h1 h2 => by
      have h3 : k = 0 ∨ k = 1 ∨ k = 2 := by omega
      rcases h3 with rfl | rfl | rfl
      · exact c3_0
      · exact c3_1
      · exact c3_2
      )) (by decide) ?_
    cases hf
    exact z_throwN hc hw hnt hst hl.1 (dq tk_X_paid 25 rfl) (dq tk_X_paid 26 rfl) (dq tk_X_paid 27 rfl) (dq tk_X_paid 28 rfl) (hR.mono (by decide)) (by omega) (by omega) (by omega) (by omega)
theorem c_X_paid (hst : l.stackTraces = false) {N : Nat}  {x1 : Int32} {x2 : Int32} {rv : Option Int32} {σ' : St} {σ : St} (hf : fX_paid N x1 x2 σ = some (rv, σ')) : Cz l Z y_X_paid prog_1_method_19_code 3 (some .int) { frames := 9, cells := 2, slots := 12, locals := 60 * 9 } "java/util/NoSuchElementException" [.ref (Z.1 + 0), .int x1, .int x2] (cmb σ μ) (rv.map (fun x => (some (.int x) : Option Value))) (cmb σ' μ) := by
  refine z_met (by decide) (Nat.le_of_ble_eq_true rfl) (fun p e s m args below meth c ls hc hnt hr hw hl => ?_)
  exact w_X_paid hc hr ⟨Nat.le_refl _, Nat.le_refl _⟩ hnt hst ⟨Nat.le_refl _, Nat.le_refl _⟩ ⟨Nat.zero_le _, Nat.zero_le _⟩ hw hl hf
theorem KZ_X_paid (hst0 : l.stackTraces = false) {idx : Nat} {N : Nat}  {x1 : Int32} {x2 : Int32} {rv : Option Int32} {σ' : St} {σ : St} (hc : Cxz p s m meth c args cc own nL Z) (hw : Wd Z (cmb σ μ) s H locs) (hl : Cond.methodLink own idx y_X_paid ∈ TB) (hf : fX_paid N x1 x2 σ = some (rv, σ')) (hR : RO R (9 + 1)) (hcs : cells + 2 ≤ R.cells ∧ slots + 12 ≤ R.slots) (hls : ls.size = nL) (hst : (rest.map fun v => v.category).sum ≤ 8) (hdg : decode cc pc = .ok (.invokevirtual idx, 3)) (kx : rv = none → ∀ (ce : Cell) (q : Addr) (H1 : Heap) (locs1 : List Loc), Wd Z (cmb σ' μ) s H1 locs1 → H1[q]? = some ce → ce.vm = .none → s.vm.findClass "java/util/NoSuchElementException" = some ce.cls → vx_W p l e R s m args below meth c H1 locs1 (cells + 2) (slots + 12) Q (F0 m pc ls rest) q) (kk : ∀ r1, rv = some r1 → ∀ (H1 : Heap) (locs1 : List Loc), Wd Z (cmb σ' μ) s H1 locs1 → W p l e R s m args below meth c H1 locs1 (cells + 2) (slots + 12) Q (F0 m (pc + 3) ls (.int r1 :: rest))) : W p l e R s m args below meth c H locs cells slots Q (F0 m pc ls (.int x2 :: .int x1 :: .ref (Z.1 + 0) :: rest)) := by
  exact z_iv hc hw (c_X_paid hst0 hf) yv_X_paid (Nat.le_of_ble_eq_true rfl) rfl rfl hl (RO.call hR (by decide)) hcs rfl hls hst hdg rfl (fun hn => kx (by cases rv with | none => rfl | some _ => cases hn)) (fun v hv H1 locs1 hw1 => by cases rv with | none => cases hv | some r1 => cases hv; exact kk r1 rfl H1 locs1 hw1)
set_option maxRecDepth 10000 in
theorem w_X_fund {N : Nat} (hc : Cxz p s m meth c args prog_1_method_20_code "LabourExchange" 2 Z) (hr : meth.sig.returnType = (some .int)) (hR : RO R 6) (hnt : ∀ x ∈ c.exceptionTable.toList, False) (hst : l.stackTraces = false) (hRc : 1 ≤ R.cells ∧ 6 ≤ R.slots) {rv : Option Int32} {σ : St} : ∀ {x1 : Int32} {H : Heap} {locs : List Loc} {ls : Array Slot} {cells slots : Nat}, cells ≤ 0 ∧ slots ≤ 0 → Wd Z (cmb σ μ) s H locs → lv_has ls 2 [(0, .ref (Z.1 + 0)), (1, .int x1)] → fX_fund N x1 σ = some rv → W p l e R s m args below meth c H locs cells slots (vx_MQ below (Qz Z (rv.map (fun x => (some (.int x) : Option Value))) (cmb σ μ)) (Xz Z "java/util/NoSuchElementException" (rv.map (fun x => (some (.int x) : Option Value))) (cmb σ μ)) args s 1 6 (fun q => Z.1 ≤ q)) (F0 m 0 ls []) := by
  have hx := hc.hx
  have hb := hc.hb
  intro x1 H locs ls cells slots hcs hw hl hf
  unfold fX_fund at hf
  refine lv_iload_n hx hb (dq tk_X_fund 0 rfl) rfl (lv_at hl 1 rfl) ?_
  by_cases c1_0 : x1 = 0
  · replace hf := if_t hf c1_0
    refine lv_tableIn (tgt := 32) hx hb (dq tk_X_fund 1 rfl) (by rw [c1_0]; decide) (by rw [c1_0]; decide) (by rw [c1_0]; first | done | rfl) (by decide) ?_
    refine lv_aload_n hx hb (dq tk_X_fund 2 rfl) rfl (lv_at hl 0 rfl) ?_
    refine G_X_land hc hw wd_652 (dq tk_X_fund 3 rfl) ?_
    refine G_Land_has hc hw wd_112 (dq tk_X_fund 4 rfl) ?_
    cases hf
    exact z_end (by omega) (by omega) (x_iret hc hw hr (dq tk_X_fund 5 rfl))
  replace hf := if_f hf c1_0
  by_cases c1_1 : x1 = 1
  · replace hf := if_t hf c1_1
    refine lv_tableIn (tgt := 40) hx hb (dq tk_X_fund 1 rfl) (by rw [c1_1]; decide) (by rw [c1_1]; decide) (by rw [c1_1]; first | done | rfl) (by decide) ?_
    refine lv_aload_n hx hb (dq tk_X_fund 6 rfl) rfl (lv_at hl 0 rfl) ?_
    refine G_X_land hc hw wd_652 (dq tk_X_fund 7 rfl) ?_
    refine G_Land_got hc hw wd_114 (dq tk_X_fund 8 rfl) ?_
    cases hf
    exact z_end (by omega) (by omega) (x_iret hc hw hr (dq tk_X_fund 9 rfl))
  replace hf := if_f hf c1_1
  by_cases c1_2 : x1 = 2
  · replace hf := if_t hf c1_2
    refine lv_tableIn (tgt := 48) hx hb (dq tk_X_fund 1 rfl) (by rw [c1_2]; decide) (by rw [c1_2]; decide) (by rw [c1_2]; first | done | rfl) (by decide) ?_
    refine lv_aload_n hx hb (dq tk_X_fund 10 rfl) rfl (lv_at hl 0 rfl) ?_
    refine G_X_land hc hw wd_652 (dq tk_X_fund 11 rfl) ?_
    refine G_Land_gave hc hw wd_116 (dq tk_X_fund 12 rfl) ?_
    cases hf
    exact z_end (by omega) (by omega) (x_iret hc hw hr (dq tk_X_fund 13 rfl))
  replace hf := if_f hf c1_2
  by_cases c1_3 : x1 = 3
  · replace hf := if_t hf c1_3
    refine lv_tableIn (tgt := 56) hx hb (dq tk_X_fund 1 rfl) (by rw [c1_3]; decide) (by rw [c1_3]; decide) (by rw [c1_3]; first | done | rfl) (by decide) ?_
    refine lv_aload_n hx hb (dq tk_X_fund 14 rfl) rfl (lv_at hl 0 rfl) ?_
    refine G_X_land hc hw wd_652 (dq tk_X_fund 15 rfl) ?_
    obtain ⟨r1, h16, hf⟩ := bn1_someZ hf
    refine K_Land_lasts hc hw wd_1484 h16 (hR.mono (by decide)) ⟨by omega, by omega⟩ hl.1 (Nat.le_of_ble_eq_true rfl) (dq tk_X_fund 16 rfl) (fun H locs hw _ => ?_)
    cases hf
    exact z_end (by omega) (by omega) (x_iret hc hw hr (dq tk_X_fund 17 rfl))
  replace hf := if_f hf c1_3
  refine lv_tableOut (tgt := 64) hx hb (dq tk_X_fund 1 rfl) (sw_out (fun k h1 h2 => by
    have h3 : k = 0 ∨ k = 1 ∨ k = 2 ∨ k = 3 := by omega
    rcases h3 with rfl | rfl | rfl | rfl
    · exact c1_0
    · exact c1_1
    · exact c1_2
    · exact c1_3
    )) (by decide) ?_
  cases hf
  exact z_throwN hc hw hnt hst hl.1 (dq tk_X_fund 18 rfl) (dq tk_X_fund 19 rfl) (dq tk_X_fund 20 rfl) (dq tk_X_fund 21 rfl) (hR.mono (by decide)) (by omega) (by omega) (by omega) (by omega)
theorem c_X_fund (hst : l.stackTraces = false) {N : Nat}  {x1 : Int32} {rv : Option Int32} {σ : St} (hf : fX_fund N x1 σ = some rv) : Cz l Z y_X_fund prog_1_method_20_code 2 (some .int) { frames := 6, cells := 1, slots := 6, locals := 60 * 6 } "java/util/NoSuchElementException" [.ref (Z.1 + 0), .int x1] (cmb σ μ) (rv.map (fun x => (some (.int x) : Option Value))) (cmb σ μ) := by
  refine z_met (by decide) (Nat.le_of_ble_eq_true rfl) (fun p e s m args below meth c ls hc hnt hr hw hl => ?_)
  exact w_X_fund hc hr ⟨Nat.le_refl _, Nat.le_refl _⟩ hnt hst ⟨Nat.le_refl _, Nat.le_refl _⟩ ⟨Nat.zero_le _, Nat.zero_le _⟩ hw hl hf
theorem KZ_X_fund (hst0 : l.stackTraces = false) {idx : Nat} {N : Nat}  {x1 : Int32} {rv : Option Int32} {σ : St} (hc : Cxz p s m meth c args cc own nL Z) (hw : Wd Z (cmb σ μ) s H locs) (hl : Cond.methodLink own idx y_X_fund ∈ TB) (hf : fX_fund N x1 σ = some rv) (hR : RO R (6 + 1)) (hcs : cells + 1 ≤ R.cells ∧ slots + 6 ≤ R.slots) (hls : ls.size = nL) (hst : (rest.map fun v => v.category).sum ≤ 8) (hdg : decode cc pc = .ok (.invokevirtual idx, 3)) (kx : rv = none → ∀ (ce : Cell) (q : Addr) (H1 : Heap) (locs1 : List Loc), Wd Z (cmb σ μ) s H1 locs1 → H1[q]? = some ce → ce.vm = .none → s.vm.findClass "java/util/NoSuchElementException" = some ce.cls → vx_W p l e R s m args below meth c H1 locs1 (cells + 1) (slots + 6) Q (F0 m pc ls rest) q) (kk : ∀ r1, rv = some r1 → ∀ (H1 : Heap) (locs1 : List Loc), Wd Z (cmb σ μ) s H1 locs1 → W p l e R s m args below meth c H1 locs1 (cells + 1) (slots + 6) Q (F0 m (pc + 3) ls (.int r1 :: rest))) : W p l e R s m args below meth c H locs cells slots Q (F0 m pc ls (.int x1 :: .ref (Z.1 + 0) :: rest)) := by
  exact z_iv hc hw (c_X_fund hst0 hf) yv_X_fund (Nat.le_of_ble_eq_true rfl) rfl rfl hl (RO.call hR (by decide)) hcs rfl hls hst hdg rfl (fun hn => kx (by cases rv with | none => rfl | some _ => cases hn)) (fun v hv H1 locs1 hw1 => by cases rv with | none => cases hv | some r1 => cases hv; exact kk r1 rfl H1 locs1 hw1)
set_option maxRecDepth 10000 in
theorem w_X_known {N : Nat} (hc : Cxz p s m meth c args prog_1_method_22_code "LabourExchange" 3 Z) (hr : meth.sig.returnType = (some .int)) (hR : RO R 7) (hnt : ∀ x ∈ c.exceptionTable.toList, False) (hst : l.stackTraces = false) (hRc : 2 ≤ R.cells ∧ 12 ≤ R.slots) {rv : Option Int32} {σ : St} : ∀ {x1 : Int32} {x2 : Int32} {H : Heap} {locs : List Loc} {ls : Array Slot} {cells slots : Nat}, cells ≤ 0 ∧ slots ≤ 0 → Wd Z (cmb σ μ) s H locs → lv_has ls 3 [(0, .ref (Z.1 + 0)), (1, .int x1), (2, .int x2)] → fX_known N x1 x2 σ = some rv → W p l e R s m args below meth c H locs cells slots (vx_MQ below (Qz Z (rv.map (fun x => (some (.int x) : Option Value))) (cmb σ μ)) (Xz Z "java/util/NoSuchElementException" (rv.map (fun x => (some (.int x) : Option Value))) (cmb σ μ)) args s 2 12 (fun q => Z.1 ≤ q)) (F0 m 0 ls []) := by
  have hx := hc.hx
  have hb := hc.hb
  intro x1 x2 H locs ls cells slots hcs hw hl hf
  unfold fX_known at hf
  refine lv_iload_n hx hb (dq tk_X_known 0 rfl) rfl (lv_at hl 1 rfl) ?_
  refine lv_aload_n hx hb (dq tk_X_known 1 rfl) rfl (lv_at hl 0 rfl) ?_
  refine G_X_market hc hw wd_656 (dq tk_X_known 2 rfl) ?_
  refine G_Market_vacancies hc hw wd_255 (dq tk_X_known 3 rfl) ?_
  obtain ⟨q4, h4, hq4⟩ := btO_some hf
  refine KZ_X_requireElement hst hc hw wd_1032 h4 (hR.mono (by decide)) ⟨by omega, by omega⟩ hl.1 (Nat.le_of_ble_eq_true rfl) (dq tk_X_known 4 rfl) (fun hn ce q H locs hw hce hcv hcl => ?_) (fun u4 hr4 H locs hw => ?_)
  · rcases hq4 with ⟨-, hf⟩ | ⟨r, hrq, -⟩
    · cases hf
      exact z_out (v := none) hc hw hnt rfl hce hcv hcl (by omega) (by omega)
    · rw [hn] at hrq
      cases hrq
  · rcases hq4 with ⟨hn, -⟩ | ⟨r, hrq, hf⟩
    · rw [hn] at hr4
      cases hr4
    rw [hrq] at hr4
    obtain rfl : u4 = r := (Option.some.inj hr4).symm
    refine lv_iload_n hx hb (dq tk_X_known 5 rfl) rfl (lv_at hl 2 rfl) ?_
    refine lv_aload_n hx hb (dq tk_X_known 6 rfl) rfl (lv_at hl 0 rfl) ?_
    refine G_X_land hc hw wd_652 (dq tk_X_known 7 rfl) ?_
    refine G_Land_offices hc hw wd_89 (dq tk_X_known 8 rfl) ?_
    obtain ⟨q9, h9, hq9⟩ := btO_some hf
    refine KZ_X_requireElement hst hc hw wd_1032 h9 (hR.mono (by decide)) ⟨by omega, by omega⟩ hl.1 (Nat.le_of_ble_eq_true rfl) (dq tk_X_known 9 rfl) (fun hn ce q H locs hw hce hcv hcl => ?_) (fun u9 hr9 H locs hw => ?_)
    · rcases hq9 with ⟨-, hf⟩ | ⟨r, hrq, -⟩
      · cases hf
        exact z_out (v := none) hc hw hnt rfl hce hcv hcl (by omega) (by omega)
      · rw [hn] at hrq
        cases hrq
    · rcases hq9 with ⟨hn, -⟩ | ⟨r, hrq, hf⟩
      · rw [hn] at hr9
        cases hr9
      rw [hrq] at hr9
      obtain rfl : u9 = r := (Option.some.inj hr9).symm
      refine lv_aload_n hx hb (dq tk_X_known 10 rfl) rfl (lv_at hl 0 rfl) ?_
      refine G_X_market hc hw wd_656 (dq tk_X_known 11 rfl) ?_
      refine lv_iload_n hx hb (dq tk_X_known 12 rfl) rfl (lv_at hl 1 rfl) ?_
      refine lv_iload_n hx hb (dq tk_X_known 13 rfl) rfl (lv_at hl 2 rfl) ?_
      obtain ⟨r1, h14, hf⟩ := bn1_someZ hf
      refine K_Market_knownFrom hc hw wd_1499 h14 (hR.mono (by decide)) ⟨by omega, by omega⟩ hl.1 (Nat.le_of_ble_eq_true rfl) (dq tk_X_known 14 rfl) (fun H locs hw _ => ?_)
      cases hf
      exact z_end (by omega) (by omega) (x_iret hc hw hr (dq tk_X_known 15 rfl))
theorem c_X_known (hst : l.stackTraces = false) {N : Nat}  {x1 : Int32} {x2 : Int32} {rv : Option Int32} {σ : St} (hf : fX_known N x1 x2 σ = some rv) : Cz l Z y_X_known prog_1_method_22_code 3 (some .int) { frames := 7, cells := 2, slots := 12, locals := 60 * 7 } "java/util/NoSuchElementException" [.ref (Z.1 + 0), .int x1, .int x2] (cmb σ μ) (rv.map (fun x => (some (.int x) : Option Value))) (cmb σ μ) := by
  refine z_met (by decide) (Nat.le_of_ble_eq_true rfl) (fun p e s m args below meth c ls hc hnt hr hw hl => ?_)
  exact w_X_known hc hr ⟨Nat.le_refl _, Nat.le_refl _⟩ hnt hst ⟨Nat.le_refl _, Nat.le_refl _⟩ ⟨Nat.zero_le _, Nat.zero_le _⟩ hw hl hf
theorem KZ_X_known (hst0 : l.stackTraces = false) {idx : Nat} {N : Nat}  {x1 : Int32} {x2 : Int32} {rv : Option Int32} {σ : St} (hc : Cxz p s m meth c args cc own nL Z) (hw : Wd Z (cmb σ μ) s H locs) (hl : Cond.methodLink own idx y_X_known ∈ TB) (hf : fX_known N x1 x2 σ = some rv) (hR : RO R (7 + 1)) (hcs : cells + 2 ≤ R.cells ∧ slots + 12 ≤ R.slots) (hls : ls.size = nL) (hst : (rest.map fun v => v.category).sum ≤ 8) (hdg : decode cc pc = .ok (.invokevirtual idx, 3)) (kx : rv = none → ∀ (ce : Cell) (q : Addr) (H1 : Heap) (locs1 : List Loc), Wd Z (cmb σ μ) s H1 locs1 → H1[q]? = some ce → ce.vm = .none → s.vm.findClass "java/util/NoSuchElementException" = some ce.cls → vx_W p l e R s m args below meth c H1 locs1 (cells + 2) (slots + 12) Q (F0 m pc ls rest) q) (kk : ∀ r1, rv = some r1 → ∀ (H1 : Heap) (locs1 : List Loc), Wd Z (cmb σ μ) s H1 locs1 → W p l e R s m args below meth c H1 locs1 (cells + 2) (slots + 12) Q (F0 m (pc + 3) ls (.int r1 :: rest))) : W p l e R s m args below meth c H locs cells slots Q (F0 m pc ls (.int x2 :: .int x1 :: .ref (Z.1 + 0) :: rest)) := by
  exact z_iv hc hw (c_X_known hst0 hf) yv_X_known (Nat.le_of_ble_eq_true rfl) rfl rfl hl (RO.call hR (by decide)) hcs rfl hls hst hdg rfl (fun hn => kx (by cases rv with | none => rfl | some _ => cases hn)) (fun v hv H1 locs1 hw1 => by cases rv with | none => cases hv | some r1 => cases hv; exact kk r1 rfl H1 locs1 hw1)
set_option maxRecDepth 10000 in
theorem w_X_offer {N : Nat} (hc : Cxz p s m meth c args prog_1_method_23_code "LabourExchange" 4 Z) (hr : meth.sig.returnType = (some .int)) (hR : RO R 8) (hnt : ∀ x ∈ c.exceptionTable.toList, False) (hst : l.stackTraces = false) (hRc : 2 ≤ R.cells ∧ 12 ≤ R.slots) {rv : Option Int32} {σ' : St} : ∀ {x1 : Int32} {x2 : Int32} {σ : St} {H : Heap} {locs : List Loc} {ls : Array Slot} {cells slots : Nat}, cells ≤ 0 ∧ slots ≤ 0 → Wd Z (cmb σ μ) s H locs → lv_has ls 4 [(0, .ref (Z.1 + 0)), (1, .int x1), (2, .int x2)] → fX_offer N x1 x2 σ = some (rv, σ') → W p l e R s m args below meth c H locs cells slots (vx_MQ below (Qz Z (rv.map (fun x => (some (.int x) : Option Value))) (cmb σ' μ)) (Xz Z "java/util/NoSuchElementException" (rv.map (fun x => (some (.int x) : Option Value))) (cmb σ' μ)) args s 2 12 (fun q => Z.1 ≤ q)) (F0 m 0 ls []) := by
  have hx := hc.hx
  have hb := hc.hb
  intro x1 x2 σ H locs ls cells slots hcs hw hl hf
  unfold fX_offer at hf
  refine lv_aload_n hx hb (dq tk_X_offer 0 rfl) rfl (lv_at hl 0 rfl) ?_
  refine lv_iload_n hx hb (dq tk_X_offer 1 rfl) rfl (lv_at hl 1 rfl) ?_
  obtain ⟨q2, h2, hq2⟩ := btR_some hf
  refine KZ_X_requirePerson hst hc hw wd_1028 h2 (hR.mono (by decide)) ⟨by omega, by omega⟩ hl.1 (Nat.le_of_ble_eq_true rfl) (dq tk_X_offer 2 rfl) (fun hn ce q H locs hw hce hcv hcl => ?_) (fun u2 hr2 H locs hw => ?_)
  · rcases hq2 with ⟨-, hf⟩ | ⟨r, hrq, -⟩
    · cases hf
      exact z_out (v := none) hc hw hnt rfl hce hcv hcl (by omega) (by omega)
    · rw [hn] at hrq
      cases hrq
  · rcases hq2 with ⟨hn, -⟩ | ⟨r, hrq, hf⟩
    · rw [hn] at hr2
      cases hr2
    rw [hrq] at hr2
    obtain rfl : u2 = r := (Option.some.inj hr2).symm
    refine lv_iload_n hx hb (dq tk_X_offer 3 rfl) rfl (lv_at hl 2 rfl) ?_
    refine lv_aload_n hx hb (dq tk_X_offer 4 rfl) rfl (lv_at hl 0 rfl) ?_
    refine G_X_market hc hw wd_656 (dq tk_X_offer 5 rfl) ?_
    refine G_Market_vacancies hc hw wd_255 (dq tk_X_offer 6 rfl) ?_
    obtain ⟨q7, h7, hq7⟩ := btR_some hf
    refine KZ_X_requireElement hst hc hw wd_1032 h7 (hR.mono (by decide)) ⟨by omega, by omega⟩ hl.1 (Nat.le_of_ble_eq_true rfl) (dq tk_X_offer 7 rfl) (fun hn ce q H locs hw hce hcv hcl => ?_) (fun u7 hr7 H locs hw => ?_)
    · rcases hq7 with ⟨-, hf⟩ | ⟨r, hrq, -⟩
      · cases hf
        exact z_out (v := none) hc hw hnt rfl hce hcv hcl (by omega) (by omega)
      · rw [hn] at hrq
        cases hrq
    · rcases hq7 with ⟨hn, -⟩ | ⟨r, hrq, hf⟩
      · rw [hn] at hr7
        cases hr7
      rw [hrq] at hr7
      obtain rfl : u7 = r := (Option.some.inj hr7).symm
      refine lv_aload_n hx hb (dq tk_X_offer 8 rfl) rfl (lv_at hl 0 rfl) ?_
      refine G_X_market hc hw wd_656 (dq tk_X_offer 9 rfl) ?_
      refine G_Market_offers hc hw wd_266 (dq tk_X_offer 10 rfl) ?_
      refine lv_bipush (v := 60) hx hb (dq tk_X_offer 11 rfl) (by decide) ?_
      refine lv_icmp_ge (tgt := 44) hx hb (dq tk_X_offer 12 rfl) (by decide) (fun c1 => ?_) (fun c1 => ?_)
      · replace hf := if_t hf c1
        refine lv_iconst (v := (-1)) hx hb (dq tk_X_offer 21 rfl) (by decide) ?_
        cases hf
        exact z_end (by omega) (by omega) (x_iret hc hw hr (dq tk_X_offer 22 rfl))
      · replace hf := if_f hf c1
        refine lv_aload_n hx hb (dq tk_X_offer 13 rfl) rfl (lv_at hl 0 rfl) ?_
        refine G_X_market hc hw wd_656 (dq tk_X_offer 14 rfl) ?_
        refine lv_iload_n hx hb (dq tk_X_offer 15 rfl) rfl (lv_at hl 1 rfl) ?_
        refine lv_iload_n hx hb (dq tk_X_offer 16 rfl) rfl (lv_at hl 2 rfl) ?_
        refine lv_aload_n hx hb (dq tk_X_offer 17 rfl) rfl (lv_at hl 0 rfl) ?_
        refine G_X_today hc hw wd_664 (dq tk_X_offer 18 rfl) ?_
        obtain ⟨r1, h19, hf⟩ := bn1_someZ hf
        refine K_Market_isOpenTo hc hw wd_1507 h19 (hR.mono (by decide)) ⟨by omega, by omega⟩ hl.1 (Nat.le_of_ble_eq_true rfl) (dq tk_X_offer 19 rfl) (fun H locs hw _ => ?_)
        refine lv_if_ne (tgt := 46) hx hb (dq tk_X_offer 20 rfl) (by decide) (fun c2 => ?_) (fun c2 => ?_)
        · replace hf := if_f hf c2
          refine lv_aload_n hx hb (dq tk_X_offer 23 rfl) rfl (lv_at hl 0 rfl) ?_
          obtain ⟨r2, σ3, h24, hf⟩ := bnd_some hf
          refine K_X_asOfToday hc hw wd_744 h24 (hR.mono (by decide)) ⟨by omega, by omega⟩ hl.1 (Nat.le_of_ble_eq_true rfl) (dq tk_X_offer 24 rfl) (fun H locs hw hr2 => ?_)
          refine lv_iload_n hx hb (dq tk_X_offer 25 rfl) rfl (lv_at hl 1 rfl) ?_
          obtain ⟨r4, σ5, h26, hf⟩ := bnd_some hf
          refine K_View_lifeOf hc hw hr2 wd_779 h26 (hR.mono (by decide)) ⟨by omega, by omega⟩ hl.1 (Nat.le_of_ble_eq_true rfl) (dq tk_X_offer 26 rfl) (fun H locs hw hr4 => ?_)
          refine lv_astore_n (lv' := [(3, .ref (Z.1 + (279 + 187 * r4.1 + 5 * r4.2))), (0, .ref (Z.1 + 0)), (1, .int x1), (2, .int x2)]) hx hb (dq tk_X_offer 27 rfl) rfl hl (by decide) rfl (fun ls hl => ?_)
          refine lv_aload_n hx hb (dq tk_X_offer 28 rfl) rfl (lv_at hl 0 rfl) ?_
          refine G_Life_open hr4.1 hr4.2 hc hw wd_565 (dq tk_X_offer 29 rfl) ?_
          refine lv_if_eq (tgt := 78) hx hb (dq tk_X_offer 30 rfl) (by decide) (fun c3 => ?_) (fun c3 => ?_)
          · replace hf := if_t hf c3
            refine lv_iconst (v := (-1)) hx hb (dq tk_X_offer 39 rfl) (by decide) ?_
            cases hf
            exact z_end (by omega) (by omega) (x_iret hc hw hr (dq tk_X_offer 40 rfl))
          · replace hf := if_f hf c3
            refine lv_aload_n hx hb (dq tk_X_offer 31 rfl) rfl (lv_at hl 1 rfl) ?_
            refine G_X_market hc hw wd_656 (dq tk_X_offer 32 rfl) ?_
            refine lv_aload_n hx hb (dq tk_X_offer 33 rfl) rfl (lv_at hl 0 rfl) ?_
            refine lv_iload_n hx hb (dq tk_X_offer 34 rfl) rfl (lv_at hl 3 rfl) ?_
            refine lv_aload_n hx hb (dq tk_X_offer 35 rfl) rfl (lv_at hl 1 rfl) ?_
            refine G_X_today hc hw wd_664 (dq tk_X_offer 36 rfl) ?_
            obtain ⟨r6, σ7, h37, hf⟩ := bnd_some hf
            refine K_Market_addOffer hc hw hr4.1 hr4.2 wd_1508 h37 (hR.mono (by decide)) ⟨by omega, by omega⟩ hl.1 (Nat.le_of_ble_eq_true rfl) (dq tk_X_offer 37 rfl) (fun H locs hw _ => ?_)
            refine lv_goto (tgt := 79) hx hb (dq tk_X_offer 38 rfl) (by decide) ?_
            cases hf
            exact z_end (by omega) (by omega) (x_iret hc hw hr (dq tk_X_offer 40 rfl))
        · replace hf := if_t hf c2
          refine lv_iconst (v := (-1)) hx hb (dq tk_X_offer 21 rfl) (by decide) ?_
          cases hf
          exact z_end (by omega) (by omega) (x_iret hc hw hr (dq tk_X_offer 22 rfl))
theorem c_X_offer (hst : l.stackTraces = false) {N : Nat}  {x1 : Int32} {x2 : Int32} {rv : Option Int32} {σ' : St} {σ : St} (hf : fX_offer N x1 x2 σ = some (rv, σ')) : Cz l Z y_X_offer prog_1_method_23_code 4 (some .int) { frames := 8, cells := 2, slots := 12, locals := 60 * 8 } "java/util/NoSuchElementException" [.ref (Z.1 + 0), .int x1, .int x2] (cmb σ μ) (rv.map (fun x => (some (.int x) : Option Value))) (cmb σ' μ) := by
  refine z_met (by decide) (Nat.le_of_ble_eq_true rfl) (fun p e s m args below meth c ls hc hnt hr hw hl => ?_)
  exact w_X_offer hc hr ⟨Nat.le_refl _, Nat.le_refl _⟩ hnt hst ⟨Nat.le_refl _, Nat.le_refl _⟩ ⟨Nat.zero_le _, Nat.zero_le _⟩ hw hl hf
theorem KZ_X_offer (hst0 : l.stackTraces = false) {idx : Nat} {N : Nat}  {x1 : Int32} {x2 : Int32} {rv : Option Int32} {σ' : St} {σ : St} (hc : Cxz p s m meth c args cc own nL Z) (hw : Wd Z (cmb σ μ) s H locs) (hl : Cond.methodLink own idx y_X_offer ∈ TB) (hf : fX_offer N x1 x2 σ = some (rv, σ')) (hR : RO R (8 + 1)) (hcs : cells + 2 ≤ R.cells ∧ slots + 12 ≤ R.slots) (hls : ls.size = nL) (hst : (rest.map fun v => v.category).sum ≤ 8) (hdg : decode cc pc = .ok (.invokevirtual idx, 3)) (kx : rv = none → ∀ (ce : Cell) (q : Addr) (H1 : Heap) (locs1 : List Loc), Wd Z (cmb σ' μ) s H1 locs1 → H1[q]? = some ce → ce.vm = .none → s.vm.findClass "java/util/NoSuchElementException" = some ce.cls → vx_W p l e R s m args below meth c H1 locs1 (cells + 2) (slots + 12) Q (F0 m pc ls rest) q) (kk : ∀ r1, rv = some r1 → ∀ (H1 : Heap) (locs1 : List Loc), Wd Z (cmb σ' μ) s H1 locs1 → W p l e R s m args below meth c H1 locs1 (cells + 2) (slots + 12) Q (F0 m (pc + 3) ls (.int r1 :: rest))) : W p l e R s m args below meth c H locs cells slots Q (F0 m pc ls (.int x2 :: .int x1 :: .ref (Z.1 + 0) :: rest)) := by
  exact z_iv hc hw (c_X_offer hst0 hf) yv_X_offer (Nat.le_of_ble_eq_true rfl) rfl rfl hl (RO.call hR (by decide)) hcs rfl hls hst hdg rfl (fun hn => kx (by cases rv with | none => rfl | some _ => cases hn)) (fun v hv H1 locs1 hw1 => by cases rv with | none => cases hv | some r1 => cases hv; exact kk r1 rfl H1 locs1 hw1)
set_option maxRecDepth 10000 in
theorem w_X_offerOf {N : Nat} (hc : Cxz p s m meth c args prog_1_method_24_code "LabourExchange" 3 Z) (hr : meth.sig.returnType = (some .int)) (hR : RO R 7) (hnt : ∀ x ∈ c.exceptionTable.toList, False) (hst : l.stackTraces = false) (hRc : 2 ≤ R.cells ∧ 12 ≤ R.slots) {rv : Option Int32} {σ : St} : ∀ {x1 : Int32} {x2 : Int32} {H : Heap} {locs : List Loc} {ls : Array Slot} {cells slots : Nat}, cells ≤ 0 ∧ slots ≤ 0 → Wd Z (cmb σ μ) s H locs → lv_has ls 3 [(0, .ref (Z.1 + 0)), (1, .int x1), (2, .int x2)] → fX_offerOf N x1 x2 σ = some rv → W p l e R s m args below meth c H locs cells slots (vx_MQ below (Qz Z (rv.map (fun x => (some (.int x) : Option Value))) (cmb σ μ)) (Xz Z "java/util/NoSuchElementException" (rv.map (fun x => (some (.int x) : Option Value))) (cmb σ μ)) args s 2 12 (fun q => Z.1 ≤ q)) (F0 m 0 ls []) := by
  have hx := hc.hx
  have hb := hc.hb
  intro x1 x2 H locs ls cells slots hcs hw hl hf
  unfold fX_offerOf at hf
  refine lv_iload_n hx hb (dq tk_X_offerOf 0 rfl) rfl (lv_at hl 1 rfl) ?_
  refine lv_aload_n hx hb (dq tk_X_offerOf 1 rfl) rfl (lv_at hl 0 rfl) ?_
  refine G_X_market hc hw wd_656 (dq tk_X_offerOf 2 rfl) ?_
  refine G_Market_offers hc hw wd_266 (dq tk_X_offerOf 3 rfl) ?_
  obtain ⟨q4, h4, hq4⟩ := btO_some hf
  refine KZ_X_requireElement hst hc hw wd_1032 h4 (hR.mono (by decide)) ⟨by omega, by omega⟩ hl.1 (Nat.le_of_ble_eq_true rfl) (dq tk_X_offerOf 4 rfl) (fun hn ce q H locs hw hce hcv hcl => ?_) (fun u4 hr4 H locs hw => ?_)
  · rcases hq4 with ⟨-, hf⟩ | ⟨r, hrq, -⟩
    · cases hf
      exact z_out (v := none) hc hw hnt rfl hce hcv hcl (by omega) (by omega)
    · rw [hn] at hrq
      cases hrq
  · rcases hq4 with ⟨hn, -⟩ | ⟨r, hrq, hf⟩
    · rw [hn] at hr4
      cases hr4
    rw [hrq] at hr4
    obtain rfl : u4 = r := (Option.some.inj hr4).symm
    refine lv_iload_n hx hb (dq tk_X_offerOf 5 rfl) rfl (lv_at hl 2 rfl) ?_
    by_cases c7_0 : x2 = 0
    · replace hf := if_t hf c7_0
      refine lv_tableIn (tgt := 48) hx hb (dq tk_X_offerOf 6 rfl) (by rw [c7_0]; decide) (by rw [c7_0]; decide) (by rw [c7_0]; first | done | rfl) (by decide) ?_
      refine lv_aload_n hx hb (dq tk_X_offerOf 7 rfl) rfl (lv_at hl 0 rfl) ?_
      refine G_X_market hc hw wd_656 (dq tk_X_offerOf 8 rfl) ?_
      refine G_Market_offered hc hw wd_257 (dq tk_X_offerOf 9 rfl) ?_
      refine lv_iload_n hx hb (dq tk_X_offerOf 10 rfl) rfl (lv_at hl 1 rfl) ?_
      obtain ⟨c1, hf⟩ := chk_some hf
      refine AL_Market_offered hc hw c1 (dq tk_X_offerOf 11 rfl) ?_
      cases hf
      exact z_end (by omega) (by omega) (x_iret hc hw hr (dq tk_X_offerOf 12 rfl))
    replace hf := if_f hf c7_0
    by_cases c7_1 : x2 = 1
    · replace hf := if_t hf c7_1
      refine lv_tableIn (tgt := 58) hx hb (dq tk_X_offerOf 6 rfl) (by rw [c7_1]; decide) (by rw [c7_1]; decide) (by rw [c7_1]; first | done | rfl) (by decide) ?_
      refine lv_aload_n hx hb (dq tk_X_offerOf 13 rfl) rfl (lv_at hl 0 rfl) ?_
      refine G_X_market hc hw wd_656 (dq tk_X_offerOf 14 rfl) ?_
      refine G_Market_vacancy hc hw wd_260 (dq tk_X_offerOf 15 rfl) ?_
      refine lv_iload_n hx hb (dq tk_X_offerOf 16 rfl) rfl (lv_at hl 1 rfl) ?_
      obtain ⟨c2, hf⟩ := chk_some hf
      refine AL_Market_vacancy hc hw c2 (dq tk_X_offerOf 17 rfl) ?_
      cases hf
      exact z_end (by omega) (by omega) (x_iret hc hw hr (dq tk_X_offerOf 18 rfl))
    replace hf := if_f hf c7_1
    by_cases c7_2 : x2 = 2
    · replace hf := if_t hf c7_2
      refine lv_tableIn (tgt := 68) hx hb (dq tk_X_offerOf 6 rfl) (by rw [c7_2]; decide) (by rw [c7_2]; decide) (by rw [c7_2]; first | done | rfl) (by decide) ?_
      refine lv_aload_n hx hb (dq tk_X_offerOf 19 rfl) rfl (lv_at hl 0 rfl) ?_
      refine G_X_market hc hw wd_656 (dq tk_X_offerOf 20 rfl) ?_
      refine G_Market_objection hc hw wd_262 (dq tk_X_offerOf 21 rfl) ?_
      refine lv_iload_n hx hb (dq tk_X_offerOf 22 rfl) rfl (lv_at hl 1 rfl) ?_
      obtain ⟨c3, hf⟩ := chk_some hf
      refine AL_Market_objection hc hw c3 (dq tk_X_offerOf 23 rfl) ?_
      refine lv_iconst (v := (-1)) hx hb (dq tk_X_offerOf 24 rfl) (by decide) ?_
      refine lv_icmp_ne (tgt := 85) hx hb (dq tk_X_offerOf 25 rfl) (by decide) (fun c4 => ?_) (fun c4 => ?_)
      · replace hf := if_f hf c4
        refine lv_iconst (v := 0) hx hb (dq tk_X_offerOf 28 rfl) (by decide) ?_
        cases hf
        exact z_end (by omega) (by omega) (x_iret hc hw hr (dq tk_X_offerOf 29 rfl))
      · replace hf := if_t hf c4
        refine lv_iconst (v := 1) hx hb (dq tk_X_offerOf 26 rfl) (by decide) ?_
        refine lv_goto (tgt := 86) hx hb (dq tk_X_offerOf 27 rfl) (by decide) ?_
        cases hf
        exact z_end (by omega) (by omega) (x_iret hc hw hr (dq tk_X_offerOf 29 rfl))
    replace hf := if_f hf c7_2
    by_cases c7_3 : x2 = 3
    · replace hf := if_t hf c7_3
      refine lv_tableIn (tgt := 87) hx hb (dq tk_X_offerOf 6 rfl) (by rw [c7_3]; decide) (by rw [c7_3]; decide) (by rw [c7_3]; first | done | rfl) (by decide) ?_
      refine lv_aload_n hx hb (dq tk_X_offerOf 30 rfl) rfl (lv_at hl 0 rfl) ?_
      refine G_X_market hc hw wd_656 (dq tk_X_offerOf 31 rfl) ?_
      refine G_Market_objection hc hw wd_262 (dq tk_X_offerOf 32 rfl) ?_
      refine lv_iload_n hx hb (dq tk_X_offerOf 33 rfl) rfl (lv_at hl 1 rfl) ?_
      obtain ⟨c5, hf⟩ := chk_some hf
      refine AL_Market_objection hc hw c5 (dq tk_X_offerOf 34 rfl) ?_
      cases hf
      exact z_end (by omega) (by omega) (x_iret hc hw hr (dq tk_X_offerOf 35 rfl))
    replace hf := if_f hf c7_3
    by_cases c7_4 : x2 = 4
    · replace hf := if_t hf c7_4
      refine lv_tableIn (tgt := 97) hx hb (dq tk_X_offerOf 6 rfl) (by rw [c7_4]; decide) (by rw [c7_4]; decide) (by rw [c7_4]; first | done | rfl) (by decide) ?_
      refine lv_aload_n hx hb (dq tk_X_offerOf 36 rfl) rfl (lv_at hl 0 rfl) ?_
      refine G_X_market hc hw wd_656 (dq tk_X_offerOf 37 rfl) ?_
      refine G_Market_fate hc hw wd_264 (dq tk_X_offerOf 38 rfl) ?_
      refine lv_iload_n hx hb (dq tk_X_offerOf 39 rfl) rfl (lv_at hl 1 rfl) ?_
      obtain ⟨c6, hf⟩ := chk_some hf
      refine AL_Market_fate hc hw c6 (dq tk_X_offerOf 40 rfl) ?_
      cases hf
      exact z_end (by omega) (by omega) (x_iret hc hw hr (dq tk_X_offerOf 41 rfl))
    replace hf := if_f hf c7_4
    refine lv_tableOut (tgt := 107) hx hb (dq tk_X_offerOf 6 rfl) (sw_out (fun k h1 h2 => by
      have h3 : k = 0 ∨ k = 1 ∨ k = 2 ∨ k = 3 ∨ k = 4 := by omega
      rcases h3 with rfl | rfl | rfl | rfl | rfl
      · exact c7_0
      · exact c7_1
      · exact c7_2
      · exact c7_3
      · exact c7_4
      )) (by decide) ?_
    cases hf
    exact z_throwN hc hw hnt hst hl.1 (dq tk_X_offerOf 42 rfl) (dq tk_X_offerOf 43 rfl) (dq tk_X_offerOf 44 rfl) (dq tk_X_offerOf 45 rfl) (hR.mono (by decide)) (by omega) (by omega) (by omega) (by omega)
theorem c_X_offerOf (hst : l.stackTraces = false) {N : Nat}  {x1 : Int32} {x2 : Int32} {rv : Option Int32} {σ : St} (hf : fX_offerOf N x1 x2 σ = some rv) : Cz l Z y_X_offerOf prog_1_method_24_code 3 (some .int) { frames := 7, cells := 2, slots := 12, locals := 60 * 7 } "java/util/NoSuchElementException" [.ref (Z.1 + 0), .int x1, .int x2] (cmb σ μ) (rv.map (fun x => (some (.int x) : Option Value))) (cmb σ μ) := by
  refine z_met (by decide) (Nat.le_of_ble_eq_true rfl) (fun p e s m args below meth c ls hc hnt hr hw hl => ?_)
  exact w_X_offerOf hc hr ⟨Nat.le_refl _, Nat.le_refl _⟩ hnt hst ⟨Nat.le_refl _, Nat.le_refl _⟩ ⟨Nat.zero_le _, Nat.zero_le _⟩ hw hl hf
theorem KZ_X_offerOf (hst0 : l.stackTraces = false) {idx : Nat} {N : Nat}  {x1 : Int32} {x2 : Int32} {rv : Option Int32} {σ : St} (hc : Cxz p s m meth c args cc own nL Z) (hw : Wd Z (cmb σ μ) s H locs) (hl : Cond.methodLink own idx y_X_offerOf ∈ TB) (hf : fX_offerOf N x1 x2 σ = some rv) (hR : RO R (7 + 1)) (hcs : cells + 2 ≤ R.cells ∧ slots + 12 ≤ R.slots) (hls : ls.size = nL) (hst : (rest.map fun v => v.category).sum ≤ 8) (hdg : decode cc pc = .ok (.invokevirtual idx, 3)) (kx : rv = none → ∀ (ce : Cell) (q : Addr) (H1 : Heap) (locs1 : List Loc), Wd Z (cmb σ μ) s H1 locs1 → H1[q]? = some ce → ce.vm = .none → s.vm.findClass "java/util/NoSuchElementException" = some ce.cls → vx_W p l e R s m args below meth c H1 locs1 (cells + 2) (slots + 12) Q (F0 m pc ls rest) q) (kk : ∀ r1, rv = some r1 → ∀ (H1 : Heap) (locs1 : List Loc), Wd Z (cmb σ μ) s H1 locs1 → W p l e R s m args below meth c H1 locs1 (cells + 2) (slots + 12) Q (F0 m (pc + 3) ls (.int r1 :: rest))) : W p l e R s m args below meth c H locs cells slots Q (F0 m pc ls (.int x2 :: .int x1 :: .ref (Z.1 + 0) :: rest)) := by
  exact z_iv hc hw (c_X_offerOf hst0 hf) yv_X_offerOf (Nat.le_of_ble_eq_true rfl) rfl rfl hl (RO.call hR (by decide)) hcs rfl hls hst hdg rfl (fun hn => kx (by cases rv with | none => rfl | some _ => cases hn)) (fun v hv H1 locs1 hw1 => by cases rv with | none => cases hv | some r1 => cases hv; exact kk r1 rfl H1 locs1 hw1)
set_option maxRecDepth 10000 in
theorem w_X_answer_66 {N : Nat} (hc : Cxz p s m meth c args prog_1_method_25_code "LabourExchange" 4 Z) (hr : meth.sig.returnType = (some .int)) (hR : RO R 7) (hnt : ∀ x ∈ c.exceptionTable.toList, False) (hst : l.stackTraces = false) (hRc : 1 ≤ R.cells ∧ 6 ≤ R.slots) {rv : Option Int32} {σ' : St} : ∀ {x1 : Int32} {x2 : Int32} {x3 : Int32} {σ : St} {H : Heap} {locs : List Loc} {ls : Array Slot} {cells slots : Nat}, cells ≤ 1 ∧ slots ≤ 6 → Wd Z (cmb σ μ) s H locs → lv_has ls 4 [(0, .ref (Z.1 + 0)), (1, .int x1), (2, .int x2), (3, .int x3)] → fX_answer_66 N x1 x2 x3 σ = some (rv, σ') → W p l e R s m args below meth c H locs cells slots (vx_MQ below (Qz Z (rv.map (fun x => (some (.int x) : Option Value))) (cmb σ' μ)) (Xz Z "java/util/NoSuchElementException" (rv.map (fun x => (some (.int x) : Option Value))) (cmb σ' μ)) args s 1 6 (fun q => Z.1 ≤ q)) (F0 m 66 ls []) := by
  have hx := hc.hx
  have hb := hc.hb
  intro x1 x2 x3 σ H locs ls cells slots hcs hw hl hf
  unfold fX_answer_66 at hf
  refine lv_iload_n hx hb (dq tk_X_answer 34 rfl) rfl (lv_at hl 2 rfl) ?_
  refine lv_if_ne (tgt := 101) hx hb (dq tk_X_answer 35 rfl) (by decide) (fun c1 => ?_) (fun c1 => ?_)
  · replace hf := if_f hf c1
    refine lv_aload_n hx hb (dq tk_X_answer 54 rfl) rfl (lv_at hl 0 rfl) ?_
    refine G_X_market hc hw wd_656 (dq tk_X_answer 55 rfl) ?_
    refine G_Market_fate hc hw wd_264 (dq tk_X_answer 56 rfl) ?_
    refine lv_iload_n hx hb (dq tk_X_answer 57 rfl) rfl (lv_at hl 1 rfl) ?_
    refine lv_iconst (v := 1) hx hb (dq tk_X_answer 58 rfl) (by decide) ?_
    obtain ⟨c2, hf⟩ := chk_some hf
    obtain ⟨σ1, hσ1, hf⟩ := nm_some hf
    refine AS_Market_fate hc hw c2 hσ1 (dq tk_X_answer 59 rfl) (fun H locs hw => ?_)
    refine lv_aload_n hx hb (dq tk_X_answer 60 rfl) rfl (lv_at hl 0 rfl) ?_
    refine G_X_market hc hw wd_656 (dq tk_X_answer 61 rfl) ?_
    refine G_Market_filled hc hw wd_253 (dq tk_X_answer 62 rfl) ?_
    refine lv_iload_n hx hb (dq tk_X_answer 63 rfl) rfl (lv_at hl 3 rfl) ?_
    refine lv_iconst (v := 1) hx hb (dq tk_X_answer 64 rfl) (by decide) ?_
    obtain ⟨c3, hf⟩ := chk_some hf
    obtain ⟨σ2, hσ2, hf⟩ := nm_some hf
    refine AS_Market_filled hc hw c3 hσ2 (dq tk_X_answer 65 rfl) (fun H locs hw => ?_)
    refine lv_aload_n hx hb (dq tk_X_answer 66 rfl) rfl (lv_at hl 0 rfl) ?_
    refine lv_iconst (v := 1) hx hb (dq tk_X_answer 67 rfl) (by decide) ?_
    refine lv_aload_n hx hb (dq tk_X_answer 68 rfl) rfl (lv_at hl 0 rfl) ?_
    refine G_X_market hc hw wd_656 (dq tk_X_answer 69 rfl) ?_
    refine G_Market_offered hc hw wd_257 (dq tk_X_answer 70 rfl) ?_
    refine lv_iload_n hx hb (dq tk_X_answer 71 rfl) rfl (lv_at hl 1 rfl) ?_
    refine AL_Market_offered hc hw c2 (dq tk_X_answer 72 rfl) ?_
    refine lv_aload_n hx hb (dq tk_X_answer 73 rfl) rfl (lv_at hl 0 rfl) ?_
    refine G_X_market hc hw wd_656 (dq tk_X_answer 74 rfl) ?_
    refine G_Market_wage hc hw wd_249 (dq tk_X_answer 75 rfl) ?_
    refine lv_iload_n hx hb (dq tk_X_answer 76 rfl) rfl (lv_at hl 3 rfl) ?_
    refine AL_Market_wage hc hw c3 (dq tk_X_answer 77 rfl) ?_
    refine lv_aload_n hx hb (dq tk_X_answer 78 rfl) rfl (lv_at hl 0 rfl) ?_
    refine G_X_today hc hw wd_664 (dq tk_X_answer 79 rfl) ?_
    obtain ⟨r3, σ4, h80, hf⟩ := bnd_some hf
    refine K_X_tell hc hw wd_1357 h80 (hR.mono (by decide)) ⟨by omega, by omega⟩ hl.1 (Nat.le_of_ble_eq_true rfl) (dq tk_X_answer 80 rfl) (fun H locs hw _ => ?_)
    cases hf
    exact z_end (by omega) (by omega) (x_iret hc hw hr (dq tk_X_answer 81 rfl))
  · replace hf := if_t hf c1
    refine lv_aload_n hx hb (dq tk_X_answer 36 rfl) rfl (lv_at hl 0 rfl) ?_
    refine G_X_market hc hw wd_656 (dq tk_X_answer 37 rfl) ?_
    refine G_Market_fate hc hw wd_264 (dq tk_X_answer 38 rfl) ?_
    refine lv_iload_n hx hb (dq tk_X_answer 39 rfl) rfl (lv_at hl 1 rfl) ?_
    refine lv_iconst (v := 2) hx hb (dq tk_X_answer 40 rfl) (by decide) ?_
    obtain ⟨c4, hf⟩ := chk_some hf
    obtain ⟨σ5, hσ5, hf⟩ := nm_some hf
    refine AS_Market_fate hc hw c4 hσ5 (dq tk_X_answer 41 rfl) (fun H locs hw => ?_)
    refine lv_aload_n hx hb (dq tk_X_answer 42 rfl) rfl (lv_at hl 0 rfl) ?_
    refine lv_bipush (v := 7) hx hb (dq tk_X_answer 43 rfl) (by decide) ?_
    refine lv_aload_n hx hb (dq tk_X_answer 44 rfl) rfl (lv_at hl 0 rfl) ?_
    refine G_X_market hc hw wd_656 (dq tk_X_answer 45 rfl) ?_
    refine G_Market_offered hc hw wd_257 (dq tk_X_answer 46 rfl) ?_
    refine lv_iload_n hx hb (dq tk_X_answer 47 rfl) rfl (lv_at hl 1 rfl) ?_
    refine AL_Market_offered hc hw c4 (dq tk_X_answer 48 rfl) ?_
    refine lv_iload_n hx hb (dq tk_X_answer 49 rfl) rfl (lv_at hl 1 rfl) ?_
    refine lv_aload_n hx hb (dq tk_X_answer 50 rfl) rfl (lv_at hl 0 rfl) ?_
    refine G_X_today hc hw wd_664 (dq tk_X_answer 51 rfl) ?_
    obtain ⟨r6, σ7, h52, hf⟩ := bnd_some hf
    refine K_X_tell hc hw wd_1357 h52 (hR.mono (by decide)) ⟨by omega, by omega⟩ hl.1 (Nat.le_of_ble_eq_true rfl) (dq tk_X_answer 52 rfl) (fun H locs hw _ => ?_)
    cases hf
    exact z_end (by omega) (by omega) (x_iret hc hw hr (dq tk_X_answer 53 rfl))
set_option maxRecDepth 10000 in
theorem w_X_answer {N : Nat} (hc : Cxz p s m meth c args prog_1_method_25_code "LabourExchange" 4 Z) (hr : meth.sig.returnType = (some .int)) (hR : RO R 7) (hnt : ∀ x ∈ c.exceptionTable.toList, False) (hst : l.stackTraces = false) (hRc : 1 ≤ R.cells ∧ 6 ≤ R.slots) {rv : Option Int32} {σ' : St} : ∀ {x1 : Int32} {x2 : Int32} {σ : St} {H : Heap} {locs : List Loc} {ls : Array Slot} {cells slots : Nat}, cells ≤ 0 ∧ slots ≤ 0 → Wd Z (cmb σ μ) s H locs → lv_has ls 4 [(0, .ref (Z.1 + 0)), (1, .int x1), (2, .int x2)] → fX_answer N x1 x2 σ = some (rv, σ') → W p l e R s m args below meth c H locs cells slots (vx_MQ below (Qz Z (rv.map (fun x => (some (.int x) : Option Value))) (cmb σ' μ)) (Xz Z "java/util/NoSuchElementException" (rv.map (fun x => (some (.int x) : Option Value))) (cmb σ' μ)) args s 1 6 (fun q => Z.1 ≤ q)) (F0 m 0 ls []) := by
  have hx := hc.hx
  have hb := hc.hb
  intro x1 x2 σ H locs ls cells slots hcs hw hl hf
  unfold fX_answer at hf
  refine lv_iload_n hx hb (dq tk_X_answer 0 rfl) rfl (lv_at hl 1 rfl) ?_
  refine lv_aload_n hx hb (dq tk_X_answer 1 rfl) rfl (lv_at hl 0 rfl) ?_
  refine G_X_market hc hw wd_656 (dq tk_X_answer 2 rfl) ?_
  refine G_Market_offers hc hw wd_266 (dq tk_X_answer 3 rfl) ?_
  obtain ⟨q4, h4, hq4⟩ := btR_some hf
  refine KZ_X_requireElement hst hc hw wd_1032 h4 (hR.mono (by decide)) ⟨by omega, by omega⟩ hl.1 (Nat.le_of_ble_eq_true rfl) (dq tk_X_answer 4 rfl) (fun hn ce q H locs hw hce hcv hcl => ?_) (fun u4 hr4 H locs hw => ?_)
  · rcases hq4 with ⟨-, hf⟩ | ⟨r, hrq, -⟩
    · cases hf
      exact z_out (v := none) hc hw hnt rfl hce hcv hcl (by omega) (by omega)
    · rw [hn] at hrq
      cases hrq
  · rcases hq4 with ⟨hn, -⟩ | ⟨r, hrq, hf⟩
    · rw [hn] at hr4
      cases hr4
    rw [hrq] at hr4
    obtain rfl : u4 = r := (Option.some.inj hr4).symm
    refine lv_aload_n hx hb (dq tk_X_answer 5 rfl) rfl (lv_at hl 0 rfl) ?_
    refine G_X_market hc hw wd_656 (dq tk_X_answer 6 rfl) ?_
    refine G_Market_vacancy hc hw wd_260 (dq tk_X_answer 7 rfl) ?_
    refine lv_iload_n hx hb (dq tk_X_answer 8 rfl) rfl (lv_at hl 1 rfl) ?_
    obtain ⟨c1, hf⟩ := chk_some hf
    refine AL_Market_vacancy hc hw c1 (dq tk_X_answer 9 rfl) ?_
    obtain ⟨y1, hy1, hf⟩ := nm_some hf
    refine tst (congrArg Value.int hy1) ?_
    refine lv_istore_n (lv' := [(3, .int y1), (0, .ref (Z.1 + 0)), (1, .int x1), (2, .int x2)]) hx hb (dq tk_X_answer 10 rfl) rfl hl (by decide) rfl (fun ls hl => ?_)
    refine lv_aload_n hx hb (dq tk_X_answer 11 rfl) rfl (lv_at hl 1 rfl) ?_
    refine G_X_market hc hw wd_656 (dq tk_X_answer 12 rfl) ?_
    refine G_Market_fate hc hw wd_264 (dq tk_X_answer 13 rfl) ?_
    refine lv_iload_n hx hb (dq tk_X_answer 14 rfl) rfl (lv_at hl 2 rfl) ?_
    refine AL_Market_fate hc hw c1 (dq tk_X_answer 15 rfl) ?_
    refine lv_if_ne (tgt := 46) hx hb (dq tk_X_answer 16 rfl) (by decide) (fun c2 => ?_) (fun c2 => ?_)
    · replace hf := if_f hf c2
      refine lv_iconst (v := (-1)) hx hb (dq tk_X_answer 22 rfl) (by decide) ?_
      cases hf
      exact z_end (by omega) (by omega) (x_iret hc hw hr (dq tk_X_answer 23 rfl))
    · replace hf := if_t hf c2
      refine lv_aload_n hx hb (dq tk_X_answer 17 rfl) rfl (lv_at hl 1 rfl) ?_
      refine G_X_events hc hw wd_654 (dq tk_X_answer 18 rfl) ?_
      refine G_Events_count hc hw wd_221 (dq tk_X_answer 19 rfl) ?_
      refine lv_sipush (v := 160) hx hb (dq tk_X_answer 20 rfl) (by decide) ?_
      refine lv_icmp_lt (tgt := 48) hx hb (dq tk_X_answer 21 rfl) (by decide) (fun c3 => ?_) (fun c3 => ?_)
      · replace hf := if_t hf c3
        refine lv_iload_n hx hb (dq tk_X_answer 24 rfl) rfl (lv_at hl 3 rfl) ?_
        refine lv_if_eq (tgt := 66) hx hb (dq tk_X_answer 25 rfl) (by decide) (fun c4 => ?_) (fun c4 => ?_)
        · replace hf := if_t hf c4
          exact w_X_answer_66 hc hr hR hnt hst hRc (by omega) hw (lv_sub hl [1, 2, 3, 0] rfl) hf
        · replace hf := if_f hf c4
          refine lv_aload_n hx hb (dq tk_X_answer 26 rfl) rfl (lv_at hl 1 rfl) ?_
          refine G_X_market hc hw wd_656 (dq tk_X_answer 27 rfl) ?_
          refine G_Market_filled hc hw wd_253 (dq tk_X_answer 28 rfl) ?_
          refine lv_iload_n hx hb (dq tk_X_answer 29 rfl) rfl (lv_at hl 0 rfl) ?_
          obtain ⟨c5, hf⟩ := chk_some hf
          refine AL_Market_filled hc hw c5 (dq tk_X_answer 30 rfl) ?_
          refine lv_if_eq (tgt := 66) hx hb (dq tk_X_answer 31 rfl) (by decide) (fun c6 => ?_) (fun c6 => ?_)
          · replace hf := if_t hf c6
            exact w_X_answer_66 hc hr hR hnt hst hRc (by omega) hw (lv_sub hl [1, 2, 3, 0] rfl) hf
          · replace hf := if_f hf c6
            refine lv_iconst (v := (-1)) hx hb (dq tk_X_answer 32 rfl) (by decide) ?_
            cases hf
            exact z_end (by omega) (by omega) (x_iret hc hw hr (dq tk_X_answer 33 rfl))
      · replace hf := if_f hf c3
        refine lv_iconst (v := (-1)) hx hb (dq tk_X_answer 22 rfl) (by decide) ?_
        cases hf
        exact z_end (by omega) (by omega) (x_iret hc hw hr (dq tk_X_answer 23 rfl))
theorem c_X_answer (hst : l.stackTraces = false) {N : Nat}  {x1 : Int32} {x2 : Int32} {rv : Option Int32} {σ' : St} {σ : St} (hf : fX_answer N x1 x2 σ = some (rv, σ')) : Cz l Z y_X_answer prog_1_method_25_code 4 (some .int) { frames := 7, cells := 1, slots := 6, locals := 60 * 7 } "java/util/NoSuchElementException" [.ref (Z.1 + 0), .int x1, .int x2] (cmb σ μ) (rv.map (fun x => (some (.int x) : Option Value))) (cmb σ' μ) := by
  refine z_met (by decide) (Nat.le_of_ble_eq_true rfl) (fun p e s m args below meth c ls hc hnt hr hw hl => ?_)
  exact w_X_answer hc hr ⟨Nat.le_refl _, Nat.le_refl _⟩ hnt hst ⟨Nat.le_refl _, Nat.le_refl _⟩ ⟨Nat.zero_le _, Nat.zero_le _⟩ hw hl hf
theorem KZ_X_answer (hst0 : l.stackTraces = false) {idx : Nat} {N : Nat}  {x1 : Int32} {x2 : Int32} {rv : Option Int32} {σ' : St} {σ : St} (hc : Cxz p s m meth c args cc own nL Z) (hw : Wd Z (cmb σ μ) s H locs) (hl : Cond.methodLink own idx y_X_answer ∈ TB) (hf : fX_answer N x1 x2 σ = some (rv, σ')) (hR : RO R (7 + 1)) (hcs : cells + 1 ≤ R.cells ∧ slots + 6 ≤ R.slots) (hls : ls.size = nL) (hst : (rest.map fun v => v.category).sum ≤ 8) (hdg : decode cc pc = .ok (.invokevirtual idx, 3)) (kx : rv = none → ∀ (ce : Cell) (q : Addr) (H1 : Heap) (locs1 : List Loc), Wd Z (cmb σ' μ) s H1 locs1 → H1[q]? = some ce → ce.vm = .none → s.vm.findClass "java/util/NoSuchElementException" = some ce.cls → vx_W p l e R s m args below meth c H1 locs1 (cells + 1) (slots + 6) Q (F0 m pc ls rest) q) (kk : ∀ r1, rv = some r1 → ∀ (H1 : Heap) (locs1 : List Loc), Wd Z (cmb σ' μ) s H1 locs1 → W p l e R s m args below meth c H1 locs1 (cells + 1) (slots + 6) Q (F0 m (pc + 3) ls (.int r1 :: rest))) : W p l e R s m args below meth c H locs cells slots Q (F0 m pc ls (.int x2 :: .int x1 :: .ref (Z.1 + 0) :: rest)) := by
  exact z_iv hc hw (c_X_answer hst0 hf) yv_X_answer (Nat.le_of_ble_eq_true rfl) rfl rfl hl (RO.call hR (by decide)) hcs rfl hls hst hdg rfl (fun hn => kx (by cases rv with | none => rfl | some _ => cases hn)) (fun v hv H1 locs1 hw1 => by cases rv with | none => cases hv | some r1 => cases hv; exact kk r1 rfl H1 locs1 hw1)
set_option maxRecDepth 10000 in
theorem w_X_sent {N : Nat} (hc : Cxz p s m meth c args prog_1_method_27_code "LabourExchange" 2 Z) (hr : meth.sig.returnType = (some .int)) (hR : RO R 8) (hnt : ∀ x ∈ c.exceptionTable.toList, False) (hst : l.stackTraces = false) (hRc : 1 ≤ R.cells ∧ 6 ≤ R.slots) {rv : Option Int32} {σ : St} : ∀ {x1 : Int32} {H : Heap} {locs : List Loc} {ls : Array Slot} {cells slots : Nat}, cells ≤ 0 ∧ slots ≤ 0 → Wd Z (cmb σ μ) s H locs → lv_has ls 2 [(0, .ref (Z.1 + 0)), (1, .int x1)] → fX_sent N x1 σ = some rv → W p l e R s m args below meth c H locs cells slots (vx_MQ below (Qz Z (rv.map (fun x => (some (.int x) : Option Value))) (cmb σ μ)) (Xz Z "java/util/NoSuchElementException" (rv.map (fun x => (some (.int x) : Option Value))) (cmb σ μ)) args s 1 6 (fun q => Z.1 ≤ q)) (F0 m 0 ls []) := by
  have hx := hc.hx
  have hb := hc.hb
  intro x1 H locs ls cells slots hcs hw hl hf
  unfold fX_sent at hf
  refine lv_aload_n hx hb (dq tk_X_sent 0 rfl) rfl (lv_at hl 0 rfl) ?_
  refine lv_iload_n hx hb (dq tk_X_sent 1 rfl) rfl (lv_at hl 1 rfl) ?_
  obtain ⟨q2, h2, hq2⟩ := btO_some hf
  refine KZ_X_requirePerson hst hc hw wd_1028 h2 (hR.mono (by decide)) ⟨by omega, by omega⟩ hl.1 (Nat.le_of_ble_eq_true rfl) (dq tk_X_sent 2 rfl) (fun hn ce q H locs hw hce hcv hcl => ?_) (fun u2 hr2 H locs hw => ?_)
  · rcases hq2 with ⟨-, hf⟩ | ⟨r, hrq, -⟩
    · cases hf
      exact z_out (v := none) hc hw hnt rfl hce hcv hcl (by omega) (by omega)
    · rw [hn] at hrq
      cases hrq
  · rcases hq2 with ⟨hn, -⟩ | ⟨r, hrq, hf⟩
    · rw [hn] at hr2
      cases hr2
    rw [hrq] at hr2
    obtain rfl : u2 = r := (Option.some.inj hr2).symm
    refine lv_aload_n hx hb (dq tk_X_sent 3 rfl) rfl (lv_at hl 0 rfl) ?_
    refine G_X_sending hc hw wd_657 (dq tk_X_sent 4 rfl) ?_
    refine G_Sending_sentTo hc hw wd_317 (dq tk_X_sent 5 rfl) ?_
    refine lv_iload_n hx hb (dq tk_X_sent 6 rfl) rfl (lv_at hl 1 rfl) ?_
    obtain ⟨c1, hf⟩ := chk_some hf
    refine AL_Sending_sentTo hc hw c1 (dq tk_X_sent 7 rfl) ?_
    cases hf
    exact z_end (by omega) (by omega) (x_iret hc hw hr (dq tk_X_sent 8 rfl))
theorem c_X_sent (hst : l.stackTraces = false) {N : Nat}  {x1 : Int32} {rv : Option Int32} {σ : St} (hf : fX_sent N x1 σ = some rv) : Cz l Z y_X_sent prog_1_method_27_code 2 (some .int) { frames := 8, cells := 1, slots := 6, locals := 60 * 8 } "java/util/NoSuchElementException" [.ref (Z.1 + 0), .int x1] (cmb σ μ) (rv.map (fun x => (some (.int x) : Option Value))) (cmb σ μ) := by
  refine z_met (by decide) (Nat.le_of_ble_eq_true rfl) (fun p e s m args below meth c ls hc hnt hr hw hl => ?_)
  exact w_X_sent hc hr ⟨Nat.le_refl _, Nat.le_refl _⟩ hnt hst ⟨Nat.le_refl _, Nat.le_refl _⟩ ⟨Nat.zero_le _, Nat.zero_le _⟩ hw hl hf
theorem KZ_X_sent (hst0 : l.stackTraces = false) {idx : Nat} {N : Nat}  {x1 : Int32} {rv : Option Int32} {σ : St} (hc : Cxz p s m meth c args cc own nL Z) (hw : Wd Z (cmb σ μ) s H locs) (hl : Cond.methodLink own idx y_X_sent ∈ TB) (hf : fX_sent N x1 σ = some rv) (hR : RO R (8 + 1)) (hcs : cells + 1 ≤ R.cells ∧ slots + 6 ≤ R.slots) (hls : ls.size = nL) (hst : (rest.map fun v => v.category).sum ≤ 8) (hdg : decode cc pc = .ok (.invokevirtual idx, 3)) (kx : rv = none → ∀ (ce : Cell) (q : Addr) (H1 : Heap) (locs1 : List Loc), Wd Z (cmb σ μ) s H1 locs1 → H1[q]? = some ce → ce.vm = .none → s.vm.findClass "java/util/NoSuchElementException" = some ce.cls → vx_W p l e R s m args below meth c H1 locs1 (cells + 1) (slots + 6) Q (F0 m pc ls rest) q) (kk : ∀ r1, rv = some r1 → ∀ (H1 : Heap) (locs1 : List Loc), Wd Z (cmb σ μ) s H1 locs1 → W p l e R s m args below meth c H1 locs1 (cells + 1) (slots + 6) Q (F0 m (pc + 3) ls (.int r1 :: rest))) : W p l e R s m args below meth c H locs cells slots Q (F0 m pc ls (.int x1 :: .ref (Z.1 + 0) :: rest)) := by
  exact z_iv hc hw (c_X_sent hst0 hf) yv_X_sent (Nat.le_of_ble_eq_true rfl) rfl rfl hl (RO.call hR (by decide)) hcs rfl hls hst hdg rfl (fun hn => kx (by cases rv with | none => rfl | some _ => cases hn)) (fun v hv H1 locs1 hw1 => by cases rv with | none => cases hv | some r1 => cases hv; exact kk r1 rfl H1 locs1 hw1)
set_option maxRecDepth 10000 in
theorem w_X_appeal_31 {N : Nat} (hc : Cxz p s m meth c args prog_1_method_31_code "LabourExchange" 3 Z) (hr : meth.sig.returnType = (some .int)) (hR : RO R 7) (hnt : ∀ x ∈ c.exceptionTable.toList, False) (hst : l.stackTraces = false) (hRc : 1 ≤ R.cells ∧ 6 ≤ R.slots) {rv : Option Int32} {σ' : St} : ∀ {x1 : Int32} {σ : St} {H : Heap} {locs : List Loc} {ls : Array Slot} {cells slots : Nat}, cells ≤ 1 ∧ slots ≤ 6 → Wd Z (cmb σ μ) s H locs → lv_has ls 3 [(0, .ref (Z.1 + 0)), (1, .int x1)] → fX_appeal_31 N x1 σ = some (rv, σ') → W p l e R s m args below meth c H locs cells slots (vx_MQ below (Qz Z (rv.map (fun x => (some (.int x) : Option Value))) (cmb σ' μ)) (Xz Z "java/util/NoSuchElementException" (rv.map (fun x => (some (.int x) : Option Value))) (cmb σ' μ)) args s 1 6 (fun q => Z.1 ≤ q)) (F0 m 31 ls []) := by
  have hx := hc.hx
  have hb := hc.hb
  intro x1 σ H locs ls cells slots hcs hw hl hf
  unfold fX_appeal_31 at hf
  refine lv_aload_n hx hb (dq tk_X_appeal 16 rfl) rfl (lv_at hl 0 rfl) ?_
  refine G_X_events hc hw wd_654 (dq tk_X_appeal 17 rfl) ?_
  refine lv_iload_n hx hb (dq tk_X_appeal 18 rfl) rfl (lv_at hl 1 rfl) ?_
  refine lv_aload_n hx hb (dq tk_X_appeal 19 rfl) rfl (lv_at hl 0 rfl) ?_
  refine G_X_today hc hw wd_664 (dq tk_X_appeal 20 rfl) ?_
  obtain ⟨r1, h21, hf⟩ := bn1_someZ hf
  refine K_Events_isKnown hc hw wd_1383 h21 (hR.mono (by decide)) ⟨by omega, by omega⟩ hl.1 (Nat.le_of_ble_eq_true rfl) (dq tk_X_appeal 21 rfl) (fun H locs hw _ => ?_)
  refine lv_if_ne (tgt := 48) hx hb (dq tk_X_appeal 22 rfl) (by decide) (fun c1 => ?_) (fun c1 => ?_)
  · replace hf := if_f hf c1
    refine lv_aload_n hx hb (dq tk_X_appeal 25 rfl) rfl (lv_at hl 0 rfl) ?_
    refine G_X_courts hc hw wd_658 (dq tk_X_appeal 26 rfl) ?_
    refine G_Courts_cases hc hw wd_388 (dq tk_X_appeal 27 rfl) ?_
    refine lv_bipush (v := 30) hx hb (dq tk_X_appeal 28 rfl) (by decide) ?_
    refine lv_icmp_ge (tgt := 71) hx hb (dq tk_X_appeal 29 rfl) (by decide) (fun c2 => ?_) (fun c2 => ?_)
    · replace hf := if_t hf c2
      refine lv_iconst (v := (-1)) hx hb (dq tk_X_appeal 35 rfl) (by decide) ?_
      cases hf
      exact z_end (by omega) (by omega) (x_iret hc hw hr (dq tk_X_appeal 36 rfl))
    · replace hf := if_f hf c2
      refine lv_aload_n hx hb (dq tk_X_appeal 30 rfl) rfl (lv_at hl 0 rfl) ?_
      refine G_X_courts hc hw wd_658 (dq tk_X_appeal 31 rfl) ?_
      refine lv_iload_n hx hb (dq tk_X_appeal 32 rfl) rfl (lv_at hl 1 rfl) ?_
      obtain ⟨r2, h33, hf⟩ := bn1_someZ hf
      refine K_Courts_hasCaseOf hc hw wd_1540 h33 (hR.mono (by decide)) ⟨by omega, by omega⟩ hl.1 (Nat.le_of_ble_eq_true rfl) (dq tk_X_appeal 33 rfl) (fun H locs hw _ => ?_)
      refine lv_if_eq (tgt := 73) hx hb (dq tk_X_appeal 34 rfl) (by decide) (fun c3 => ?_) (fun c3 => ?_)
      · replace hf := if_t hf c3
        refine lv_aload_n hx hb (dq tk_X_appeal 37 rfl) rfl (lv_at hl 0 rfl) ?_
        refine G_X_courts hc hw wd_658 (dq tk_X_appeal 38 rfl) ?_
        refine lv_iload_n hx hb (dq tk_X_appeal 39 rfl) rfl (lv_at hl 1 rfl) ?_
        refine lv_aload_n hx hb (dq tk_X_appeal 40 rfl) rfl (lv_at hl 0 rfl) ?_
        refine G_X_land hc hw wd_652 (dq tk_X_appeal 41 rfl) ?_
        refine G_Land_family hc hw wd_102 (dq tk_X_appeal 42 rfl) ?_
        refine lv_aload_n hx hb (dq tk_X_appeal 43 rfl) rfl (lv_at hl 0 rfl) ?_
        refine G_X_events hc hw wd_654 (dq tk_X_appeal 44 rfl) ?_
        refine G_Events_person hc hw wd_208 (dq tk_X_appeal 45 rfl) ?_
        refine lv_iload_n hx hb (dq tk_X_appeal 46 rfl) rfl (lv_at hl 1 rfl) ?_
        obtain ⟨c4, hf⟩ := chk_some hf
        refine AL_Events_person hc hw c4 (dq tk_X_appeal 47 rfl) ?_
        obtain ⟨c5, hf⟩ := chk_some hf
        refine AL_Land_family hc hw c5 (dq tk_X_appeal 48 rfl) ?_
        refine lv_aload_n hx hb (dq tk_X_appeal 49 rfl) rfl (lv_at hl 0 rfl) ?_
        refine G_X_today hc hw wd_664 (dq tk_X_appeal 50 rfl) ?_
        obtain ⟨r3, σ4, h51, hf⟩ := bnd_some hf
        refine K_Courts_open hc hw wd_1544 h51 (hR.mono (by decide)) ⟨by omega, by omega⟩ hl.1 (Nat.le_of_ble_eq_true rfl) (dq tk_X_appeal 51 rfl) (fun H locs hw _ => ?_)
        cases hf
        exact z_end (by omega) (by omega) (x_iret hc hw hr (dq tk_X_appeal 52 rfl))
      · replace hf := if_f hf c3
        refine lv_iconst (v := (-1)) hx hb (dq tk_X_appeal 35 rfl) (by decide) ?_
        cases hf
        exact z_end (by omega) (by omega) (x_iret hc hw hr (dq tk_X_appeal 36 rfl))
  · replace hf := if_t hf c1
    refine lv_iconst (v := (-1)) hx hb (dq tk_X_appeal 23 rfl) (by decide) ?_
    cases hf
    exact z_end (by omega) (by omega) (x_iret hc hw hr (dq tk_X_appeal 24 rfl))
set_option maxRecDepth 10000 in
theorem w_X_appeal {N : Nat} (hc : Cxz p s m meth c args prog_1_method_31_code "LabourExchange" 3 Z) (hr : meth.sig.returnType = (some .int)) (hR : RO R 7) (hnt : ∀ x ∈ c.exceptionTable.toList, False) (hst : l.stackTraces = false) (hRc : 1 ≤ R.cells ∧ 6 ≤ R.slots) {rv : Option Int32} {σ' : St} : ∀ {x1 : Int32} {σ : St} {H : Heap} {locs : List Loc} {ls : Array Slot} {cells slots : Nat}, cells ≤ 0 ∧ slots ≤ 0 → Wd Z (cmb σ μ) s H locs → lv_has ls 3 [(0, .ref (Z.1 + 0)), (1, .int x1)] → fX_appeal N x1 σ = some (rv, σ') → W p l e R s m args below meth c H locs cells slots (vx_MQ below (Qz Z (rv.map (fun x => (some (.int x) : Option Value))) (cmb σ' μ)) (Xz Z "java/util/NoSuchElementException" (rv.map (fun x => (some (.int x) : Option Value))) (cmb σ' μ)) args s 1 6 (fun q => Z.1 ≤ q)) (F0 m 0 ls []) := by
  have hx := hc.hx
  have hb := hc.hb
  intro x1 σ H locs ls cells slots hcs hw hl hf
  unfold fX_appeal at hf
  refine lv_iload_n hx hb (dq tk_X_appeal 0 rfl) rfl (lv_at hl 1 rfl) ?_
  refine lv_aload_n hx hb (dq tk_X_appeal 1 rfl) rfl (lv_at hl 0 rfl) ?_
  refine G_X_events hc hw wd_654 (dq tk_X_appeal 2 rfl) ?_
  refine G_Events_count hc hw wd_221 (dq tk_X_appeal 3 rfl) ?_
  obtain ⟨q4, h4, hq4⟩ := btR_some hf
  refine KZ_X_requireElement hst hc hw wd_1032 h4 (hR.mono (by decide)) ⟨by omega, by omega⟩ hl.1 (Nat.le_of_ble_eq_true rfl) (dq tk_X_appeal 4 rfl) (fun hn ce q H locs hw hce hcv hcl => ?_) (fun u4 hr4 H locs hw => ?_)
  · rcases hq4 with ⟨-, hf⟩ | ⟨r, hrq, -⟩
    · cases hf
      exact z_out (v := none) hc hw hnt rfl hce hcv hcl (by omega) (by omega)
    · rw [hn] at hrq
      cases hrq
  · rcases hq4 with ⟨hn, -⟩ | ⟨r, hrq, hf⟩
    · rw [hn] at hr4
      cases hr4
    rw [hrq] at hr4
    obtain rfl : u4 = r := (Option.some.inj hr4).symm
    refine lv_aload_n hx hb (dq tk_X_appeal 5 rfl) rfl (lv_at hl 0 rfl) ?_
    refine G_X_events hc hw wd_654 (dq tk_X_appeal 6 rfl) ?_
    refine G_Events_kind hc hw wd_205 (dq tk_X_appeal 7 rfl) ?_
    refine lv_iload_n hx hb (dq tk_X_appeal 8 rfl) rfl (lv_at hl 1 rfl) ?_
    obtain ⟨c1, hf⟩ := chk_some hf
    refine AL_Events_kind hc hw c1 (dq tk_X_appeal 9 rfl) ?_
    obtain ⟨y1, hy1, hf⟩ := nm_some hf
    refine tst (congrArg Value.int hy1) ?_
    refine lv_istore_n (lv' := [(2, .int y1), (0, .ref (Z.1 + 0)), (1, .int x1)]) hx hb (dq tk_X_appeal 10 rfl) rfl hl (by decide) rfl (fun ls hl => ?_)
    refine lv_iload_n hx hb (dq tk_X_appeal 11 rfl) rfl (lv_at hl 0 rfl) ?_
    refine lv_if_eq (tgt := 31) hx hb (dq tk_X_appeal 12 rfl) (by decide) (fun c2 => ?_) (fun c2 => ?_)
    · replace hf := if_t hf c2
      exact w_X_appeal_31 hc hr hR hnt hst hRc (by omega) hw (lv_sub hl [1, 2] rfl) hf
    · replace hf := if_f hf c2
      refine lv_iload_n hx hb (dq tk_X_appeal 13 rfl) rfl (lv_at hl 0 rfl) ?_
      refine lv_bipush (v := 7) hx hb (dq tk_X_appeal 14 rfl) (by decide) ?_
      refine lv_icmp_ne (tgt := 46) hx hb (dq tk_X_appeal 15 rfl) (by decide) (fun c3 => ?_) (fun c3 => ?_)
      · replace hf := if_f hf c3
        refine lv_iconst (v := (-1)) hx hb (dq tk_X_appeal 23 rfl) (by decide) ?_
        cases hf
        exact z_end (by omega) (by omega) (x_iret hc hw hr (dq tk_X_appeal 24 rfl))
      · replace hf := if_t hf c3
        exact w_X_appeal_31 hc hr hR hnt hst hRc (by omega) hw (lv_sub hl [1, 2] rfl) hf
theorem c_X_appeal (hst : l.stackTraces = false) {N : Nat}  {x1 : Int32} {rv : Option Int32} {σ' : St} {σ : St} (hf : fX_appeal N x1 σ = some (rv, σ')) : Cz l Z y_X_appeal prog_1_method_31_code 3 (some .int) { frames := 7, cells := 1, slots := 6, locals := 60 * 7 } "java/util/NoSuchElementException" [.ref (Z.1 + 0), .int x1] (cmb σ μ) (rv.map (fun x => (some (.int x) : Option Value))) (cmb σ' μ) := by
  refine z_met (by decide) (Nat.le_of_ble_eq_true rfl) (fun p e s m args below meth c ls hc hnt hr hw hl => ?_)
  exact w_X_appeal hc hr ⟨Nat.le_refl _, Nat.le_refl _⟩ hnt hst ⟨Nat.le_refl _, Nat.le_refl _⟩ ⟨Nat.zero_le _, Nat.zero_le _⟩ hw hl hf
theorem KZ_X_appeal (hst0 : l.stackTraces = false) {idx : Nat} {N : Nat}  {x1 : Int32} {rv : Option Int32} {σ' : St} {σ : St} (hc : Cxz p s m meth c args cc own nL Z) (hw : Wd Z (cmb σ μ) s H locs) (hl : Cond.methodLink own idx y_X_appeal ∈ TB) (hf : fX_appeal N x1 σ = some (rv, σ')) (hR : RO R (7 + 1)) (hcs : cells + 1 ≤ R.cells ∧ slots + 6 ≤ R.slots) (hls : ls.size = nL) (hst : (rest.map fun v => v.category).sum ≤ 8) (hdg : decode cc pc = .ok (.invokevirtual idx, 3)) (kx : rv = none → ∀ (ce : Cell) (q : Addr) (H1 : Heap) (locs1 : List Loc), Wd Z (cmb σ' μ) s H1 locs1 → H1[q]? = some ce → ce.vm = .none → s.vm.findClass "java/util/NoSuchElementException" = some ce.cls → vx_W p l e R s m args below meth c H1 locs1 (cells + 1) (slots + 6) Q (F0 m pc ls rest) q) (kk : ∀ r1, rv = some r1 → ∀ (H1 : Heap) (locs1 : List Loc), Wd Z (cmb σ' μ) s H1 locs1 → W p l e R s m args below meth c H1 locs1 (cells + 1) (slots + 6) Q (F0 m (pc + 3) ls (.int r1 :: rest))) : W p l e R s m args below meth c H locs cells slots Q (F0 m pc ls (.int x1 :: .ref (Z.1 + 0) :: rest)) := by
  exact z_iv hc hw (c_X_appeal hst0 hf) yv_X_appeal (Nat.le_of_ble_eq_true rfl) rfl rfl hl (RO.call hR (by decide)) hcs rfl hls hst hdg rfl (fun hn => kx (by cases rv with | none => rfl | some _ => cases hn)) (fun v hv H1 locs1 hw1 => by cases rv with | none => cases hv | some r1 => cases hv; exact kk r1 rfl H1 locs1 hw1)
set_option maxRecDepth 10000 in
theorem w_X_close_43 {N : Nat} (hc : Cxz p s m meth c args prog_1_method_32_code "LabourExchange" 4 Z) (hr : meth.sig.returnType = (some .boolean)) (hR : RO R 7) (hnt : ∀ x ∈ c.exceptionTable.toList, False) (hst : l.stackTraces = false) (hRc : 1 ≤ R.cells ∧ 6 ≤ R.slots) {rv : Option Int32} {σ' : St} : ∀ {x1 : Int32} {x2 : Int32} {σ : St} {H : Heap} {locs : List Loc} {ls : Array Slot} {cells slots : Nat}, cells ≤ 1 ∧ slots ≤ 6 → Wd Z (cmb σ μ) s H locs → lv_has ls 4 [(0, .ref (Z.1 + 0)), (1, .int x1), (2, .int x2)] → fX_close_43 N x1 x2 σ = some (rv, σ') → W p l e R s m args below meth c H locs cells slots (vx_MQ below (Qz Z (rv.map (fun x => (some (.int x) : Option Value))) (cmb σ' μ)) (Xz Z "java/util/NoSuchElementException" (rv.map (fun x => (some (.int x) : Option Value))) (cmb σ' μ)) args s 1 6 (fun q => Z.1 ≤ q)) (F0 m 43 ls []) := by
  have hx := hc.hx
  have hb := hc.hb
  intro x1 x2 σ H locs ls cells slots hcs hw hl hf
  unfold fX_close_43 at hf
  refine lv_aload_n hx hb (dq tk_X_close 21 rfl) rfl (lv_at hl 0 rfl) ?_
  refine G_X_courts hc hw wd_658 (dq tk_X_close 22 rfl) ?_
  refine G_Courts_closed hc hw wd_384 (dq tk_X_close 23 rfl) ?_
  refine lv_iload_n hx hb (dq tk_X_close 24 rfl) rfl (lv_at hl 1 rfl) ?_
  refine lv_aload_n hx hb (dq tk_X_close 25 rfl) rfl (lv_at hl 0 rfl) ?_
  refine G_X_today hc hw wd_664 (dq tk_X_close 26 rfl) ?_
  obtain ⟨c1, hf⟩ := chk_some hf
  obtain ⟨σ1, hσ1, hf⟩ := nm_some hf
  refine AS_Courts_closed hc hw c1 hσ1 (dq tk_X_close 27 rfl) (fun H locs hw => ?_)
  refine lv_aload_n hx hb (dq tk_X_close 28 rfl) rfl (lv_at hl 0 rfl) ?_
  refine G_X_courts hc hw wd_658 (dq tk_X_close 29 rfl) ?_
  refine G_Courts_allowed hc hw wd_386 (dq tk_X_close 30 rfl) ?_
  refine lv_iload_n hx hb (dq tk_X_close 31 rfl) rfl (lv_at hl 1 rfl) ?_
  refine lv_iload_n hx hb (dq tk_X_close 32 rfl) rfl (lv_at hl 2 rfl) ?_
  obtain ⟨σ2, hσ2, hf⟩ := nm_some hf
  refine AS_Courts_allowed hc hw c1 hσ2 (dq tk_X_close 33 rfl) (fun H locs hw => ?_)
  refine lv_iload_n hx hb (dq tk_X_close 34 rfl) rfl (lv_at hl 2 rfl) ?_
  refine lv_if_eq (tgt := 101) hx hb (dq tk_X_close 35 rfl) (by decide) (fun c2 => ?_) (fun c2 => ?_)
  · replace hf := if_t hf c2
    refine lv_iconst (v := 1) hx hb (dq tk_X_close 54 rfl) (by decide) ?_
    cases hf
    exact z_end (by omega) (by omega) (x_zret hc hw hr (by decide) (dq tk_X_close 55 rfl))
  · replace hf := if_f hf c2
    refine lv_aload_n hx hb (dq tk_X_close 36 rfl) rfl (lv_at hl 0 rfl) ?_
    refine G_X_courts hc hw wd_658 (dq tk_X_close 37 rfl) ?_
    refine G_Courts_event hc hw wd_378 (dq tk_X_close 38 rfl) ?_
    refine lv_iload_n hx hb (dq tk_X_close 39 rfl) rfl (lv_at hl 1 rfl) ?_
    refine AL_Courts_event hc hw c1 (dq tk_X_close 40 rfl) ?_
    obtain ⟨y3, hy3, hf⟩ := nm_some hf
    refine tst (congrArg Value.int hy3) ?_
    refine lv_istore_n (lv' := [(3, .int y3), (0, .ref (Z.1 + 0)), (1, .int x1), (2, .int x2)]) hx hb (dq tk_X_close 41 rfl) rfl hl (by decide) rfl (fun ls hl => ?_)
    refine lv_aload_n hx hb (dq tk_X_close 42 rfl) rfl (lv_at hl 1 rfl) ?_
    refine lv_bipush (v := 8) hx hb (dq tk_X_close 43 rfl) (by decide) ?_
    refine lv_aload_n hx hb (dq tk_X_close 44 rfl) rfl (lv_at hl 1 rfl) ?_
    refine G_X_events hc hw wd_654 (dq tk_X_close 45 rfl) ?_
    refine G_Events_person hc hw wd_208 (dq tk_X_close 46 rfl) ?_
    refine lv_iload_n hx hb (dq tk_X_close 47 rfl) rfl (lv_at hl 0 rfl) ?_
    obtain ⟨c3, hf⟩ := chk_some hf
    refine AL_Events_person hc hw c3 (dq tk_X_close 48 rfl) ?_
    refine lv_iload_n hx hb (dq tk_X_close 49 rfl) rfl (lv_at hl 0 rfl) ?_
    refine lv_aload_n hx hb (dq tk_X_close 50 rfl) rfl (lv_at hl 1 rfl) ?_
    refine G_X_today hc hw wd_664 (dq tk_X_close 51 rfl) ?_
    obtain ⟨r4, σ5, h52, hf⟩ := bnd_some hf
    refine K_X_tell hc hw wd_1357 h52 (hR.mono (by decide)) ⟨by omega, by omega⟩ hl.1 (Nat.le_of_ble_eq_true rfl) (dq tk_X_close 52 rfl) (fun H locs hw _ => ?_)
    refine lv_pop hx hb (dq tk_X_close 53 rfl) rfl ?_
    refine lv_iconst (v := 1) hx hb (dq tk_X_close 54 rfl) (by decide) ?_
    cases hf
    exact z_end (by omega) (by omega) (x_zret hc hw hr (by decide) (dq tk_X_close 55 rfl))
set_option maxRecDepth 10000 in
theorem w_X_close {N : Nat} (hc : Cxz p s m meth c args prog_1_method_32_code "LabourExchange" 4 Z) (hr : meth.sig.returnType = (some .boolean)) (hR : RO R 7) (hnt : ∀ x ∈ c.exceptionTable.toList, False) (hst : l.stackTraces = false) (hRc : 1 ≤ R.cells ∧ 6 ≤ R.slots) {rv : Option Int32} {σ' : St} : ∀ {x1 : Int32} {x2 : Int32} {σ : St} {H : Heap} {locs : List Loc} {ls : Array Slot} {cells slots : Nat}, cells ≤ 0 ∧ slots ≤ 0 → Wd Z (cmb σ μ) s H locs → lv_has ls 4 [(0, .ref (Z.1 + 0)), (1, .int x1), (2, .int x2)] → fX_close N x1 x2 σ = some (rv, σ') → W p l e R s m args below meth c H locs cells slots (vx_MQ below (Qz Z (rv.map (fun x => (some (.int x) : Option Value))) (cmb σ' μ)) (Xz Z "java/util/NoSuchElementException" (rv.map (fun x => (some (.int x) : Option Value))) (cmb σ' μ)) args s 1 6 (fun q => Z.1 ≤ q)) (F0 m 0 ls []) := by
  have hx := hc.hx
  have hb := hc.hb
  intro x1 x2 σ H locs ls cells slots hcs hw hl hf
  unfold fX_close at hf
  refine lv_iload_n hx hb (dq tk_X_close 0 rfl) rfl (lv_at hl 1 rfl) ?_
  refine lv_aload_n hx hb (dq tk_X_close 1 rfl) rfl (lv_at hl 0 rfl) ?_
  refine G_X_courts hc hw wd_658 (dq tk_X_close 2 rfl) ?_
  refine G_Courts_cases hc hw wd_388 (dq tk_X_close 3 rfl) ?_
  obtain ⟨q4, h4, hq4⟩ := btR_some hf
  refine KZ_X_requireElement hst hc hw wd_1032 h4 (hR.mono (by decide)) ⟨by omega, by omega⟩ hl.1 (Nat.le_of_ble_eq_true rfl) (dq tk_X_close 4 rfl) (fun hn ce q H locs hw hce hcv hcl => ?_) (fun u4 hr4 H locs hw => ?_)
  · rcases hq4 with ⟨-, hf⟩ | ⟨r, hrq, -⟩
    · cases hf
      exact z_out (v := none) hc hw hnt rfl hce hcv hcl (by omega) (by omega)
    · rw [hn] at hrq
      cases hrq
  · rcases hq4 with ⟨hn, -⟩ | ⟨r, hrq, hf⟩
    · rw [hn] at hr4
      cases hr4
    rw [hrq] at hr4
    obtain rfl : u4 = r := (Option.some.inj hr4).symm
    refine lv_aload_n hx hb (dq tk_X_close 5 rfl) rfl (lv_at hl 0 rfl) ?_
    refine G_X_courts hc hw wd_658 (dq tk_X_close 6 rfl) ?_
    refine G_Courts_closed hc hw wd_384 (dq tk_X_close 7 rfl) ?_
    refine lv_iload_n hx hb (dq tk_X_close 8 rfl) rfl (lv_at hl 1 rfl) ?_
    obtain ⟨c1, hf⟩ := chk_some hf
    refine AL_Courts_closed hc hw c1 (dq tk_X_close 9 rfl) ?_
    refine lv_iconst (v := (-1)) hx hb (dq tk_X_close 10 rfl) (by decide) ?_
    refine lv_icmp_ne (tgt := 41) hx hb (dq tk_X_close 11 rfl) (by decide) (fun c2 => ?_) (fun c2 => ?_)
    · replace hf := if_f hf c2
      refine lv_iconst (v := 0) hx hb (dq tk_X_close 19 rfl) (by decide) ?_
      cases hf
      exact z_end (by omega) (by omega) (x_zret hc hw hr (by decide) (dq tk_X_close 20 rfl))
    · replace hf := if_t hf c2
      refine lv_iload_n hx hb (dq tk_X_close 12 rfl) rfl (lv_at hl 2 rfl) ?_
      refine lv_if_eq (tgt := 43) hx hb (dq tk_X_close 13 rfl) (by decide) (fun c3 => ?_) (fun c3 => ?_)
      · replace hf := if_t hf c3
        exact w_X_close_43 hc hr hR hnt hst hRc (by omega) hw (lv_sub hl [0, 1, 2] rfl) hf
      · replace hf := if_f hf c3
        refine lv_aload_n hx hb (dq tk_X_close 14 rfl) rfl (lv_at hl 0 rfl) ?_
        refine G_X_events hc hw wd_654 (dq tk_X_close 15 rfl) ?_
        refine G_Events_count hc hw wd_221 (dq tk_X_close 16 rfl) ?_
        refine lv_sipush (v := 160) hx hb (dq tk_X_close 17 rfl) (by decide) ?_
        refine lv_icmp_lt (tgt := 43) hx hb (dq tk_X_close 18 rfl) (by decide) (fun c4 => ?_) (fun c4 => ?_)
        · replace hf := if_t hf c4
          exact w_X_close_43 hc hr hR hnt hst hRc (by omega) hw (lv_sub hl [0, 1, 2] rfl) hf
        · replace hf := if_f hf c4
          refine lv_iconst (v := 0) hx hb (dq tk_X_close 19 rfl) (by decide) ?_
          cases hf
          exact z_end (by omega) (by omega) (x_zret hc hw hr (by decide) (dq tk_X_close 20 rfl))
theorem c_X_close (hst : l.stackTraces = false) {N : Nat}  {x1 : Int32} {x2 : Int32} {rv : Option Int32} {σ' : St} {σ : St} (hf : fX_close N x1 x2 σ = some (rv, σ')) : Cz l Z y_X_close prog_1_method_32_code 4 (some .boolean) { frames := 7, cells := 1, slots := 6, locals := 60 * 7 } "java/util/NoSuchElementException" [.ref (Z.1 + 0), .int x1, .int x2] (cmb σ μ) (rv.map (fun x => (some (.int x) : Option Value))) (cmb σ' μ) := by
  refine z_met (by decide) (Nat.le_of_ble_eq_true rfl) (fun p e s m args below meth c ls hc hnt hr hw hl => ?_)
  exact w_X_close hc hr ⟨Nat.le_refl _, Nat.le_refl _⟩ hnt hst ⟨Nat.le_refl _, Nat.le_refl _⟩ ⟨Nat.zero_le _, Nat.zero_le _⟩ hw hl hf
theorem KZ_X_close (hst0 : l.stackTraces = false) {idx : Nat} {N : Nat}  {x1 : Int32} {x2 : Int32} {rv : Option Int32} {σ' : St} {σ : St} (hc : Cxz p s m meth c args cc own nL Z) (hw : Wd Z (cmb σ μ) s H locs) (hl : Cond.methodLink own idx y_X_close ∈ TB) (hf : fX_close N x1 x2 σ = some (rv, σ')) (hR : RO R (7 + 1)) (hcs : cells + 1 ≤ R.cells ∧ slots + 6 ≤ R.slots) (hls : ls.size = nL) (hst : (rest.map fun v => v.category).sum ≤ 8) (hdg : decode cc pc = .ok (.invokevirtual idx, 3)) (kx : rv = none → ∀ (ce : Cell) (q : Addr) (H1 : Heap) (locs1 : List Loc), Wd Z (cmb σ' μ) s H1 locs1 → H1[q]? = some ce → ce.vm = .none → s.vm.findClass "java/util/NoSuchElementException" = some ce.cls → vx_W p l e R s m args below meth c H1 locs1 (cells + 1) (slots + 6) Q (F0 m pc ls rest) q) (kk : ∀ r1, rv = some r1 → ∀ (H1 : Heap) (locs1 : List Loc), Wd Z (cmb σ' μ) s H1 locs1 → W p l e R s m args below meth c H1 locs1 (cells + 1) (slots + 6) Q (F0 m (pc + 3) ls (.int r1 :: rest))) : W p l e R s m args below meth c H locs cells slots Q (F0 m pc ls (.int x2 :: .int x1 :: .ref (Z.1 + 0) :: rest)) := by
  exact z_iv hc hw (c_X_close hst0 hf) yv_X_close (Nat.le_of_ble_eq_true rfl) rfl rfl hl (RO.call hR (by decide)) hcs rfl hls hst hdg rfl (fun hn => kx (by cases rv with | none => rfl | some _ => cases hn)) (fun v hv H1 locs1 hw1 => by cases rv with | none => cases hv | some r1 => cases hv; exact kk r1 rfl H1 locs1 hw1)
set_option maxRecDepth 10000 in
theorem w_X_isLate_39 {N : Nat} (hc : Cxz p s m meth c args prog_1_method_49_code "LabourExchange" 4 Z) (hr : meth.sig.returnType = (some .boolean)) (hR : RO R 8) {rv : Int32} {σ' : St} : ∀ {x2 : Int32} {s0 : Int32} {σ : St} {H : Heap} {locs : List Loc} {ls : Array Slot}, Wd Z (cmb σ μ) s H locs → lv_has ls 4 [(0, .ref (Z.1 + 0)), (2, .int x2)] → fX_isLate_39 N x2 s0 σ = some (rv, σ') → W p l e R s m args below meth c H locs 0 0 (MQ below (Qr Z (some (.int rv)) True (cmb σ' μ)) args s 0 0 (fun q => Z.1 ≤ q)) (F0 m 39 ls [.int s0]) := by
  have hx := hc.hx
  have hb := hc.hb
  intro x2 s0 σ H locs ls hw hl hf
  unfold fX_isLate_39 at hf
  refine lv_istore_n (lv' := [(3, .int s0), (0, .ref (Z.1 + 0)), (2, .int x2)]) hx hb (dq tk_X_isLate 21 rfl) rfl hl (by decide) rfl (fun ls hl => ?_)
  refine lv_iload_n hx hb (dq tk_X_isLate 22 rfl) rfl (lv_at hl 0 rfl) ?_
  refine lv_iload_n hx hb (dq tk_X_isLate 23 rfl) rfl (lv_at hl 2 rfl) ?_
  refine lv_isub hx hb (dq tk_X_isLate 24 rfl) ?_
  refine lv_aload_n hx hb (dq tk_X_isLate 25 rfl) rfl (lv_at hl 1 rfl) ?_
  obtain ⟨r1, σ2, h26, hf⟩ := bnd_some hf
  refine K_X_asOfToday hc hw wd_744 h26 (hR.mono (by decide)) ⟨Nat.zero_le _, Nat.zero_le _⟩ hl.1 (Nat.le_of_ble_eq_true rfl) (dq tk_X_isLate 26 rfl) (fun H locs hw hr1 => ?_)
  refine G_View_law hr1 hc hw wd_622 (dq tk_X_isLate 27 rfl) ?_
  refine lv_bipush (v := 7) hx hb (dq tk_X_isLate 28 rfl) (by decide) ?_
  refine lv_iload_n hx hb (dq tk_X_isLate 29 rfl) rfl (lv_at hl 2 rfl) ?_
  obtain ⟨r3, h30, hf⟩ := bn1_someZ hf
  refine K_Law_param hc hw hr1 wd_1403 h30 (hR.mono (by decide)) ⟨Nat.zero_le _, Nat.zero_le _⟩ hl.1 (Nat.le_of_ble_eq_true rfl) (dq tk_X_isLate 30 rfl) (fun H locs hw _ => ?_)
  refine lv_icmp_le (tgt := 63) hx hb (dq tk_X_isLate 31 rfl) (by decide) (fun c1 => ?_) (fun c1 => ?_)
  · replace hf := if_t hf c1
    refine lv_iconst (v := 0) hx hb (dq tk_X_isLate 34 rfl) (by decide) ?_
    cases hf
    exact x_zret hc hw hr (by decide) (dq tk_X_isLate 35 rfl)
  · replace hf := if_f hf c1
    refine lv_iconst (v := 1) hx hb (dq tk_X_isLate 32 rfl) (by decide) ?_
    refine lv_goto (tgt := 64) hx hb (dq tk_X_isLate 33 rfl) (by decide) ?_
    cases hf
    exact x_zret hc hw hr (by decide) (dq tk_X_isLate 35 rfl)
set_option maxRecDepth 10000 in
theorem w_X_isLate {N : Nat} (hc : Cxz p s m meth c args prog_1_method_49_code "LabourExchange" 4 Z) (hr : meth.sig.returnType = (some .boolean)) (hR : RO R 8) {rv : Int32} {σ' : St} : ∀ {x1 : Int32} {σ : St} {H : Heap} {locs : List Loc} {ls : Array Slot}, Wd Z (cmb σ μ) s H locs → lv_has ls 4 [(0, .ref (Z.1 + 0)), (1, .int x1)] → fX_isLate N x1 σ = some (rv, σ') → W p l e R s m args below meth c H locs 0 0 (MQ below (Qr Z (some (.int rv)) True (cmb σ' μ)) args s 0 0 (fun q => Z.1 ≤ q)) (F0 m 0 ls []) := by
  have hx := hc.hx
  have hb := hc.hb
  intro x1 σ H locs ls hw hl hf
  unfold fX_isLate at hf
  refine lv_aload_n hx hb (dq tk_X_isLate 0 rfl) rfl (lv_at hl 0 rfl) ?_
  refine G_X_courts hc hw wd_658 (dq tk_X_isLate 1 rfl) ?_
  refine G_Courts_came hc hw wd_380 (dq tk_X_isLate 2 rfl) ?_
  refine lv_iload_n hx hb (dq tk_X_isLate 3 rfl) rfl (lv_at hl 1 rfl) ?_
  obtain ⟨c1, hf⟩ := chk_some hf
  refine AL_Courts_came hc hw c1 (dq tk_X_isLate 4 rfl) ?_
  obtain ⟨y1, hy1, hf⟩ := nm_some hf
  refine tst (congrArg Value.int hy1) ?_
  refine lv_istore_n (lv' := [(2, .int y1), (0, .ref (Z.1 + 0)), (1, .int x1)]) hx hb (dq tk_X_isLate 5 rfl) rfl hl (by decide) rfl (fun ls hl => ?_)
  refine lv_aload_n hx hb (dq tk_X_isLate 6 rfl) rfl (lv_at hl 1 rfl) ?_
  refine G_X_courts hc hw wd_658 (dq tk_X_isLate 7 rfl) ?_
  refine G_Courts_closed hc hw wd_384 (dq tk_X_isLate 8 rfl) ?_
  refine lv_iload_n hx hb (dq tk_X_isLate 9 rfl) rfl (lv_at hl 2 rfl) ?_
  refine AL_Courts_closed hc hw c1 (dq tk_X_isLate 10 rfl) ?_
  refine lv_iconst (v := (-1)) hx hb (dq tk_X_isLate 11 rfl) (by decide) ?_
  refine lv_icmp_ne (tgt := 30) hx hb (dq tk_X_isLate 12 rfl) (by decide) (fun c2 => ?_) (fun c2 => ?_)
  · replace hf := if_f hf c2
    refine lv_aload_n hx hb (dq tk_X_isLate 16 rfl) rfl (lv_at hl 1 rfl) ?_
    refine G_X_courts hc hw wd_658 (dq tk_X_isLate 17 rfl) ?_
    refine G_Courts_closed hc hw wd_384 (dq tk_X_isLate 18 rfl) ?_
    refine lv_iload_n hx hb (dq tk_X_isLate 19 rfl) rfl (lv_at hl 2 rfl) ?_
    refine AL_Courts_closed hc hw c1 (dq tk_X_isLate 20 rfl) ?_
    exact w_X_isLate_39 hc hr hR hw (lv_sub hl [1, 0] rfl) hf
  · replace hf := if_t hf c2
    refine lv_aload_n hx hb (dq tk_X_isLate 13 rfl) rfl (lv_at hl 1 rfl) ?_
    refine G_X_today hc hw wd_664 (dq tk_X_isLate 14 rfl) ?_
    refine lv_goto (tgt := 39) hx hb (dq tk_X_isLate 15 rfl) (by decide) ?_
    exact w_X_isLate_39 hc hr hR hw (lv_sub hl [1, 0] rfl) hf
theorem c_X_isLate {N : Nat}  {x1 : Int32} {rv : Int32} {σ' : St} {σ : St} (hf : fX_isLate N x1 σ = some (rv, σ')) : Ct l Z y_X_isLate prog_1_method_49_code 4 (some .boolean) (rmo (8)) [.ref (Z.1 + 0), .int x1] (cmb σ μ) (some (.int rv)) True (cmb σ' μ) := by
  refine x_met (by decide) (Nat.le_of_ble_eq_true rfl) (fun p e s m args below meth c ls hc hr hw hl => ?_)
  exact w_X_isLate hc hr RO.self hw hl hf
theorem K_X_isLate {idx : Nat} {N : Nat}  {x1 : Int32} {rv : Int32} {σ' : St} {σ : St} (hc : Cxz p s m meth c args cc own nL Z) (hw : Wd Z (cmb σ μ) s H locs) (hl : Cond.methodLink own idx y_X_isLate ∈ TB) (hf : fX_isLate N x1 σ = some (rv, σ')) (hR : RO R ((8) + 1)) (hcs : cells ≤ R.cells ∧ slots ≤ R.slots) (hls : ls.size = nL) (hst : (rest.map fun v => v.category).sum ≤ 8) (hdg : decode cc pc = .ok (.invokevirtual idx, 3)) (kk : ∀ (H1 : Heap) (locs1 : List Loc), Wd Z (cmb σ' μ) s H1 locs1 → True → W p l e R s m args below meth c H1 locs1 cells slots Q (F0 m (pc + 3) ls (.int rv :: rest))) : W p l e R s m args below meth c H locs cells slots Q (F0 m pc ls (.int x1 :: .ref (Z.1 + 0) :: rest)) :=
  x_iv hc hw (c_X_isLate hf) yv_X_isLate (Nat.le_of_ble_eq_true rfl) rfl rfl hl (RO.call hR (by decide)) hcs rfl hls hst hdg rfl kk
set_option maxRecDepth 10000 in
theorem w_X_caseOf {N : Nat} (hc : Cxz p s m meth c args prog_1_method_33_code "LabourExchange" 3 Z) (hr : meth.sig.returnType = (some .int)) (hR : RO R 9) (hnt : ∀ x ∈ c.exceptionTable.toList, False) (hst : l.stackTraces = false) (hRc : 2 ≤ R.cells ∧ 12 ≤ R.slots) {rv : Option Int32} {σ' : St} : ∀ {x1 : Int32} {x2 : Int32} {σ : St} {H : Heap} {locs : List Loc} {ls : Array Slot} {cells slots : Nat}, cells ≤ 0 ∧ slots ≤ 0 → Wd Z (cmb σ μ) s H locs → lv_has ls 3 [(0, .ref (Z.1 + 0)), (1, .int x1), (2, .int x2)] → fX_caseOf N x1 x2 σ = some (rv, σ') → W p l e R s m args below meth c H locs cells slots (vx_MQ below (Qz Z (rv.map (fun x => (some (.int x) : Option Value))) (cmb σ' μ)) (Xz Z "java/util/NoSuchElementException" (rv.map (fun x => (some (.int x) : Option Value))) (cmb σ' μ)) args s 2 12 (fun q => Z.1 ≤ q)) (F0 m 0 ls []) := by
  have hx := hc.hx
  have hb := hc.hb
  intro x1 x2 σ H locs ls cells slots hcs hw hl hf
  unfold fX_caseOf at hf
  refine lv_iload_n hx hb (dq tk_X_caseOf 0 rfl) rfl (lv_at hl 1 rfl) ?_
  refine lv_aload_n hx hb (dq tk_X_caseOf 1 rfl) rfl (lv_at hl 0 rfl) ?_
  refine G_X_courts hc hw wd_658 (dq tk_X_caseOf 2 rfl) ?_
  refine G_Courts_cases hc hw wd_388 (dq tk_X_caseOf 3 rfl) ?_
  obtain ⟨q4, h4, hq4⟩ := btR_some hf
  refine KZ_X_requireElement hst hc hw wd_1032 h4 (hR.mono (by decide)) ⟨by omega, by omega⟩ hl.1 (Nat.le_of_ble_eq_true rfl) (dq tk_X_caseOf 4 rfl) (fun hn ce q H locs hw hce hcv hcl => ?_) (fun u4 hr4 H locs hw => ?_)
  · rcases hq4 with ⟨-, hf⟩ | ⟨r, hrq, -⟩
    · cases hf
      exact z_out (v := none) hc hw hnt rfl hce hcv hcl (by omega) (by omega)
    · rw [hn] at hrq
      cases hrq
  · rcases hq4 with ⟨hn, -⟩ | ⟨r, hrq, hf⟩
    · rw [hn] at hr4
      cases hr4
    rw [hrq] at hr4
    obtain rfl : u4 = r := (Option.some.inj hr4).symm
    refine lv_iload_n hx hb (dq tk_X_caseOf 5 rfl) rfl (lv_at hl 2 rfl) ?_
    by_cases c10_0 : x2 = 0
    · replace hf := if_t hf c10_0
      refine lv_tableIn (tgt := 60) hx hb (dq tk_X_caseOf 6 rfl) (by rw [c10_0]; decide) (by rw [c10_0]; decide) (by rw [c10_0]; first | done | rfl) (by decide) ?_
      refine lv_aload_n hx hb (dq tk_X_caseOf 7 rfl) rfl (lv_at hl 0 rfl) ?_
      refine G_X_courts hc hw wd_658 (dq tk_X_caseOf 8 rfl) ?_
      refine G_Courts_event hc hw wd_378 (dq tk_X_caseOf 9 rfl) ?_
      refine lv_iload_n hx hb (dq tk_X_caseOf 10 rfl) rfl (lv_at hl 1 rfl) ?_
      obtain ⟨c1, hf⟩ := chk_some hf
      refine AL_Courts_event hc hw c1 (dq tk_X_caseOf 11 rfl) ?_
      cases hf
      exact z_end (by omega) (by omega) (x_iret hc hw hr (dq tk_X_caseOf 12 rfl))
    replace hf := if_f hf c10_0
    by_cases c10_1 : x2 = 1
    · replace hf := if_t hf c10_1
      refine lv_tableIn (tgt := 70) hx hb (dq tk_X_caseOf 6 rfl) (by rw [c10_1]; decide) (by rw [c10_1]; decide) (by rw [c10_1]; first | done | rfl) (by decide) ?_
      refine lv_aload_n hx hb (dq tk_X_caseOf 13 rfl) rfl (lv_at hl 0 rfl) ?_
      refine G_X_courts hc hw wd_658 (dq tk_X_caseOf 14 rfl) ?_
      refine G_Courts_came hc hw wd_380 (dq tk_X_caseOf 15 rfl) ?_
      refine lv_iload_n hx hb (dq tk_X_caseOf 16 rfl) rfl (lv_at hl 1 rfl) ?_
      obtain ⟨c2, hf⟩ := chk_some hf
      refine AL_Courts_came hc hw c2 (dq tk_X_caseOf 17 rfl) ?_
      cases hf
      exact z_end (by omega) (by omega) (x_iret hc hw hr (dq tk_X_caseOf 18 rfl))
    replace hf := if_f hf c10_1
    by_cases c10_2 : x2 = 2
    · replace hf := if_t hf c10_2
      refine lv_tableIn (tgt := 80) hx hb (dq tk_X_caseOf 6 rfl) (by rw [c10_2]; decide) (by rw [c10_2]; decide) (by rw [c10_2]; first | done | rfl) (by decide) ?_
      refine lv_aload_n hx hb (dq tk_X_caseOf 19 rfl) rfl (lv_at hl 0 rfl) ?_
      refine G_X_courts hc hw wd_658 (dq tk_X_caseOf 20 rfl) ?_
      refine G_Courts_bench hc hw wd_382 (dq tk_X_caseOf 21 rfl) ?_
      refine lv_iload_n hx hb (dq tk_X_caseOf 22 rfl) rfl (lv_at hl 1 rfl) ?_
      refine lv_iconst (v := 3) hx hb (dq tk_X_caseOf 23 rfl) (by decide) ?_
      refine lv_imul hx hb (dq tk_X_caseOf 24 rfl) ?_
      refine lv_iload_n hx hb (dq tk_X_caseOf 25 rfl) rfl (lv_at hl 2 rfl) ?_
      refine lv_iadd hx hb (dq tk_X_caseOf 26 rfl) ?_
      refine lv_iconst (v := 2) hx hb (dq tk_X_caseOf 27 rfl) (by decide) ?_
      refine lv_isub hx hb (dq tk_X_caseOf 28 rfl) ?_
      obtain ⟨c3, hf⟩ := chk_some hf
      refine AL_Courts_bench hc hw c3 (dq tk_X_caseOf 29 rfl) ?_
      cases hf
      exact z_end (by omega) (by omega) (x_iret hc hw hr (dq tk_X_caseOf 30 rfl))
    replace hf := if_f hf c10_2
    by_cases c10_3 : x2 = 3
    · replace hf := if_t hf c10_3
      refine lv_tableIn (tgt := 80) hx hb (dq tk_X_caseOf 6 rfl) (by rw [c10_3]; decide) (by rw [c10_3]; decide) (by rw [c10_3]; first | done | rfl) (by decide) ?_
      refine lv_aload_n hx hb (dq tk_X_caseOf 19 rfl) rfl (lv_at hl 0 rfl) ?_
      refine G_X_courts hc hw wd_658 (dq tk_X_caseOf 20 rfl) ?_
      refine G_Courts_bench hc hw wd_382 (dq tk_X_caseOf 21 rfl) ?_
      refine lv_iload_n hx hb (dq tk_X_caseOf 22 rfl) rfl (lv_at hl 1 rfl) ?_
      refine lv_iconst (v := 3) hx hb (dq tk_X_caseOf 23 rfl) (by decide) ?_
      refine lv_imul hx hb (dq tk_X_caseOf 24 rfl) ?_
      refine lv_iload_n hx hb (dq tk_X_caseOf 25 rfl) rfl (lv_at hl 2 rfl) ?_
      refine lv_iadd hx hb (dq tk_X_caseOf 26 rfl) ?_
      refine lv_iconst (v := 2) hx hb (dq tk_X_caseOf 27 rfl) (by decide) ?_
      refine lv_isub hx hb (dq tk_X_caseOf 28 rfl) ?_
      obtain ⟨c4, hf⟩ := chk_some hf
      refine AL_Courts_bench hc hw c4 (dq tk_X_caseOf 29 rfl) ?_
      cases hf
      exact z_end (by omega) (by omega) (x_iret hc hw hr (dq tk_X_caseOf 30 rfl))
    replace hf := if_f hf c10_3
    by_cases c10_4 : x2 = 4
    · replace hf := if_t hf c10_4
      refine lv_tableIn (tgt := 80) hx hb (dq tk_X_caseOf 6 rfl) (by rw [c10_4]; decide) (by rw [c10_4]; decide) (by rw [c10_4]; first | done | rfl) (by decide) ?_
      refine lv_aload_n hx hb (dq tk_X_caseOf 19 rfl) rfl (lv_at hl 0 rfl) ?_
      refine G_X_courts hc hw wd_658 (dq tk_X_caseOf 20 rfl) ?_
      refine G_Courts_bench hc hw wd_382 (dq tk_X_caseOf 21 rfl) ?_
      refine lv_iload_n hx hb (dq tk_X_caseOf 22 rfl) rfl (lv_at hl 1 rfl) ?_
      refine lv_iconst (v := 3) hx hb (dq tk_X_caseOf 23 rfl) (by decide) ?_
      refine lv_imul hx hb (dq tk_X_caseOf 24 rfl) ?_
      refine lv_iload_n hx hb (dq tk_X_caseOf 25 rfl) rfl (lv_at hl 2 rfl) ?_
      refine lv_iadd hx hb (dq tk_X_caseOf 26 rfl) ?_
      refine lv_iconst (v := 2) hx hb (dq tk_X_caseOf 27 rfl) (by decide) ?_
      refine lv_isub hx hb (dq tk_X_caseOf 28 rfl) ?_
      obtain ⟨c5, hf⟩ := chk_some hf
      refine AL_Courts_bench hc hw c5 (dq tk_X_caseOf 29 rfl) ?_
      cases hf
      exact z_end (by omega) (by omega) (x_iret hc hw hr (dq tk_X_caseOf 30 rfl))
    replace hf := if_f hf c10_4
    by_cases c10_5 : x2 = 5
    · replace hf := if_t hf c10_5
      refine lv_tableIn (tgt := 96) hx hb (dq tk_X_caseOf 6 rfl) (by rw [c10_5]; decide) (by rw [c10_5]; decide) (by rw [c10_5]; first | done | rfl) (by decide) ?_
      refine lv_aload_n hx hb (dq tk_X_caseOf 31 rfl) rfl (lv_at hl 0 rfl) ?_
      refine G_X_courts hc hw wd_658 (dq tk_X_caseOf 32 rfl) ?_
      refine G_Courts_closed hc hw wd_384 (dq tk_X_caseOf 33 rfl) ?_
      refine lv_iload_n hx hb (dq tk_X_caseOf 34 rfl) rfl (lv_at hl 1 rfl) ?_
      obtain ⟨c6, hf⟩ := chk_some hf
      refine AL_Courts_closed hc hw c6 (dq tk_X_caseOf 35 rfl) ?_
      cases hf
      exact z_end (by omega) (by omega) (x_iret hc hw hr (dq tk_X_caseOf 36 rfl))
    replace hf := if_f hf c10_5
    by_cases c10_6 : x2 = 6
    · replace hf := if_t hf c10_6
      refine lv_tableIn (tgt := 106) hx hb (dq tk_X_caseOf 6 rfl) (by rw [c10_6]; decide) (by rw [c10_6]; decide) (by rw [c10_6]; first | done | rfl) (by decide) ?_
      refine lv_aload_n hx hb (dq tk_X_caseOf 37 rfl) rfl (lv_at hl 0 rfl) ?_
      refine G_X_courts hc hw wd_658 (dq tk_X_caseOf 38 rfl) ?_
      refine G_Courts_allowed hc hw wd_386 (dq tk_X_caseOf 39 rfl) ?_
      refine lv_iload_n hx hb (dq tk_X_caseOf 40 rfl) rfl (lv_at hl 1 rfl) ?_
      obtain ⟨c7, hf⟩ := chk_some hf
      refine AL_Courts_allowed hc hw c7 (dq tk_X_caseOf 41 rfl) ?_
      refine lv_if_eq (tgt := 122) hx hb (dq tk_X_caseOf 42 rfl) (by decide) (fun c8 => ?_) (fun c8 => ?_)
      · replace hf := if_t hf c8
        refine lv_iconst (v := 0) hx hb (dq tk_X_caseOf 45 rfl) (by decide) ?_
        cases hf
        exact z_end (by omega) (by omega) (x_iret hc hw hr (dq tk_X_caseOf 46 rfl))
      · replace hf := if_f hf c8
        refine lv_iconst (v := 1) hx hb (dq tk_X_caseOf 43 rfl) (by decide) ?_
        refine lv_goto (tgt := 123) hx hb (dq tk_X_caseOf 44 rfl) (by decide) ?_
        cases hf
        exact z_end (by omega) (by omega) (x_iret hc hw hr (dq tk_X_caseOf 46 rfl))
    replace hf := if_f hf c10_6
    by_cases c10_7 : x2 = 7
    · replace hf := if_t hf c10_7
      refine lv_tableIn (tgt := 124) hx hb (dq tk_X_caseOf 6 rfl) (by rw [c10_7]; decide) (by rw [c10_7]; decide) (by rw [c10_7]; first | done | rfl) (by decide) ?_
      refine lv_aload_n hx hb (dq tk_X_caseOf 47 rfl) rfl (lv_at hl 0 rfl) ?_
      refine lv_iload_n hx hb (dq tk_X_caseOf 48 rfl) rfl (lv_at hl 1 rfl) ?_
      obtain ⟨r1, σ2, h49, hf⟩ := bnd_some hf
      refine K_X_isLate hc hw wd_1567 h49 (hR.mono (by decide)) ⟨by omega, by omega⟩ hl.1 (Nat.le_of_ble_eq_true rfl) (dq tk_X_caseOf 49 rfl) (fun H locs hw _ => ?_)
      refine lv_if_eq (tgt := 136) hx hb (dq tk_X_caseOf 50 rfl) (by decide) (fun c9 => ?_) (fun c9 => ?_)
      · replace hf := if_t hf c9
        refine lv_iconst (v := 0) hx hb (dq tk_X_caseOf 53 rfl) (by decide) ?_
        cases hf
        exact z_end (by omega) (by omega) (x_iret hc hw hr (dq tk_X_caseOf 54 rfl))
      · replace hf := if_f hf c9
        refine lv_iconst (v := 1) hx hb (dq tk_X_caseOf 51 rfl) (by decide) ?_
        refine lv_goto (tgt := 137) hx hb (dq tk_X_caseOf 52 rfl) (by decide) ?_
        cases hf
        exact z_end (by omega) (by omega) (x_iret hc hw hr (dq tk_X_caseOf 54 rfl))
    replace hf := if_f hf c10_7
    refine lv_tableOut (tgt := 138) hx hb (dq tk_X_caseOf 6 rfl) (sw_out (fun k h1 h2 => by
      have h3 : k = 0 ∨ k = 1 ∨ k = 2 ∨ k = 3 ∨ k = 4 ∨ k = 5 ∨ k = 6 ∨ k = 7 := by omega
      rcases h3 with rfl | rfl | rfl | rfl | rfl | rfl | rfl | rfl
      · exact c10_0
      · exact c10_1
      · exact c10_2
      · exact c10_3
      · exact c10_4
      · exact c10_5
      · exact c10_6
      · exact c10_7
      )) (by decide) ?_
    cases hf
    exact z_throwN hc hw hnt hst hl.1 (dq tk_X_caseOf 55 rfl) (dq tk_X_caseOf 56 rfl) (dq tk_X_caseOf 57 rfl) (dq tk_X_caseOf 58 rfl) (hR.mono (by decide)) (by omega) (by omega) (by omega) (by omega)
theorem c_X_caseOf (hst : l.stackTraces = false) {N : Nat}  {x1 : Int32} {x2 : Int32} {rv : Option Int32} {σ' : St} {σ : St} (hf : fX_caseOf N x1 x2 σ = some (rv, σ')) : Cz l Z y_X_caseOf prog_1_method_33_code 3 (some .int) { frames := 9, cells := 2, slots := 12, locals := 60 * 9 } "java/util/NoSuchElementException" [.ref (Z.1 + 0), .int x1, .int x2] (cmb σ μ) (rv.map (fun x => (some (.int x) : Option Value))) (cmb σ' μ) := by
  refine z_met (by decide) (Nat.le_of_ble_eq_true rfl) (fun p e s m args below meth c ls hc hnt hr hw hl => ?_)
  exact w_X_caseOf hc hr ⟨Nat.le_refl _, Nat.le_refl _⟩ hnt hst ⟨Nat.le_refl _, Nat.le_refl _⟩ ⟨Nat.zero_le _, Nat.zero_le _⟩ hw hl hf
theorem KZ_X_caseOf (hst0 : l.stackTraces = false) {idx : Nat} {N : Nat}  {x1 : Int32} {x2 : Int32} {rv : Option Int32} {σ' : St} {σ : St} (hc : Cxz p s m meth c args cc own nL Z) (hw : Wd Z (cmb σ μ) s H locs) (hl : Cond.methodLink own idx y_X_caseOf ∈ TB) (hf : fX_caseOf N x1 x2 σ = some (rv, σ')) (hR : RO R (9 + 1)) (hcs : cells + 2 ≤ R.cells ∧ slots + 12 ≤ R.slots) (hls : ls.size = nL) (hst : (rest.map fun v => v.category).sum ≤ 8) (hdg : decode cc pc = .ok (.invokevirtual idx, 3)) (kx : rv = none → ∀ (ce : Cell) (q : Addr) (H1 : Heap) (locs1 : List Loc), Wd Z (cmb σ' μ) s H1 locs1 → H1[q]? = some ce → ce.vm = .none → s.vm.findClass "java/util/NoSuchElementException" = some ce.cls → vx_W p l e R s m args below meth c H1 locs1 (cells + 2) (slots + 12) Q (F0 m pc ls rest) q) (kk : ∀ r1, rv = some r1 → ∀ (H1 : Heap) (locs1 : List Loc), Wd Z (cmb σ' μ) s H1 locs1 → W p l e R s m args below meth c H1 locs1 (cells + 2) (slots + 12) Q (F0 m (pc + 3) ls (.int r1 :: rest))) : W p l e R s m args below meth c H locs cells slots Q (F0 m pc ls (.int x2 :: .int x1 :: .ref (Z.1 + 0) :: rest)) := by
  exact z_iv hc hw (c_X_caseOf hst0 hf) yv_X_caseOf (Nat.le_of_ble_eq_true rfl) rfl rfl hl (RO.call hR (by decide)) hcs rfl hls hst hdg rfl (fun hn => kx (by cases rv with | none => rfl | some _ => cases hn)) (fun v hv H1 locs1 hw1 => by cases rv with | none => cases hv | some r1 => cases hv; exact kk r1 rfl H1 locs1 hw1)
set_option maxRecDepth 10000 in
theorem w_X_compareWithTry_68 {N : Nat} (hc : Cxz p s m meth c args prog_1_method_50_code "LabourExchange" 6 Z) (hr : meth.sig.returnType = none) (hR : RO R 8) {σ' : St} {go32 : Nat → Int32 → St → Option St} (hgo32 : ∀ {k1_0 : Nat} {x2 : Int32} {σ : St} {H : Heap} {locs : List Loc} {ls : Array Slot} (hk1_0 : k1_0 < 2), Wd Z (cmb σ μ) s H locs → lv_has ls 6 [(0, .ref (Z.1 + 0)), (1, .ref (Z.1 + (192 + 187 * k1_0))), (2, .int x2)] → go32 k1_0 x2 σ = some σ' → W p l e R s m args below meth c H locs 0 0 (MQ below (Qr Z none True (cmb σ' μ)) args s 0 0 (fun q => Z.1 ≤ q)) (F0 m 32 ls [])) (n : Nat) : ∀ {k1_0 : Nat} {x2 : Int32} {k3_0 : Nat} {k3_1 : Nat} {k4_0 : Nat} {k4_1 : Nat} {x5 : Int32} {σ : St} {H : Heap} {locs : List Loc} {ls : Array Slot} (hk1_0 : k1_0 < 2) (hk3_0 : k3_0 < 2) (hk3_1 : k3_1 < 20) (hk4_0 : k4_0 < 2) (hk4_1 : k4_1 < 20), Wd Z (cmb σ μ) s H locs → lv_has ls 6 [(0, .ref (Z.1 + 0)), (1, .ref (Z.1 + (192 + 187 * k1_0))), (2, .int x2), (3, .ref (Z.1 + (283 + 187 * k3_0 + 5 * k3_1))), (4, .ref (Z.1 + (283 + 187 * k4_0 + 5 * k4_1))), (5, .int x5)] → fX_compareWithTry_68 N go32 n k1_0 x2 k3_0 k3_1 k4_0 k4_1 x5 σ = some σ' → W p l e R s m args below meth c H locs 0 0 (MQ below (Qr Z none True (cmb σ' μ)) args s 0 0 (fun q => Z.1 ≤ q)) (F0 m 68 ls []) := by
  have hx := hc.hx
  have hb := hc.hb
  induction n with
  | zero =>
    intro k1_0 x2 k3_0 k3_1 k4_0 k4_1 x5 σ H locs ls hk1_0 hk3_0 hk3_1 hk4_0 hk4_1 hw hl hf
    have hf : none = some _ := hf
    cases hf
  | succ n ih =>
    intro k1_0 x2 k3_0 k3_1 k4_0 k4_1 x5 σ H locs ls hk1_0 hk3_0 hk3_1 hk4_0 hk4_1 hw hl hf
    unfold fX_compareWithTry_68 at hf
    refine lv_iload hx hb (dq tk_X_compareWithTry 36 rfl) (lv_at hl 5 rfl) ?_
    refine lv_iconst (v := 3) hx hb (dq tk_X_compareWithTry 37 rfl) (by decide) ?_
    refine lv_icmp_ge (tgt := 135) hx hb (dq tk_X_compareWithTry 38 rfl) (by decide) (fun c1 => ?_) (fun c1 => ?_)
    · replace hf := if_t hf c1
      refine lv_iinc (v := (x2 + 1)) (lv' := [(2, .int (x2 + 1)), (0, .ref (Z.1 + 0)), (1, .ref (Z.1 + (192 + 187 * k1_0))), (3, .ref (Z.1 + (283 + 187 * k3_0 + 5 * k3_1))), (4, .ref (Z.1 + (283 + 187 * k4_0 + 5 * k4_1))), (5, .int x5)]) hx hb (dq tk_X_compareWithTry 79 rfl) hl (k := 2) rfl rfl (by decide) rfl (fun ls hl => ?_)
      refine lv_goto (tgt := 32) hx hb (dq tk_X_compareWithTry 80 rfl) (by decide) ?_
      exact hgo32 hk1_0 hw (lv_sub hl [1, 2, 0] rfl) hf
    · replace hf := if_f hf c1
      refine lv_aload_n hx hb (dq tk_X_compareWithTry 39 rfl) rfl (lv_at hl 0 rfl) ?_
      refine G_X_more hc hw wd_661 (dq tk_X_compareWithTry 40 rfl) ?_
      refine lv_aload_n hx hb (dq tk_X_compareWithTry 41 rfl) rfl (lv_at hl 0 rfl) ?_
      refine G_X_land hc hw wd_652 (dq tk_X_compareWithTry 42 rfl) ?_
      refine G_Land_trade hc hw wd_94 (dq tk_X_compareWithTry 43 rfl) ?_
      refine lv_iload_n hx hb (dq tk_X_compareWithTry 44 rfl) rfl (lv_at hl 2 rfl) ?_
      obtain ⟨c2, hf⟩ := chk_some hf
      refine AL_Land_trade hc hw c2 (dq tk_X_compareWithTry 45 rfl) ?_
      refine lv_iconst (v := 3) hx hb (dq tk_X_compareWithTry 46 rfl) (by decide) ?_
      refine lv_imul hx hb (dq tk_X_compareWithTry 47 rfl) ?_
      refine lv_iload hx hb (dq tk_X_compareWithTry 48 rfl) (lv_at hl 5 rfl) ?_
      refine lv_iadd hx hb (dq tk_X_compareWithTry 49 rfl) ?_
      refine lv_dup2_11 hx hb (dq tk_X_compareWithTry 50 rfl) rfl rfl ?_
      obtain ⟨c3, hf⟩ := chk_some hf
      refine AL_X_more hc hw c3 (dq tk_X_compareWithTry 51 rfl) ?_
      refine lv_aload_n hx hb (dq tk_X_compareWithTry 52 rfl) rfl (lv_at hl 3 rfl) ?_
      refine lv_iload hx hb (dq tk_X_compareWithTry 53 rfl) (lv_at hl 5 rfl) ?_
      obtain ⟨c4, hf⟩ := chk_some hf
      refine AL_Life_totals hk3_0 hk3_1 hc hw c4 (dq tk_X_compareWithTry 54 rfl) ?_
      refine lv_aload hx hb (dq tk_X_compareWithTry 55 rfl) (lv_at hl 4 rfl) ?_
      refine lv_iload hx hb (dq tk_X_compareWithTry 56 rfl) (lv_at hl 5 rfl) ?_
      refine AL_Life_totals hk4_0 hk4_1 hc hw c4 (dq tk_X_compareWithTry 57 rfl) ?_
      refine lv_isub hx hb (dq tk_X_compareWithTry 58 rfl) ?_
      refine lv_iadd hx hb (dq tk_X_compareWithTry 59 rfl) ?_
      obtain ⟨σ1, hσ1, hf⟩ := nm_some hf
      refine AS_X_more hc hw c3 hσ1 (dq tk_X_compareWithTry 60 rfl) (fun H locs hw => ?_)
      refine lv_aload_n hx hb (dq tk_X_compareWithTry 61 rfl) rfl (lv_at hl 0 rfl) ?_
      refine G_X_more hc hw wd_661 (dq tk_X_compareWithTry 62 rfl) ?_
      refine lv_bipush (v := 24) hx hb (dq tk_X_compareWithTry 63 rfl) (by decide) ?_
      refine lv_iload hx hb (dq tk_X_compareWithTry 64 rfl) (lv_at hl 5 rfl) ?_
      refine lv_iadd hx hb (dq tk_X_compareWithTry 65 rfl) ?_
      refine lv_dup2_11 hx hb (dq tk_X_compareWithTry 66 rfl) rfl rfl ?_
      obtain ⟨c5, hf⟩ := chk_some hf
      refine AL_X_more hc hw c5 (dq tk_X_compareWithTry 67 rfl) ?_
      refine lv_aload_n hx hb (dq tk_X_compareWithTry 68 rfl) rfl (lv_at hl 3 rfl) ?_
      refine lv_iload hx hb (dq tk_X_compareWithTry 69 rfl) (lv_at hl 5 rfl) ?_
      refine AL_Life_totals hk3_0 hk3_1 hc hw c4 (dq tk_X_compareWithTry 70 rfl) ?_
      refine lv_aload hx hb (dq tk_X_compareWithTry 71 rfl) (lv_at hl 4 rfl) ?_
      refine lv_iload hx hb (dq tk_X_compareWithTry 72 rfl) (lv_at hl 5 rfl) ?_
      refine AL_Life_totals hk4_0 hk4_1 hc hw c4 (dq tk_X_compareWithTry 73 rfl) ?_
      refine lv_isub hx hb (dq tk_X_compareWithTry 74 rfl) ?_
      refine lv_iadd hx hb (dq tk_X_compareWithTry 75 rfl) ?_
      obtain ⟨σ2, hσ2, hf⟩ := nm_some hf
      refine AS_X_more hc hw c5 hσ2 (dq tk_X_compareWithTry 76 rfl) (fun H locs hw => ?_)
      refine lv_iinc (v := (x5 + 1)) (lv' := [(5, .int (x5 + 1)), (0, .ref (Z.1 + 0)), (1, .ref (Z.1 + (192 + 187 * k1_0))), (2, .int x2), (3, .ref (Z.1 + (283 + 187 * k3_0 + 5 * k3_1))), (4, .ref (Z.1 + (283 + 187 * k4_0 + 5 * k4_1)))]) hx hb (dq tk_X_compareWithTry 77 rfl) hl (k := 5) rfl rfl (by decide) rfl (fun ls hl => ?_)
      refine lv_goto (tgt := 68) hx hb (dq tk_X_compareWithTry 78 rfl) (by decide) ?_
      exact ih hk1_0 hk3_0 hk3_1 hk4_0 hk4_1 hw (lv_sub hl [1, 2, 3, 4, 5, 0] rfl) hf
set_option maxRecDepth 10000 in
theorem w_X_compareWithTry_32 {N : Nat} (hc : Cxz p s m meth c args prog_1_method_50_code "LabourExchange" 6 Z) (hr : meth.sig.returnType = none) (hR : RO R 8) {σ' : St} (n : Nat) : ∀ {k1_0 : Nat} {x2 : Int32} {σ : St} {H : Heap} {locs : List Loc} {ls : Array Slot} (hk1_0 : k1_0 < 2), Wd Z (cmb σ μ) s H locs → lv_has ls 6 [(0, .ref (Z.1 + 0)), (1, .ref (Z.1 + (192 + 187 * k1_0))), (2, .int x2)] → fX_compareWithTry_32 N n k1_0 x2 σ = some σ' → W p l e R s m args below meth c H locs 0 0 (MQ below (Qr Z none True (cmb σ' μ)) args s 0 0 (fun q => Z.1 ≤ q)) (F0 m 32 ls []) := by
  have hx := hc.hx
  have hb := hc.hb
  induction n with
  | zero =>
    intro k1_0 x2 σ H locs ls hk1_0 hw hl hf
    have hf : none = some _ := hf
    cases hf
  | succ n ih =>
    intro k1_0 x2 σ H locs ls hk1_0 hw hl hf
    unfold fX_compareWithTry_32 at hf
    refine lv_iload_n hx hb (dq tk_X_compareWithTry 18 rfl) rfl (lv_at hl 2 rfl) ?_
    refine lv_aload_n hx hb (dq tk_X_compareWithTry 19 rfl) rfl (lv_at hl 0 rfl) ?_
    refine G_X_land hc hw wd_652 (dq tk_X_compareWithTry 20 rfl) ?_
    refine G_Land_people hc hw wd_103 (dq tk_X_compareWithTry 21 rfl) ?_
    refine lv_icmp_ge (tgt := 141) hx hb (dq tk_X_compareWithTry 22 rfl) (by decide) (fun c1 => ?_) (fun c1 => ?_)
    · replace hf := if_t hf c1
      refine lv_aload_n hx hb (dq tk_X_compareWithTry 81 rfl) rfl (lv_at hl 0 rfl) ?_
      refine G_X_then hc hw wd_660 (dq tk_X_compareWithTry 82 rfl) ?_
      refine G_View_law (by decide) hc hw wd_622 (dq tk_X_compareWithTry 83 rfl) ?_
      obtain ⟨σ1, h84, hf⟩ := bn1_someZ hf
      refine K_Law_forget hc hw (by decide) wd_1583 h84 (hR.mono (by decide)) ⟨Nat.zero_le _, Nat.zero_le _⟩ hl.1 (Nat.le_of_ble_eq_true rfl) (dq tk_X_compareWithTry 84 rfl) (fun H locs hw _ => ?_)
      refine lv_aload_n hx hb (dq tk_X_compareWithTry 85 rfl) rfl (lv_at hl 0 rfl) ?_
      refine lv_iconst (v := 1) hx hb (dq tk_X_compareWithTry 86 rfl) (by decide) ?_
      obtain ⟨σ2, hσ2, hf⟩ := nm_some hf
      refine P_X_wasTried hc hw wd_663 (by decide) hσ2 (dq tk_X_compareWithTry 87 rfl) (fun H locs hw => ?_)
      cases hf
      exact x_vret hc hw hr (dq tk_X_compareWithTry 88 rfl)
    · replace hf := if_f hf c1
      refine lv_aload_n hx hb (dq tk_X_compareWithTry 23 rfl) rfl (lv_at hl 0 rfl) ?_
      refine G_X_then hc hw wd_660 (dq tk_X_compareWithTry 24 rfl) ?_
      refine lv_iload_n hx hb (dq tk_X_compareWithTry 25 rfl) rfl (lv_at hl 2 rfl) ?_
      obtain ⟨r3, σ4, h26, hf⟩ := bnd_some hf
      refine K_View_lifeOf hc hw (by decide) wd_779 h26 (hR.mono (by decide)) ⟨Nat.zero_le _, Nat.zero_le _⟩ hl.1 (Nat.le_of_ble_eq_true rfl) (dq tk_X_compareWithTry 26 rfl) (fun H locs hw hr3 => ?_)
      refine G_Life_totals hr3.1 hr3.2 hc hw wd_557 (dq tk_X_compareWithTry 27 rfl) ?_
      refine lv_astore_n (lv' := [(3, .ref (Z.1 + (283 + 187 * r3.1 + 5 * r3.2))), (0, .ref (Z.1 + 0)), (1, .ref (Z.1 + (192 + 187 * k1_0))), (2, .int x2)]) hx hb (dq tk_X_compareWithTry 28 rfl) rfl hl (by decide) rfl (fun ls hl => ?_)
      refine lv_aload_n hx hb (dq tk_X_compareWithTry 29 rfl) rfl (lv_at hl 2 rfl) ?_
      refine lv_iload_n hx hb (dq tk_X_compareWithTry 30 rfl) rfl (lv_at hl 3 rfl) ?_
      obtain ⟨r5, σ6, h31, hf⟩ := bnd_some hf
      refine K_View_lifeOf hc hw hk1_0 wd_779 h31 (hR.mono (by decide)) ⟨Nat.zero_le _, Nat.zero_le _⟩ hl.1 (Nat.le_of_ble_eq_true rfl) (dq tk_X_compareWithTry 31 rfl) (fun H locs hw hr5 => ?_)
      refine G_Life_totals hr5.1 hr5.2 hc hw wd_557 (dq tk_X_compareWithTry 32 rfl) ?_
      refine lv_astore (lv' := [(4, .ref (Z.1 + (283 + 187 * r5.1 + 5 * r5.2))), (3, .ref (Z.1 + (283 + 187 * r3.1 + 5 * r3.2))), (0, .ref (Z.1 + 0)), (1, .ref (Z.1 + (192 + 187 * k1_0))), (2, .int x2)]) hx hb (dq tk_X_compareWithTry 33 rfl) hl (by decide) rfl (fun ls hl => ?_)
      refine lv_iconst (v := 0) hx hb (dq tk_X_compareWithTry 34 rfl) (by decide) ?_
      refine lv_istore (lv' := [(5, .int 0), (4, .ref (Z.1 + (283 + 187 * r5.1 + 5 * r5.2))), (3, .ref (Z.1 + (283 + 187 * r3.1 + 5 * r3.2))), (0, .ref (Z.1 + 0)), (1, .ref (Z.1 + (192 + 187 * k1_0))), (2, .int x2)]) hx hb (dq tk_X_compareWithTry 35 rfl) hl (by decide) rfl (fun ls hl => ?_)
      exact w_X_compareWithTry_68 hc hr hR ih N hk1_0 hr3.1 hr3.2 hr5.1 hr5.2 hw (lv_sub hl [3, 4, 5, 2, 1, 0] rfl) hf
set_option maxRecDepth 10000 in
theorem w_X_compareWithTry {N : Nat} (hc : Cxz p s m meth c args prog_1_method_50_code "LabourExchange" 6 Z) (hr : meth.sig.returnType = none) (hR : RO R 8) {σ' : St} : ∀ {σ : St} {H : Heap} {locs : List Loc} {ls : Array Slot}, Wd Z (cmb σ μ) s H locs → lv_has ls 6 [(0, .ref (Z.1 + 0))] → fX_compareWithTry N σ = some σ' → W p l e R s m args below meth c H locs 0 0 (MQ below (Qr Z none True (cmb σ' μ)) args s 0 0 (fun q => Z.1 ≤ q)) (F0 m 0 ls []) := by
  have hx := hc.hx
  have hb := hc.hb
  intro σ H locs ls hw hl hf
  unfold fX_compareWithTry at hf
  refine lv_aload_n hx hb (dq tk_X_compareWithTry 0 rfl) rfl (lv_at hl 0 rfl) ?_
  obtain ⟨r1, σ2, h1, hf⟩ := bnd_some hf
  refine K_X_asOfToday hc hw wd_744 h1 (hR.mono (by decide)) ⟨Nat.zero_le _, Nat.zero_le _⟩ hl.1 (Nat.le_of_ble_eq_true rfl) (dq tk_X_compareWithTry 1 rfl) (fun H locs hw hr1 => ?_)
  refine lv_astore_n (lv' := [(1, .ref (Z.1 + (192 + 187 * r1))), (0, .ref (Z.1 + 0))]) hx hb (dq tk_X_compareWithTry 2 rfl) rfl hl (by decide) rfl (fun ls hl => ?_)
  refine lv_aload_n hx hb (dq tk_X_compareWithTry 3 rfl) rfl (lv_at hl 1 rfl) ?_
  refine G_X_then hc hw wd_660 (dq tk_X_compareWithTry 4 rfl) ?_
  refine lv_aload_n hx hb (dq tk_X_compareWithTry 5 rfl) rfl (lv_at hl 1 rfl) ?_
  refine G_X_today hc hw wd_664 (dq tk_X_compareWithTry 6 rfl) ?_
  refine lv_aload_n hx hb (dq tk_X_compareWithTry 7 rfl) rfl (lv_at hl 1 rfl) ?_
  refine G_X_texts hc hw wd_662 (dq tk_X_compareWithTry 8 rfl) ?_
  refine lv_iconst (v := 1) hx hb (dq tk_X_compareWithTry 9 rfl) (by decide) ?_
  refine lv_iadd hx hb (dq tk_X_compareWithTry 10 rfl) ?_
  obtain ⟨σ3, h11, hf⟩ := bn1_someZ hf
  refine K_View_settle hc hw (by decide) wd_748 h11 (hR.mono (by decide)) ⟨Nat.zero_le _, Nat.zero_le _⟩ hl.1 (Nat.le_of_ble_eq_true rfl) (dq tk_X_compareWithTry 11 rfl) (fun H locs hw _ => ?_)
  refine lv_aload_n hx hb (dq tk_X_compareWithTry 12 rfl) rfl (lv_at hl 1 rfl) ?_
  refine G_X_more hc hw wd_661 (dq tk_X_compareWithTry 13 rfl) ?_
  refine lv_iconst (v := 0) hx hb (dq tk_X_compareWithTry 14 rfl) (by decide) ?_
  obtain ⟨σ4, h15, hf⟩ := bn1_someZ hf
  refine K_Arrays_fill_X_more hc hw wd_1582 h15 (hR.mono (by decide)) ⟨Nat.zero_le _, Nat.zero_le _⟩ hl.1 (Nat.le_of_ble_eq_true rfl) (dq tk_X_compareWithTry 15 rfl) (fun H locs hw _ => ?_)
  refine lv_iconst (v := 0) hx hb (dq tk_X_compareWithTry 16 rfl) (by decide) ?_
  refine lv_istore_n (lv' := [(2, .int 0), (1, .ref (Z.1 + (192 + 187 * r1))), (0, .ref (Z.1 + 0))]) hx hb (dq tk_X_compareWithTry 17 rfl) rfl hl (by decide) rfl (fun ls hl => ?_)
  exact w_X_compareWithTry_32 hc hr hR N hr1 hw (lv_sub hl [2, 1, 0] rfl) hf
theorem c_X_compareWithTry {N : Nat}  {σ' : St} {σ : St} (hf : fX_compareWithTry N σ = some σ') : Ct l Z y_X_compareWithTry prog_1_method_50_code 6 none (rmo (8)) [.ref (Z.1 + 0)] (cmb σ μ) none True (cmb σ' μ) := by
  refine x_met (by decide) (Nat.le_of_ble_eq_true rfl) (fun p e s m args below meth c ls hc hr hw hl => ?_)
  exact w_X_compareWithTry hc hr RO.self hw hl hf
theorem K_X_compareWithTry {idx : Nat} {N : Nat}  {σ' : St} {σ : St} (hc : Cxz p s m meth c args cc own nL Z) (hw : Wd Z (cmb σ μ) s H locs) (hl : Cond.methodLink own idx y_X_compareWithTry ∈ TB) (hf : fX_compareWithTry N σ = some σ') (hR : RO R ((8) + 1)) (hcs : cells ≤ R.cells ∧ slots ≤ R.slots) (hls : ls.size = nL) (hst : (rest.map fun v => v.category).sum ≤ 8) (hdg : decode cc pc = .ok (.invokevirtual idx, 3)) (kk : ∀ (H1 : Heap) (locs1 : List Loc), Wd Z (cmb σ' μ) s H1 locs1 → True → W p l e R s m args below meth c H1 locs1 cells slots Q (F0 m (pc + 3) ls rest)) : W p l e R s m args below meth c H locs cells slots Q (F0 m pc ls (.ref (Z.1 + 0) :: rest)) :=
  x_iv hc hw (c_X_compareWithTry hf) yv_X_compareWithTry (Nat.le_of_ble_eq_true rfl) rfl rfl hl (RO.call hR (by decide)) hcs rfl hls hst hdg rfl kk
set_option maxRecDepth 10000 in
theorem w_X_attempt_27 {N : Nat} (hc : Cxz p s m meth c args prog_1_method_34_code "LabourExchange" 5 Z) (hr : meth.sig.returnType = (some .int)) (hR : RO R 80) (hnt : ∀ x ∈ c.exceptionTable.toList, False) (hst : l.stackTraces = false) (hRc : 1 ≤ R.cells ∧ 6 ≤ R.slots) {rv : Option Int32} {σ' : St} : ∀ {σ : St} {H : Heap} {locs : List Loc} {ls : Array Slot} {cells slots : Nat}, cells ≤ 1 ∧ slots ≤ 6 → Wd Z (cmb σ μ) s H locs → lv_has ls 5 [(0, .ref (Z.1 + 0))] → fX_attempt_27 N σ = some (rv, σ') → W p l e R s m args below meth c H locs cells slots (vx_MQ below (Qz Z (rv.map (fun x => (some (.int x) : Option Value))) (cmb σ' μ)) (Xz Z "java/lang/IllegalArgumentException" (rv.map (fun x => (some (.int x) : Option Value))) (cmb σ' μ)) args s 1 6 (fun q => Z.1 ≤ q)) (F0 m 27 ls []) := by
  have hx := hc.hx
  have hb := hc.hb
  intro σ H locs ls cells slots hcs hw hl hf
  unfold fX_attempt_27 at hf
  refine lv_aload_n hx hb (dq tk_X_attempt 13 rfl) rfl (lv_at hl 0 rfl) ?_
  refine G_X_reader hc hw wd_651 (dq tk_X_attempt 14 rfl) ?_
  obtain ⟨σ1, h15, hf⟩ := bn1_someZ hf
  refine K_Reader_refuse hc hw wd_1168 h15 (hR.mono (by decide)) ⟨by omega, by omega⟩ hl.1 (Nat.le_of_ble_eq_true rfl) (dq tk_X_attempt 15 rfl) (fun H locs hw _ => ?_)
  refine lv_bipush (v := 9) hx hb (dq tk_X_attempt 16 rfl) (by decide) ?_
  cases hf
  exact z_end (by omega) (by omega) (x_iret hc hw hr (dq tk_X_attempt 17 rfl))
set_option maxRecDepth 10000 in
theorem w_X_attempt {N : Nat} (hc : Cxz p s m meth c args prog_1_method_34_code "LabourExchange" 5 Z) (hr : meth.sig.returnType = (some .int)) (hR : RO R 80) (hnt : ∀ x ∈ c.exceptionTable.toList, False) (hst : l.stackTraces = false) (hRc : 1 ≤ R.cells ∧ 6 ≤ R.slots) {rv : Option Int32} {σ' : St} : ∀ {x1 : Int32} {x2 : Int32} {x3 : Int32} {σ : St} {H : Heap} {locs : List Loc} {ls : Array Slot} {cells slots : Nat}, cells ≤ 0 ∧ slots ≤ 0 → Wd Z (cmb σ μ) s H locs → lv_has ls 5 [(0, .ref (Z.1 + 0)), (1, .int x1), (2, .int x2), (3, .int x3)] → fX_attempt N x1 x2 x3 σ = some (rv, σ') → W p l e R s m args below meth c H locs cells slots (vx_MQ below (Qz Z (rv.map (fun x => (some (.int x) : Option Value))) (cmb σ' μ)) (Xz Z "java/lang/IllegalArgumentException" (rv.map (fun x => (some (.int x) : Option Value))) (cmb σ' μ)) args s 1 6 (fun q => Z.1 ≤ q)) (F0 m 0 ls []) := by
  have hx := hc.hx
  have hb := hc.hb
  intro x1 x2 x3 σ H locs ls cells slots hcs hw hl hf
  unfold fX_attempt at hf
  refine lv_aload_n hx hb (dq tk_X_attempt 0 rfl) rfl (lv_at hl 0 rfl) ?_
  refine lv_iload_n hx hb (dq tk_X_attempt 1 rfl) rfl (lv_at hl 1 rfl) ?_
  obtain ⟨q2, h2, hq2⟩ := btR_some hf
  refine KZ_X_requireOnTape hst hc hw wd_1149 h2 (hR.mono (by decide)) ⟨by omega, by omega⟩ hl.1 (Nat.le_of_ble_eq_true rfl) (dq tk_X_attempt 2 rfl) (fun hn ce q H locs hw hce hcv hcl => ?_) (fun u2 hr2 H locs hw => ?_)
  · rcases hq2 with ⟨-, hf⟩ | ⟨r, hrq, -⟩
    · cases hf
      exact z_out (v := none) hc hw hnt rfl hce hcv hcl (by omega) (by omega)
    · rw [hn] at hrq
      cases hrq
  · rcases hq2 with ⟨hn, -⟩ | ⟨r, hrq, hf⟩
    · rw [hn] at hr2
      cases hr2
    rw [hrq] at hr2
    obtain rfl : u2 = r := (Option.some.inj hr2).symm
    refine lv_iload_n hx hb (dq tk_X_attempt 3 rfl) rfl (lv_at hl 2 rfl) ?_
    refine lv_iconst (v := 0) hx hb (dq tk_X_attempt 4 rfl) (by decide) ?_
    refine lv_sipush (v := 935) hx hb (dq tk_X_attempt 5 rfl) (by decide) ?_
    obtain ⟨r1, h6, hf⟩ := bn1_someZ hf
    refine K_X_outside hc hw wd_701 h6 (hR.mono (by decide)) ⟨by omega, by omega⟩ hl.1 (Nat.le_of_ble_eq_true rfl) (dq tk_X_attempt 6 rfl) (fun H locs hw _ => ?_)
    refine lv_if_ne (tgt := 27) hx hb (dq tk_X_attempt 7 rfl) (by decide) (fun c1 => ?_) (fun c1 => ?_)
    · replace hf := if_f hf c1
      exact w_X_attempt_27 hc hr hR hnt hst hRc (by omega) hw (lv_sub hl [0] rfl) hf
    · replace hf := if_t hf c1
      refine lv_iload_n hx hb (dq tk_X_attempt 8 rfl) rfl (lv_at hl 3 rfl) ?_
      refine lv_iconst (v := 0) hx hb (dq tk_X_attempt 9 rfl) (by decide) ?_
      refine lv_sipush (v := 935) hx hb (dq tk_X_attempt 10 rfl) (by decide) ?_
      obtain ⟨r2, h11, hf⟩ := bn1_someZ hf
      refine K_X_outside hc hw wd_701 h11 (hR.mono (by decide)) ⟨by omega, by omega⟩ hl.1 (Nat.le_of_ble_eq_true rfl) (dq tk_X_attempt 11 rfl) (fun H locs hw _ => ?_)
      refine lv_if_eq (tgt := 37) hx hb (dq tk_X_attempt 12 rfl) (by decide) (fun c2 => ?_) (fun c2 => ?_)
      · replace hf := if_t hf c2
        refine lv_aload_n hx hb (dq tk_X_attempt 18 rfl) rfl (lv_at hl 0 rfl) ?_
        refine G_X_reader hc hw wd_651 (dq tk_X_attempt 19 rfl) ?_
        refine lv_iload_n hx hb (dq tk_X_attempt 20 rfl) rfl (lv_at hl 1 rfl) ?_
        refine lv_aload_n hx hb (dq tk_X_attempt 21 rfl) rfl (lv_at hl 0 rfl) ?_
        refine G_X_acts hc hw wd_655 (dq tk_X_attempt 22 rfl) ?_
        refine lv_aload_n hx hb (dq tk_X_attempt 23 rfl) rfl (lv_at hl 0 rfl) ?_
        refine G_X_texts hc hw wd_662 (dq tk_X_attempt 24 rfl) ?_
        obtain ⟨c3, hf⟩ := chk_some hf
        refine AL_X_acts hc hw c3 (dq tk_X_attempt 25 rfl) ?_
        obtain ⟨r3, σ4, h26, hf⟩ := bnd_some hf
        refine K_Reader_read hc hw (inb_lt c3) wd_1173 h26 (hR.mono (by decide)) ⟨by omega, by omega⟩ hl.1 (Nat.le_of_ble_eq_true rfl) (dq tk_X_attempt 26 rfl) (fun H locs hw _ => ?_)
        refine lv_istore (lv' := [(4, .int r3), (0, .ref (Z.1 + 0)), (1, .int x1), (2, .int x2), (3, .int x3)]) hx hb (dq tk_X_attempt 27 rfl) hl (by decide) rfl (fun ls hl => ?_)
        refine lv_iload hx hb (dq tk_X_attempt 28 rfl) (lv_at hl 0 rfl) ?_
        refine lv_if_ne (tgt := 83) hx hb (dq tk_X_attempt 29 rfl) (by decide) (fun c4 => ?_) (fun c4 => ?_)
        · replace hf := if_f hf c4
          refine lv_iload hx hb (dq tk_X_attempt 42 rfl) (lv_at hl 0 rfl) ?_
          cases hf
          exact z_end (by omega) (by omega) (x_iret hc hw hr (dq tk_X_attempt 43 rfl))
        · replace hf := if_t hf c4
          refine lv_aload_n hx hb (dq tk_X_attempt 30 rfl) rfl (lv_at hl 1 rfl) ?_
          refine G_X_acts hc hw wd_655 (dq tk_X_attempt 31 rfl) ?_
          refine lv_aload_n hx hb (dq tk_X_attempt 32 rfl) rfl (lv_at hl 1 rfl) ?_
          refine G_X_texts hc hw wd_662 (dq tk_X_attempt 33 rfl) ?_
          obtain ⟨c5, hf⟩ := chk_some hf
          refine AL_X_acts hc hw c5 (dq tk_X_attempt 34 rfl) ?_
          refine lv_iload_n hx hb (dq tk_X_attempt 35 rfl) rfl (lv_at hl 3 rfl) ?_
          refine lv_iload_n hx hb (dq tk_X_attempt 36 rfl) rfl (lv_at hl 4 rfl) ?_
          refine lv_aload_n hx hb (dq tk_X_attempt 37 rfl) rfl (lv_at hl 1 rfl) ?_
          refine G_X_today hc hw wd_664 (dq tk_X_attempt 38 rfl) ?_
          obtain ⟨σ5, h39, hf⟩ := bn1_someZ hf
          refine K_Act_reign hc hw (inb_lt c5) wd_1340 h39 (hR.mono (by decide)) ⟨by omega, by omega⟩ hl.1 (Nat.le_of_ble_eq_true rfl) (dq tk_X_attempt 39 rfl) (fun H locs hw _ => ?_)
          refine lv_aload_n hx hb (dq tk_X_attempt 40 rfl) rfl (lv_at hl 1 rfl) ?_
          obtain ⟨σ6, h41, hf⟩ := bn1_someZ hf
          refine K_X_compareWithTry hc hw wd_1578 h41 (hR.mono (by decide)) ⟨by omega, by omega⟩ hl.1 (Nat.le_of_ble_eq_true rfl) (dq tk_X_attempt 41 rfl) (fun H locs hw _ => ?_)
          refine lv_iload hx hb (dq tk_X_attempt 42 rfl) (lv_at hl 0 rfl) ?_
          cases hf
          exact z_end (by omega) (by omega) (x_iret hc hw hr (dq tk_X_attempt 43 rfl))
      · replace hf := if_f hf c2
        exact w_X_attempt_27 hc hr hR hnt hst hRc (by omega) hw (lv_sub hl [0] rfl) hf
theorem c_X_attempt (hst : l.stackTraces = false) {N : Nat}  {x1 : Int32} {x2 : Int32} {x3 : Int32} {rv : Option Int32} {σ' : St} {σ : St} (hf : fX_attempt N x1 x2 x3 σ = some (rv, σ')) : Cz l Z y_X_attempt prog_1_method_34_code 5 (some .int) { frames := 80, cells := 1, slots := 6, locals := 60 * 80 } "java/lang/IllegalArgumentException" [.ref (Z.1 + 0), .int x1, .int x2, .int x3] (cmb σ μ) (rv.map (fun x => (some (.int x) : Option Value))) (cmb σ' μ) := by
  refine z_met (by decide) (Nat.le_of_ble_eq_true rfl) (fun p e s m args below meth c ls hc hnt hr hw hl => ?_)
  exact w_X_attempt hc hr ⟨Nat.le_refl _, Nat.le_refl _⟩ hnt hst ⟨Nat.le_refl _, Nat.le_refl _⟩ ⟨Nat.zero_le _, Nat.zero_le _⟩ hw hl hf
theorem KZ_X_attempt (hst0 : l.stackTraces = false) {idx : Nat} {N : Nat}  {x1 : Int32} {x2 : Int32} {x3 : Int32} {rv : Option Int32} {σ' : St} {σ : St} (hc : Cxz p s m meth c args cc own nL Z) (hw : Wd Z (cmb σ μ) s H locs) (hl : Cond.methodLink own idx y_X_attempt ∈ TB) (hf : fX_attempt N x1 x2 x3 σ = some (rv, σ')) (hR : RO R (80 + 1)) (hcs : cells + 1 ≤ R.cells ∧ slots + 6 ≤ R.slots) (hls : ls.size = nL) (hst : (rest.map fun v => v.category).sum ≤ 8) (hdg : decode cc pc = .ok (.invokevirtual idx, 3)) (kx : rv = none → ∀ (ce : Cell) (q : Addr) (H1 : Heap) (locs1 : List Loc), Wd Z (cmb σ' μ) s H1 locs1 → H1[q]? = some ce → ce.vm = .none → s.vm.findClass "java/lang/IllegalArgumentException" = some ce.cls → vx_W p l e R s m args below meth c H1 locs1 (cells + 1) (slots + 6) Q (F0 m pc ls rest) q) (kk : ∀ r1, rv = some r1 → ∀ (H1 : Heap) (locs1 : List Loc), Wd Z (cmb σ' μ) s H1 locs1 → W p l e R s m args below meth c H1 locs1 (cells + 1) (slots + 6) Q (F0 m (pc + 3) ls (.int r1 :: rest))) : W p l e R s m args below meth c H locs cells slots Q (F0 m pc ls (.int x3 :: .int x2 :: .int x1 :: .ref (Z.1 + 0) :: rest)) := by
  exact z_iv hc hw (c_X_attempt hst0 hf) yv_X_attempt (Nat.le_of_ble_eq_true rfl) rfl rfl hl (RO.call hR (by decide)) hcs rfl hls hst hdg rfl (fun hn => kx (by cases rv with | none => rfl | some _ => cases hn)) (fun v hv H1 locs1 hw1 => by cases rv with | none => cases hv | some r1 => cases hv; exact kk r1 rfl H1 locs1 hw1)
set_option maxRecDepth 10000 in
theorem w_X_tried {N : Nat} (hc : Cxz p s m meth c args prog_1_method_35_code "LabourExchange" 3 Z) (hr : meth.sig.returnType = (some .int)) (hR : RO R 7) (hnt : ∀ x ∈ c.exceptionTable.toList, False) (hst : l.stackTraces = false) (hRc : 3 ≤ R.cells ∧ 18 ≤ R.slots) {rv : Option Int32} {σ : St} : ∀ {x1 : Int32} {x2 : Int32} {H : Heap} {locs : List Loc} {ls : Array Slot} {cells slots : Nat}, cells ≤ 0 ∧ slots ≤ 0 → Wd Z (cmb σ μ) s H locs → lv_has ls 3 [(0, .ref (Z.1 + 0)), (1, .int x1), (2, .int x2)] → fX_tried N x1 x2 σ = some rv → W p l e R s m args below meth c H locs cells slots (vx_MQ below (Qz Z (rv.map (fun x => (some (.int x) : Option Value))) (cmb σ μ)) (Xz Z "java/util/NoSuchElementException" (rv.map (fun x => (some (.int x) : Option Value))) (cmb σ μ)) args s 3 18 (fun q => Z.1 ≤ q)) (F0 m 0 ls []) := by
  have hx := hc.hx
  have hb := hc.hb
  intro x1 x2 H locs ls cells slots hcs hw hl hf
  unfold fX_tried at hf
  refine lv_iload_n hx hb (dq tk_X_tried 0 rfl) rfl (lv_at hl 1 rfl) ?_
  refine lv_bipush (v := 9) hx hb (dq tk_X_tried 1 rfl) (by decide) ?_
  obtain ⟨q2, h2, hq2⟩ := btO_some hf
  refine KZ_X_requireElement hst hc hw wd_1032 h2 (hR.mono (by decide)) ⟨by omega, by omega⟩ hl.1 (Nat.le_of_ble_eq_true rfl) (dq tk_X_tried 2 rfl) (fun hn ce q H locs hw hce hcv hcl => ?_) (fun u2 hr2 H locs hw => ?_)
  · rcases hq2 with ⟨-, hf⟩ | ⟨r, hrq, -⟩
    · cases hf
      exact z_out (v := none) hc hw hnt rfl hce hcv hcl (by omega) (by omega)
    · rw [hn] at hrq
      cases hrq
  · rcases hq2 with ⟨hn, -⟩ | ⟨r, hrq, hf⟩
    · rw [hn] at hr2
      cases hr2
    rw [hrq] at hr2
    obtain rfl : u2 = r := (Option.some.inj hr2).symm
    refine lv_iload_n hx hb (dq tk_X_tried 3 rfl) rfl (lv_at hl 2 rfl) ?_
    refine lv_iconst (v := 3) hx hb (dq tk_X_tried 4 rfl) (by decide) ?_
    obtain ⟨q5, h5, hq5⟩ := btO_some hf
    refine KZ_X_requireElement hst hc hw wd_1032 h5 (hR.mono (by decide)) ⟨by omega, by omega⟩ hl.1 (Nat.le_of_ble_eq_true rfl) (dq tk_X_tried 5 rfl) (fun hn ce q H locs hw hce hcv hcl => ?_) (fun u5 hr5 H locs hw => ?_)
    · rcases hq5 with ⟨-, hf⟩ | ⟨r, hrq, -⟩
      · cases hf
        exact z_out (v := none) hc hw hnt rfl hce hcv hcl (by omega) (by omega)
      · rw [hn] at hrq
        cases hrq
    · rcases hq5 with ⟨hn, -⟩ | ⟨r, hrq, hf⟩
      · rw [hn] at hr5
        cases hr5
      rw [hrq] at hr5
      obtain rfl : u5 = r := (Option.some.inj hr5).symm
      refine lv_aload_n hx hb (dq tk_X_tried 6 rfl) rfl (lv_at hl 0 rfl) ?_
      refine G_X_wasTried hc hw wd_663 (dq tk_X_tried 7 rfl) ?_
      refine lv_if_ne (tgt := 26) hx hb (dq tk_X_tried 8 rfl) (by decide) (fun c1 => ?_) (fun c1 => ?_)
      · replace hf := if_f hf c1
        refine lv_aload_n hx hb (dq tk_X_tried 13 rfl) rfl (lv_at hl 0 rfl) ?_
        refine G_X_more hc hw wd_661 (dq tk_X_tried 14 rfl) ?_
        refine lv_iload_n hx hb (dq tk_X_tried 15 rfl) rfl (lv_at hl 1 rfl) ?_
        refine lv_iconst (v := 3) hx hb (dq tk_X_tried 16 rfl) (by decide) ?_
        refine lv_imul hx hb (dq tk_X_tried 17 rfl) ?_
        refine lv_iload_n hx hb (dq tk_X_tried 18 rfl) rfl (lv_at hl 2 rfl) ?_
        refine lv_iadd hx hb (dq tk_X_tried 19 rfl) ?_
        obtain ⟨c2, hf⟩ := chk_some hf
        refine AL_X_more hc hw c2 (dq tk_X_tried 20 rfl) ?_
        cases hf
        exact z_end (by omega) (by omega) (x_iret hc hw hr (dq tk_X_tried 21 rfl))
      · replace hf := if_t hf c1
        cases hf
        exact z_throwN hc hw hnt hst hl.1 (dq tk_X_tried 9 rfl) (dq tk_X_tried 10 rfl) (dq tk_X_tried 11 rfl) (dq tk_X_tried 12 rfl) (hR.mono (by decide)) (by omega) (by omega) (by omega) (by omega)
theorem c_X_tried (hst : l.stackTraces = false) {N : Nat}  {x1 : Int32} {x2 : Int32} {rv : Option Int32} {σ : St} (hf : fX_tried N x1 x2 σ = some rv) : Cz l Z y_X_tried prog_1_method_35_code 3 (some .int) { frames := 7, cells := 3, slots := 18, locals := 60 * 7 } "java/util/NoSuchElementException" [.ref (Z.1 + 0), .int x1, .int x2] (cmb σ μ) (rv.map (fun x => (some (.int x) : Option Value))) (cmb σ μ) := by
  refine z_met (by decide) (Nat.le_of_ble_eq_true rfl) (fun p e s m args below meth c ls hc hnt hr hw hl => ?_)
  exact w_X_tried hc hr ⟨Nat.le_refl _, Nat.le_refl _⟩ hnt hst ⟨Nat.le_refl _, Nat.le_refl _⟩ ⟨Nat.zero_le _, Nat.zero_le _⟩ hw hl hf
theorem KZ_X_tried (hst0 : l.stackTraces = false) {idx : Nat} {N : Nat}  {x1 : Int32} {x2 : Int32} {rv : Option Int32} {σ : St} (hc : Cxz p s m meth c args cc own nL Z) (hw : Wd Z (cmb σ μ) s H locs) (hl : Cond.methodLink own idx y_X_tried ∈ TB) (hf : fX_tried N x1 x2 σ = some rv) (hR : RO R (7 + 1)) (hcs : cells + 3 ≤ R.cells ∧ slots + 18 ≤ R.slots) (hls : ls.size = nL) (hst : (rest.map fun v => v.category).sum ≤ 8) (hdg : decode cc pc = .ok (.invokevirtual idx, 3)) (kx : rv = none → ∀ (ce : Cell) (q : Addr) (H1 : Heap) (locs1 : List Loc), Wd Z (cmb σ μ) s H1 locs1 → H1[q]? = some ce → ce.vm = .none → s.vm.findClass "java/util/NoSuchElementException" = some ce.cls → vx_W p l e R s m args below meth c H1 locs1 (cells + 3) (slots + 18) Q (F0 m pc ls rest) q) (kk : ∀ r1, rv = some r1 → ∀ (H1 : Heap) (locs1 : List Loc), Wd Z (cmb σ μ) s H1 locs1 → W p l e R s m args below meth c H1 locs1 (cells + 3) (slots + 18) Q (F0 m (pc + 3) ls (.int r1 :: rest))) : W p l e R s m args below meth c H locs cells slots Q (F0 m pc ls (.int x2 :: .int x1 :: .ref (Z.1 + 0) :: rest)) := by
  exact z_iv hc hw (c_X_tried hst0 hf) yv_X_tried (Nat.le_of_ble_eq_true rfl) rfl rfl hl (RO.call hR (by decide)) hcs rfl hls hst hdg rfl (fun hn => kx (by cases rv with | none => rfl | some _ => cases hn)) (fun v hv H1 locs1 hw1 => by cases rv with | none => cases hv | some r1 => cases hv; exact kk r1 rfl H1 locs1 hw1)
set_option maxRecDepth 10000 in
theorem w_X_count {N : Nat} (hc : Cxz p s m meth c args prog_1_method_36_code "LabourExchange" 2 Z) (hr : meth.sig.returnType = (some .int)) (hR : RO R 6) (hnt : ∀ x ∈ c.exceptionTable.toList, False) (hst : l.stackTraces = false) (hRc : 1 ≤ R.cells ∧ 6 ≤ R.slots) {rv : Option Int32} {σ : St} : ∀ {x1 : Int32} {H : Heap} {locs : List Loc} {ls : Array Slot} {cells slots : Nat}, cells ≤ 0 ∧ slots ≤ 0 → Wd Z (cmb σ μ) s H locs → lv_has ls 2 [(0, .ref (Z.1 + 0)), (1, .int x1)] → fX_count N x1 σ = some rv → W p l e R s m args below meth c H locs cells slots (vx_MQ below (Qz Z (rv.map (fun x => (some (.int x) : Option Value))) (cmb σ μ)) (Xz Z "java/util/NoSuchElementException" (rv.map (fun x => (some (.int x) : Option Value))) (cmb σ μ)) args s 1 6 (fun q => Z.1 ≤ q)) (F0 m 0 ls []) := by
  have hx := hc.hx
  have hb := hc.hb
  intro x1 H locs ls cells slots hcs hw hl hf
  unfold fX_count at hf
  refine lv_iload_n hx hb (dq tk_X_count 0 rfl) rfl (lv_at hl 1 rfl) ?_
  by_cases c1_0 : x1 = 0
  · replace hf := if_t hf c1_0
    refine lv_tableIn (tgt := 60) hx hb (dq tk_X_count 1 rfl) (by rw [c1_0]; decide) (by rw [c1_0]; decide) (by rw [c1_0]; first | done | rfl) (by decide) ?_
    refine lv_aload_n hx hb (dq tk_X_count 2 rfl) rfl (lv_at hl 0 rfl) ?_
    refine G_X_today hc hw wd_664 (dq tk_X_count 3 rfl) ?_
    cases hf
    exact z_end (by omega) (by omega) (x_iret hc hw hr (dq tk_X_count 4 rfl))
  replace hf := if_f hf c1_0
  by_cases c1_1 : x1 = 1
  · replace hf := if_t hf c1_1
    refine lv_tableIn (tgt := 65) hx hb (dq tk_X_count 1 rfl) (by rw [c1_1]; decide) (by rw [c1_1]; decide) (by rw [c1_1]; first | done | rfl) (by decide) ?_
    refine lv_aload_n hx hb (dq tk_X_count 5 rfl) rfl (lv_at hl 0 rfl) ?_
    refine G_X_land hc hw wd_652 (dq tk_X_count 6 rfl) ?_
    refine G_Land_offices hc hw wd_89 (dq tk_X_count 7 rfl) ?_
    cases hf
    exact z_end (by omega) (by omega) (x_iret hc hw hr (dq tk_X_count 8 rfl))
  replace hf := if_f hf c1_1
  by_cases c1_2 : x1 = 2
  · replace hf := if_t hf c1_2
    refine lv_tableIn (tgt := 73) hx hb (dq tk_X_count 1 rfl) (by rw [c1_2]; decide) (by rw [c1_2]; decide) (by rw [c1_2]; first | done | rfl) (by decide) ?_
    refine lv_aload_n hx hb (dq tk_X_count 9 rfl) rfl (lv_at hl 0 rfl) ?_
    refine G_X_land hc hw wd_652 (dq tk_X_count 10 rfl) ?_
    refine G_Land_people hc hw wd_103 (dq tk_X_count 11 rfl) ?_
    cases hf
    exact z_end (by omega) (by omega) (x_iret hc hw hr (dq tk_X_count 12 rfl))
  replace hf := if_f hf c1_2
  by_cases c1_3 : x1 = 3
  · replace hf := if_t hf c1_3
    refine lv_tableIn (tgt := 81) hx hb (dq tk_X_count 1 rfl) (by rw [c1_3]; decide) (by rw [c1_3]; decide) (by rw [c1_3]; first | done | rfl) (by decide) ?_
    refine lv_aload_n hx hb (dq tk_X_count 13 rfl) rfl (lv_at hl 0 rfl) ?_
    refine G_X_events hc hw wd_654 (dq tk_X_count 14 rfl) ?_
    refine G_Events_count hc hw wd_221 (dq tk_X_count 15 rfl) ?_
    cases hf
    exact z_end (by omega) (by omega) (x_iret hc hw hr (dq tk_X_count 16 rfl))
  replace hf := if_f hf c1_3
  by_cases c1_4 : x1 = 4
  · replace hf := if_t hf c1_4
    refine lv_tableIn (tgt := 89) hx hb (dq tk_X_count 1 rfl) (by rw [c1_4]; decide) (by rw [c1_4]; decide) (by rw [c1_4]; first | done | rfl) (by decide) ?_
    refine lv_aload_n hx hb (dq tk_X_count 17 rfl) rfl (lv_at hl 0 rfl) ?_
    refine G_X_texts hc hw wd_662 (dq tk_X_count 18 rfl) ?_
    cases hf
    exact z_end (by omega) (by omega) (x_iret hc hw hr (dq tk_X_count 19 rfl))
  replace hf := if_f hf c1_4
  by_cases c1_5 : x1 = 5
  · replace hf := if_t hf c1_5
    refine lv_tableIn (tgt := 94) hx hb (dq tk_X_count 1 rfl) (by rw [c1_5]; decide) (by rw [c1_5]; decide) (by rw [c1_5]; first | done | rfl) (by decide) ?_
    refine lv_aload_n hx hb (dq tk_X_count 20 rfl) rfl (lv_at hl 0 rfl) ?_
    refine G_X_market hc hw wd_656 (dq tk_X_count 21 rfl) ?_
    refine G_Market_vacancies hc hw wd_255 (dq tk_X_count 22 rfl) ?_
    cases hf
    exact z_end (by omega) (by omega) (x_iret hc hw hr (dq tk_X_count 23 rfl))
  replace hf := if_f hf c1_5
  by_cases c1_6 : x1 = 6
  · replace hf := if_t hf c1_6
    refine lv_tableIn (tgt := 102) hx hb (dq tk_X_count 1 rfl) (by rw [c1_6]; decide) (by rw [c1_6]; decide) (by rw [c1_6]; first | done | rfl) (by decide) ?_
    refine lv_aload_n hx hb (dq tk_X_count 24 rfl) rfl (lv_at hl 0 rfl) ?_
    refine G_X_market hc hw wd_656 (dq tk_X_count 25 rfl) ?_
    obtain ⟨r1, h26, hf⟩ := bn1_someZ hf
    refine K_Market_openVacancies hc hw wd_1601 h26 (hR.mono (by decide)) ⟨by omega, by omega⟩ hl.1 (Nat.le_of_ble_eq_true rfl) (dq tk_X_count 26 rfl) (fun H locs hw _ => ?_)
    cases hf
    exact z_end (by omega) (by omega) (x_iret hc hw hr (dq tk_X_count 27 rfl))
  replace hf := if_f hf c1_6
  by_cases c1_7 : x1 = 7
  · replace hf := if_t hf c1_7
    refine lv_tableIn (tgt := 110) hx hb (dq tk_X_count 1 rfl) (by rw [c1_7]; decide) (by rw [c1_7]; decide) (by rw [c1_7]; first | done | rfl) (by decide) ?_
    refine lv_aload_n hx hb (dq tk_X_count 28 rfl) rfl (lv_at hl 0 rfl) ?_
    refine G_X_market hc hw wd_656 (dq tk_X_count 29 rfl) ?_
    refine G_Market_offers hc hw wd_266 (dq tk_X_count 30 rfl) ?_
    cases hf
    exact z_end (by omega) (by omega) (x_iret hc hw hr (dq tk_X_count 31 rfl))
  replace hf := if_f hf c1_7
  by_cases c1_8 : x1 = 8
  · replace hf := if_t hf c1_8
    refine lv_tableIn (tgt := 118) hx hb (dq tk_X_count 1 rfl) (by rw [c1_8]; decide) (by rw [c1_8]; decide) (by rw [c1_8]; first | done | rfl) (by decide) ?_
    refine lv_aload_n hx hb (dq tk_X_count 32 rfl) rfl (lv_at hl 0 rfl) ?_
    refine G_X_courts hc hw wd_658 (dq tk_X_count 33 rfl) ?_
    refine G_Courts_cases hc hw wd_388 (dq tk_X_count 34 rfl) ?_
    cases hf
    exact z_end (by omega) (by omega) (x_iret hc hw hr (dq tk_X_count 35 rfl))
  replace hf := if_f hf c1_8
  by_cases c1_9 : x1 = 9
  · replace hf := if_t hf c1_9
    refine lv_tableIn (tgt := 126) hx hb (dq tk_X_count 1 rfl) (by rw [c1_9]; decide) (by rw [c1_9]; decide) (by rw [c1_9]; first | done | rfl) (by decide) ?_
    refine lv_aload_n hx hb (dq tk_X_count 36 rfl) rfl (lv_at hl 0 rfl) ?_
    refine G_X_courts hc hw wd_658 (dq tk_X_count 37 rfl) ?_
    refine G_Courts_judges hc hw wd_375 (dq tk_X_count 38 rfl) ?_
    cases hf
    exact z_end (by omega) (by omega) (x_iret hc hw hr (dq tk_X_count 39 rfl))
  replace hf := if_f hf c1_9
  by_cases c1_10 : x1 = 10
  · replace hf := if_t hf c1_10
    refine lv_tableIn (tgt := 134) hx hb (dq tk_X_count 1 rfl) (by rw [c1_10]; decide) (by rw [c1_10]; decide) (by rw [c1_10]; first | done | rfl) (by decide) ?_
    refine lv_aload_n hx hb (dq tk_X_count 40 rfl) rfl (lv_at hl 0 rfl) ?_
    refine G_X_reader hc hw wd_651 (dq tk_X_count 41 rfl) ?_
    refine G_Reader_size hc hw wd_43 (dq tk_X_count 42 rfl) ?_
    cases hf
    exact z_end (by omega) (by omega) (x_iret hc hw hr (dq tk_X_count 43 rfl))
  replace hf := if_f hf c1_10
  refine lv_tableOut (tgt := 142) hx hb (dq tk_X_count 1 rfl) (sw_out (fun k h1 h2 => by
    have h3 : k = 0 ∨ k = 1 ∨ k = 2 ∨ k = 3 ∨ k = 4 ∨ k = 5 ∨ k = 6 ∨ k = 7 ∨ k = 8 ∨ k = 9 ∨ k = 10 := by omega
    rcases h3 with rfl | rfl | rfl | rfl | rfl | rfl | rfl | rfl | rfl | rfl | rfl
    · exact c1_0
    · exact c1_1
    · exact c1_2
    · exact c1_3
    · exact c1_4
    · exact c1_5
    · exact c1_6
    · exact c1_7
    · exact c1_8
    · exact c1_9
    · exact c1_10
    )) (by decide) ?_
  cases hf
  exact z_throwN hc hw hnt hst hl.1 (dq tk_X_count 44 rfl) (dq tk_X_count 45 rfl) (dq tk_X_count 46 rfl) (dq tk_X_count 47 rfl) (hR.mono (by decide)) (by omega) (by omega) (by omega) (by omega)
theorem c_X_count (hst : l.stackTraces = false) {N : Nat}  {x1 : Int32} {rv : Option Int32} {σ : St} (hf : fX_count N x1 σ = some rv) : Cz l Z y_X_count prog_1_method_36_code 2 (some .int) { frames := 6, cells := 1, slots := 6, locals := 60 * 6 } "java/util/NoSuchElementException" [.ref (Z.1 + 0), .int x1] (cmb σ μ) (rv.map (fun x => (some (.int x) : Option Value))) (cmb σ μ) := by
  refine z_met (by decide) (Nat.le_of_ble_eq_true rfl) (fun p e s m args below meth c ls hc hnt hr hw hl => ?_)
  exact w_X_count hc hr ⟨Nat.le_refl _, Nat.le_refl _⟩ hnt hst ⟨Nat.le_refl _, Nat.le_refl _⟩ ⟨Nat.zero_le _, Nat.zero_le _⟩ hw hl hf
theorem KZ_X_count (hst0 : l.stackTraces = false) {idx : Nat} {N : Nat}  {x1 : Int32} {rv : Option Int32} {σ : St} (hc : Cxz p s m meth c args cc own nL Z) (hw : Wd Z (cmb σ μ) s H locs) (hl : Cond.methodLink own idx y_X_count ∈ TB) (hf : fX_count N x1 σ = some rv) (hR : RO R (6 + 1)) (hcs : cells + 1 ≤ R.cells ∧ slots + 6 ≤ R.slots) (hls : ls.size = nL) (hst : (rest.map fun v => v.category).sum ≤ 8) (hdg : decode cc pc = .ok (.invokevirtual idx, 3)) (kx : rv = none → ∀ (ce : Cell) (q : Addr) (H1 : Heap) (locs1 : List Loc), Wd Z (cmb σ μ) s H1 locs1 → H1[q]? = some ce → ce.vm = .none → s.vm.findClass "java/util/NoSuchElementException" = some ce.cls → vx_W p l e R s m args below meth c H1 locs1 (cells + 1) (slots + 6) Q (F0 m pc ls rest) q) (kk : ∀ r1, rv = some r1 → ∀ (H1 : Heap) (locs1 : List Loc), Wd Z (cmb σ μ) s H1 locs1 → W p l e R s m args below meth c H1 locs1 (cells + 1) (slots + 6) Q (F0 m (pc + 3) ls (.int r1 :: rest))) : W p l e R s m args below meth c H locs cells slots Q (F0 m pc ls (.int x1 :: .ref (Z.1 + 0) :: rest)) := by
  exact z_iv hc hw (c_X_count hst0 hf) yv_X_count (Nat.le_of_ble_eq_true rfl) rfl rfl hl (RO.call hR (by decide)) hcs rfl hls hst hdg rfl (fun hn => kx (by cases rv with | none => rfl | some _ => cases hn)) (fun v hv H1 locs1 hw1 => by cases rv with | none => cases hv | some r1 => cases hv; exact kk r1 rfl H1 locs1 hw1)
set_option maxRecDepth 10000 in
theorem w_X_office {N : Nat} (hc : Cxz p s m meth c args prog_1_method_2_code "LabourExchange" 3 Z) (hr : meth.sig.returnType = (some .int)) (hR : RO R 1) {rv : Int32} {σ' : St} : ∀ {x1 : Int32} {x2 : Int32} {σ : St} {H : Heap} {locs : List Loc} {ls : Array Slot}, Wd Z (cmb σ μ) s H locs → lv_has ls 3 [(0, .ref (Z.1 + 0)), (1, .int x1), (2, .int x2)] → fX_office N x1 x2 σ = some (rv, σ') → W p l e R s m args below meth c H locs 0 0 (MQ below (Qr Z (some (.int rv)) True (cmb σ' μ)) args s 0 0 (fun q => Z.1 ≤ q)) (F0 m 0 ls []) := by
  have hx := hc.hx
  have hb := hc.hb
  intro x1 x2 σ H locs ls hw hl hf
  unfold fX_office at hf
  refine lv_aload_n hx hb (dq tk_X_office 0 rfl) rfl (lv_at hl 0 rfl) ?_
  refine G_X_land hc hw wd_652 (dq tk_X_office 1 rfl) ?_
  refine G_Land_offices hc hw wd_89 (dq tk_X_office 2 rfl) ?_
  refine lv_bipush (v := 8) hx hb (dq tk_X_office 3 rfl) (by decide) ?_
  refine lv_icmp_ge (tgt := 32) hx hb (dq tk_X_office 4 rfl) (by decide) (fun c1 => ?_) (fun c1 => ?_)
  · replace hf := if_t hf c1
    refine lv_iconst (v := (-1)) hx hb (dq tk_X_office 15 rfl) (by decide) ?_
    cases hf
    exact x_iret hc hw hr (dq tk_X_office 16 rfl)
  · replace hf := if_f hf c1
    refine lv_iload_n hx hb (dq tk_X_office 5 rfl) rfl (lv_at hl 1 rfl) ?_
    refine lv_iconst (v := 0) hx hb (dq tk_X_office 6 rfl) (by decide) ?_
    refine lv_bipush (v := 99) hx hb (dq tk_X_office 7 rfl) (by decide) ?_
    obtain ⟨r1, h8, hf⟩ := bn1_someZ hf
    refine K_X_outside hc hw wd_701 h8 (hR.mono (by decide)) ⟨Nat.zero_le _, Nat.zero_le _⟩ hl.1 (Nat.le_of_ble_eq_true rfl) (dq tk_X_office 8 rfl) (fun H locs hw _ => ?_)
    refine lv_if_ne (tgt := 32) hx hb (dq tk_X_office 9 rfl) (by decide) (fun c2 => ?_) (fun c2 => ?_)
    · replace hf := if_f hf c2
      refine lv_iconst (v := (-1)) hx hb (dq tk_X_office 15 rfl) (by decide) ?_
      cases hf
      exact x_iret hc hw hr (dq tk_X_office 16 rfl)
    · replace hf := if_t hf c2
      refine lv_iload_n hx hb (dq tk_X_office 10 rfl) rfl (lv_at hl 2 rfl) ?_
      refine lv_iconst (v := 0) hx hb (dq tk_X_office 11 rfl) (by decide) ?_
      refine lv_bipush (v := 99) hx hb (dq tk_X_office 12 rfl) (by decide) ?_
      obtain ⟨r2, h13, hf⟩ := bn1_someZ hf
      refine K_X_outside hc hw wd_701 h13 (hR.mono (by decide)) ⟨Nat.zero_le _, Nat.zero_le _⟩ hl.1 (Nat.le_of_ble_eq_true rfl) (dq tk_X_office 13 rfl) (fun H locs hw _ => ?_)
      refine lv_if_eq (tgt := 34) hx hb (dq tk_X_office 14 rfl) (by decide) (fun c3 => ?_) (fun c3 => ?_)
      · replace hf := if_t hf c3
        refine lv_aload_n hx hb (dq tk_X_office 17 rfl) rfl (lv_at hl 0 rfl) ?_
        refine G_X_land hc hw wd_652 (dq tk_X_office 18 rfl) ?_
        refine lv_iload_n hx hb (dq tk_X_office 19 rfl) rfl (lv_at hl 1 rfl) ?_
        refine lv_iload_n hx hb (dq tk_X_office 20 rfl) rfl (lv_at hl 2 rfl) ?_
        obtain ⟨r3, σ4, h21, hf⟩ := bnd_some hf
        refine K_Land_addOffice hc hw wd_704 h21 (hR.mono (by decide)) ⟨Nat.zero_le _, Nat.zero_le _⟩ hl.1 (Nat.le_of_ble_eq_true rfl) (dq tk_X_office 21 rfl) (fun H locs hw _ => ?_)
        cases hf
        exact x_iret hc hw hr (dq tk_X_office 22 rfl)
      · replace hf := if_f hf c3
        refine lv_iconst (v := (-1)) hx hb (dq tk_X_office 15 rfl) (by decide) ?_
        cases hf
        exact x_iret hc hw hr (dq tk_X_office 16 rfl)
theorem c_X_office {N : Nat}  {x1 : Int32} {x2 : Int32} {rv : Int32} {σ' : St} {σ : St} (hf : fX_office N x1 x2 σ = some (rv, σ')) : Ct l Z y_X_office prog_1_method_2_code 3 (some .int) (rmo (1)) [.ref (Z.1 + 0), .int x1, .int x2] (cmb σ μ) (some (.int rv)) True (cmb σ' μ) := by
  refine x_met (by decide) (Nat.le_of_ble_eq_true rfl) (fun p e s m args below meth c ls hc hr hw hl => ?_)
  exact w_X_office hc hr RO.self hw hl hf
theorem K_X_office {idx : Nat} {N : Nat}  {x1 : Int32} {x2 : Int32} {rv : Int32} {σ' : St} {σ : St} (hc : Cxz p s m meth c args cc own nL Z) (hw : Wd Z (cmb σ μ) s H locs) (hl : Cond.methodLink own idx y_X_office ∈ TB) (hf : fX_office N x1 x2 σ = some (rv, σ')) (hR : RO R ((1) + 1)) (hcs : cells ≤ R.cells ∧ slots ≤ R.slots) (hls : ls.size = nL) (hst : (rest.map fun v => v.category).sum ≤ 8) (hdg : decode cc pc = .ok (.invokevirtual idx, 3)) (kk : ∀ (H1 : Heap) (locs1 : List Loc), Wd Z (cmb σ' μ) s H1 locs1 → True → W p l e R s m args below meth c H1 locs1 cells slots Q (F0 m (pc + 3) ls (.int rv :: rest))) : W p l e R s m args below meth c H locs cells slots Q (F0 m pc ls (.int x2 :: .int x1 :: .ref (Z.1 + 0) :: rest)) :=
  x_iv hc hw (c_X_office hf) yv_X_office (Nat.le_of_ble_eq_true rfl) rfl rfl hl (RO.call hR (by decide)) hcs rfl hls hst hdg rfl kk
set_option maxRecDepth 10000 in
theorem w_X_person {N : Nat} (hc : Cxz p s m meth c args prog_1_method_3_code "LabourExchange" 6 Z) (hr : meth.sig.returnType = (some .int)) (hR : RO R 1) {rv : Int32} {σ' : St} : ∀ {x1 : Int32} {x2 : Int32} {x3 : Int32} {x4 : Int32} {x5 : Int32} {σ : St} {H : Heap} {locs : List Loc} {ls : Array Slot}, Wd Z (cmb σ μ) s H locs → lv_has ls 6 [(0, .ref (Z.1 + 0)), (1, .int x1), (2, .int x2), (3, .int x3), (4, .int x4), (5, .int x5)] → fX_person N x1 x2 x3 x4 x5 σ = some (rv, σ') → W p l e R s m args below meth c H locs 0 0 (MQ below (Qr Z (some (.int rv)) True (cmb σ' μ)) args s 0 0 (fun q => Z.1 ≤ q)) (F0 m 0 ls []) := by
  have hx := hc.hx
  have hb := hc.hb
  intro x1 x2 x3 x4 x5 σ H locs ls hw hl hf
  unfold fX_person at hf
  refine lv_aload_n hx hb (dq tk_X_person 0 rfl) rfl (lv_at hl 0 rfl) ?_
  refine G_X_land hc hw wd_652 (dq tk_X_person 1 rfl) ?_
  refine G_Land_people hc hw wd_103 (dq tk_X_person 2 rfl) ?_
  refine lv_bipush (v := 20) hx hb (dq tk_X_person 3 rfl) (by decide) ?_
  refine lv_icmp_ge (tgt := 33) hx hb (dq tk_X_person 4 rfl) (by decide) (fun c1 => ?_) (fun c1 => ?_)
  · replace hf := if_t hf c1
    refine lv_iconst (v := (-1)) hx hb (dq tk_X_person 15 rfl) (by decide) ?_
    cases hf
    exact x_iret hc hw hr (dq tk_X_person 16 rfl)
  · replace hf := if_f hf c1
    refine lv_iload_n hx hb (dq tk_X_person 5 rfl) rfl (lv_at hl 1 rfl) ?_
    refine lv_iconst (v := 0) hx hb (dq tk_X_person 6 rfl) (by decide) ?_
    refine lv_bipush (v := 7) hx hb (dq tk_X_person 7 rfl) (by decide) ?_
    obtain ⟨r1, h8, hf⟩ := bn1_someZ hf
    refine K_X_outside hc hw wd_701 h8 (hR.mono (by decide)) ⟨Nat.zero_le _, Nat.zero_le _⟩ hl.1 (Nat.le_of_ble_eq_true rfl) (dq tk_X_person 8 rfl) (fun H locs hw _ => ?_)
    refine lv_if_ne (tgt := 33) hx hb (dq tk_X_person 9 rfl) (by decide) (fun c2 => ?_) (fun c2 => ?_)
    · replace hf := if_f hf c2
      refine lv_iconst (v := (-1)) hx hb (dq tk_X_person 15 rfl) (by decide) ?_
      cases hf
      exact x_iret hc hw hr (dq tk_X_person 16 rfl)
    · replace hf := if_t hf c2
      refine lv_iload_n hx hb (dq tk_X_person 10 rfl) rfl (lv_at hl 2 rfl) ?_
      refine lv_bipush (v := 14) hx hb (dq tk_X_person 11 rfl) (by decide) ?_
      refine lv_bipush (v := 90) hx hb (dq tk_X_person 12 rfl) (by decide) ?_
      obtain ⟨r2, h13, hf⟩ := bn1_someZ hf
      refine K_X_outside hc hw wd_701 h13 (hR.mono (by decide)) ⟨Nat.zero_le _, Nat.zero_le _⟩ hl.1 (Nat.le_of_ble_eq_true rfl) (dq tk_X_person 13 rfl) (fun H locs hw _ => ?_)
      refine lv_if_eq (tgt := 35) hx hb (dq tk_X_person 14 rfl) (by decide) (fun c3 => ?_) (fun c3 => ?_)
      · replace hf := if_t hf c3
        refine lv_iload_n hx hb (dq tk_X_person 17 rfl) rfl (lv_at hl 3 rfl) ?_
        refine lv_iconst (v := 0) hx hb (dq tk_X_person 18 rfl) (by decide) ?_
        refine lv_aload_n hx hb (dq tk_X_person 19 rfl) rfl (lv_at hl 0 rfl) ?_
        refine G_X_land hc hw wd_652 (dq tk_X_person 20 rfl) ?_
        refine G_Land_offices hc hw wd_89 (dq tk_X_person 21 rfl) ?_
        refine lv_iconst (v := 1) hx hb (dq tk_X_person 22 rfl) (by decide) ?_
        refine lv_isub hx hb (dq tk_X_person 23 rfl) ?_
        obtain ⟨r3, h24, hf⟩ := bn1_someZ hf
        refine K_X_outside hc hw wd_701 h24 (hR.mono (by decide)) ⟨Nat.zero_le _, Nat.zero_le _⟩ hl.1 (Nat.le_of_ble_eq_true rfl) (dq tk_X_person 24 rfl) (fun H locs hw _ => ?_)
        refine lv_if_ne (tgt := 75) hx hb (dq tk_X_person 25 rfl) (by decide) (fun c4 => ?_) (fun c4 => ?_)
        · replace hf := if_f hf c4
          refine lv_iconst (v := (-1)) hx hb (dq tk_X_person 36 rfl) (by decide) ?_
          cases hf
          exact x_iret hc hw hr (dq tk_X_person 37 rfl)
        · replace hf := if_t hf c4
          refine lv_iload hx hb (dq tk_X_person 26 rfl) (lv_at hl 4 rfl) ?_
          refine lv_iconst (v := 1) hx hb (dq tk_X_person 27 rfl) (by decide) ?_
          refine lv_sipush (v := 999) hx hb (dq tk_X_person 28 rfl) (by decide) ?_
          obtain ⟨r4, h29, hf⟩ := bn1_someZ hf
          refine K_X_outside hc hw wd_701 h29 (hR.mono (by decide)) ⟨Nat.zero_le _, Nat.zero_le _⟩ hl.1 (Nat.le_of_ble_eq_true rfl) (dq tk_X_person 29 rfl) (fun H locs hw _ => ?_)
          refine lv_if_ne (tgt := 75) hx hb (dq tk_X_person 30 rfl) (by decide) (fun c5 => ?_) (fun c5 => ?_)
          · replace hf := if_f hf c5
            refine lv_iconst (v := (-1)) hx hb (dq tk_X_person 36 rfl) (by decide) ?_
            cases hf
            exact x_iret hc hw hr (dq tk_X_person 37 rfl)
          · replace hf := if_t hf c5
            refine lv_iload hx hb (dq tk_X_person 31 rfl) (lv_at hl 5 rfl) ?_
            refine lv_iconst (v := 0) hx hb (dq tk_X_person 32 rfl) (by decide) ?_
            refine lv_bipush (v := 99) hx hb (dq tk_X_person 33 rfl) (by decide) ?_
            obtain ⟨r5, h34, hf⟩ := bn1_someZ hf
            refine K_X_outside hc hw wd_701 h34 (hR.mono (by decide)) ⟨Nat.zero_le _, Nat.zero_le _⟩ hl.1 (Nat.le_of_ble_eq_true rfl) (dq tk_X_person 34 rfl) (fun H locs hw _ => ?_)
            refine lv_if_eq (tgt := 77) hx hb (dq tk_X_person 35 rfl) (by decide) (fun c6 => ?_) (fun c6 => ?_)
            · replace hf := if_t hf c6
              refine lv_aload_n hx hb (dq tk_X_person 38 rfl) rfl (lv_at hl 0 rfl) ?_
              refine G_X_land hc hw wd_652 (dq tk_X_person 39 rfl) ?_
              refine lv_iload_n hx hb (dq tk_X_person 40 rfl) rfl (lv_at hl 1 rfl) ?_
              refine lv_iload_n hx hb (dq tk_X_person 41 rfl) rfl (lv_at hl 2 rfl) ?_
              refine lv_iload_n hx hb (dq tk_X_person 42 rfl) rfl (lv_at hl 3 rfl) ?_
              refine lv_iload hx hb (dq tk_X_person 43 rfl) (lv_at hl 4 rfl) ?_
              refine lv_iload hx hb (dq tk_X_person 44 rfl) (lv_at hl 5 rfl) ?_
              obtain ⟨r6, σ7, h45, hf⟩ := bnd_some hf
              refine K_Land_addPerson hc hw wd_712 h45 (hR.mono (by decide)) ⟨Nat.zero_le _, Nat.zero_le _⟩ hl.1 (Nat.le_of_ble_eq_true rfl) (dq tk_X_person 45 rfl) (fun H locs hw _ => ?_)
              cases hf
              exact x_iret hc hw hr (dq tk_X_person 46 rfl)
            · replace hf := if_f hf c6
              refine lv_iconst (v := (-1)) hx hb (dq tk_X_person 36 rfl) (by decide) ?_
              cases hf
              exact x_iret hc hw hr (dq tk_X_person 37 rfl)
      · replace hf := if_f hf c3
        refine lv_iconst (v := (-1)) hx hb (dq tk_X_person 15 rfl) (by decide) ?_
        cases hf
        exact x_iret hc hw hr (dq tk_X_person 16 rfl)
theorem c_X_person {N : Nat}  {x1 : Int32} {x2 : Int32} {x3 : Int32} {x4 : Int32} {x5 : Int32} {rv : Int32} {σ' : St} {σ : St} (hf : fX_person N x1 x2 x3 x4 x5 σ = some (rv, σ')) : Ct l Z y_X_person prog_1_method_3_code 6 (some .int) (rmo (1)) [.ref (Z.1 + 0), .int x1, .int x2, .int x3, .int x4, .int x5] (cmb σ μ) (some (.int rv)) True (cmb σ' μ) := by
  refine x_met (by decide) (Nat.le_of_ble_eq_true rfl) (fun p e s m args below meth c ls hc hr hw hl => ?_)
  exact w_X_person hc hr RO.self hw hl hf
theorem K_X_person {idx : Nat} {N : Nat}  {x1 : Int32} {x2 : Int32} {x3 : Int32} {x4 : Int32} {x5 : Int32} {rv : Int32} {σ' : St} {σ : St} (hc : Cxz p s m meth c args cc own nL Z) (hw : Wd Z (cmb σ μ) s H locs) (hl : Cond.methodLink own idx y_X_person ∈ TB) (hf : fX_person N x1 x2 x3 x4 x5 σ = some (rv, σ')) (hR : RO R ((1) + 1)) (hcs : cells ≤ R.cells ∧ slots ≤ R.slots) (hls : ls.size = nL) (hst : (rest.map fun v => v.category).sum ≤ 8) (hdg : decode cc pc = .ok (.invokevirtual idx, 3)) (kk : ∀ (H1 : Heap) (locs1 : List Loc), Wd Z (cmb σ' μ) s H1 locs1 → True → W p l e R s m args below meth c H1 locs1 cells slots Q (F0 m (pc + 3) ls (.int rv :: rest))) : W p l e R s m args below meth c H locs cells slots Q (F0 m pc ls (.int x5 :: .int x4 :: .int x3 :: .int x2 :: .int x1 :: .ref (Z.1 + 0) :: rest)) :=
  x_iv hc hw (c_X_person hf) yv_X_person (Nat.le_of_ble_eq_true rfl) rfl rfl hl (RO.call hR (by decide)) hcs rfl hls hst hdg rfl kk
set_option maxRecDepth 10000 in
theorem w_X_feed {N : Nat} (hc : Cxz p s m meth c args prog_1_method_4_code "LabourExchange" 6 Z) (hr : meth.sig.returnType = (some .int)) (hR : RO R 1) {rv : Int32} {σ' : St} : ∀ {x1 : Int32} {x2 : Int32} {x3 : Int32} {x4 : Int32} {x5 : Int32} {σ : St} {H : Heap} {locs : List Loc} {ls : Array Slot}, Wd Z (cmb σ μ) s H locs → lv_has ls 6 [(0, .ref (Z.1 + 0)), (1, .int x1), (2, .int x2), (3, .int x3), (4, .int x4), (5, .int x5)] → fX_feed N x1 x2 x3 x4 x5 σ = some (rv, σ') → W p l e R s m args below meth c H locs 0 0 (MQ below (Qr Z (some (.int rv)) True (cmb σ' μ)) args s 0 0 (fun q => Z.1 ≤ q)) (F0 m 0 ls []) := by
  have hx := hc.hx
  have hb := hc.hb
  intro x1 x2 x3 x4 x5 σ H locs ls hw hl hf
  unfold fX_feed at hf
  refine lv_aload_n hx hb (dq tk_X_feed 0 rfl) rfl (lv_at hl 0 rfl) ?_
  refine G_X_reader hc hw wd_651 (dq tk_X_feed 1 rfl) ?_
  refine G_Reader_size hc hw wd_43 (dq tk_X_feed 2 rfl) ?_
  refine lv_sipush (v := 580) hx hb (dq tk_X_feed 3 rfl) (by decide) ?_
  refine lv_icmp_le (tgt := 15) hx hb (dq tk_X_feed 4 rfl) (by decide) (fun c1 => ?_) (fun c1 => ?_)
  · replace hf := if_t hf c1
    refine lv_aload_n hx hb (dq tk_X_feed 7 rfl) rfl (lv_at hl 0 rfl) ?_
    refine G_X_reader hc hw wd_651 (dq tk_X_feed 8 rfl) ?_
    refine lv_iload_n hx hb (dq tk_X_feed 9 rfl) rfl (lv_at hl 1 rfl) ?_
    obtain ⟨σ1, h10, hf⟩ := bn1_someZ hf
    refine K_Reader_append hc hw wd_720 h10 (hR.mono (by decide)) ⟨Nat.zero_le _, Nat.zero_le _⟩ hl.1 (Nat.le_of_ble_eq_true rfl) (dq tk_X_feed 10 rfl) (fun H locs hw _ => ?_)
    refine lv_aload_n hx hb (dq tk_X_feed 11 rfl) rfl (lv_at hl 0 rfl) ?_
    refine G_X_reader hc hw wd_651 (dq tk_X_feed 12 rfl) ?_
    refine lv_iload_n hx hb (dq tk_X_feed 13 rfl) rfl (lv_at hl 2 rfl) ?_
    obtain ⟨σ2, h14, hf⟩ := bn1_someZ hf
    refine K_Reader_append hc hw wd_720 h14 (hR.mono (by decide)) ⟨Nat.zero_le _, Nat.zero_le _⟩ hl.1 (Nat.le_of_ble_eq_true rfl) (dq tk_X_feed 14 rfl) (fun H locs hw _ => ?_)
    refine lv_aload_n hx hb (dq tk_X_feed 15 rfl) rfl (lv_at hl 0 rfl) ?_
    refine G_X_reader hc hw wd_651 (dq tk_X_feed 16 rfl) ?_
    refine lv_iload_n hx hb (dq tk_X_feed 17 rfl) rfl (lv_at hl 3 rfl) ?_
    obtain ⟨σ3, h18, hf⟩ := bn1_someZ hf
    refine K_Reader_append hc hw wd_720 h18 (hR.mono (by decide)) ⟨Nat.zero_le _, Nat.zero_le _⟩ hl.1 (Nat.le_of_ble_eq_true rfl) (dq tk_X_feed 18 rfl) (fun H locs hw _ => ?_)
    refine lv_aload_n hx hb (dq tk_X_feed 19 rfl) rfl (lv_at hl 0 rfl) ?_
    refine G_X_reader hc hw wd_651 (dq tk_X_feed 20 rfl) ?_
    refine lv_iload hx hb (dq tk_X_feed 21 rfl) (lv_at hl 4 rfl) ?_
    obtain ⟨σ4, h22, hf⟩ := bn1_someZ hf
    refine K_Reader_append hc hw wd_720 h22 (hR.mono (by decide)) ⟨Nat.zero_le _, Nat.zero_le _⟩ hl.1 (Nat.le_of_ble_eq_true rfl) (dq tk_X_feed 22 rfl) (fun H locs hw _ => ?_)
    refine lv_aload_n hx hb (dq tk_X_feed 23 rfl) rfl (lv_at hl 0 rfl) ?_
    refine G_X_reader hc hw wd_651 (dq tk_X_feed 24 rfl) ?_
    refine lv_iload hx hb (dq tk_X_feed 25 rfl) (lv_at hl 5 rfl) ?_
    obtain ⟨σ5, h26, hf⟩ := bn1_someZ hf
    refine K_Reader_append hc hw wd_720 h26 (hR.mono (by decide)) ⟨Nat.zero_le _, Nat.zero_le _⟩ hl.1 (Nat.le_of_ble_eq_true rfl) (dq tk_X_feed 26 rfl) (fun H locs hw _ => ?_)
    refine lv_aload_n hx hb (dq tk_X_feed 27 rfl) rfl (lv_at hl 0 rfl) ?_
    refine G_X_reader hc hw wd_651 (dq tk_X_feed 28 rfl) ?_
    refine G_Reader_size hc hw wd_43 (dq tk_X_feed 29 rfl) ?_
    cases hf
    exact x_iret hc hw hr (dq tk_X_feed 30 rfl)
  · replace hf := if_f hf c1
    refine lv_iconst (v := (-1)) hx hb (dq tk_X_feed 5 rfl) (by decide) ?_
    cases hf
    exact x_iret hc hw hr (dq tk_X_feed 6 rfl)
theorem c_X_feed {N : Nat}  {x1 : Int32} {x2 : Int32} {x3 : Int32} {x4 : Int32} {x5 : Int32} {rv : Int32} {σ' : St} {σ : St} (hf : fX_feed N x1 x2 x3 x4 x5 σ = some (rv, σ')) : Ct l Z y_X_feed prog_1_method_4_code 6 (some .int) (rmo (1)) [.ref (Z.1 + 0), .int x1, .int x2, .int x3, .int x4, .int x5] (cmb σ μ) (some (.int rv)) True (cmb σ' μ) := by
  refine x_met (by decide) (Nat.le_of_ble_eq_true rfl) (fun p e s m args below meth c ls hc hr hw hl => ?_)
  exact w_X_feed hc hr RO.self hw hl hf
theorem K_X_feed {idx : Nat} {N : Nat}  {x1 : Int32} {x2 : Int32} {x3 : Int32} {x4 : Int32} {x5 : Int32} {rv : Int32} {σ' : St} {σ : St} (hc : Cxz p s m meth c args cc own nL Z) (hw : Wd Z (cmb σ μ) s H locs) (hl : Cond.methodLink own idx y_X_feed ∈ TB) (hf : fX_feed N x1 x2 x3 x4 x5 σ = some (rv, σ')) (hR : RO R ((1) + 1)) (hcs : cells ≤ R.cells ∧ slots ≤ R.slots) (hls : ls.size = nL) (hst : (rest.map fun v => v.category).sum ≤ 8) (hdg : decode cc pc = .ok (.invokevirtual idx, 3)) (kk : ∀ (H1 : Heap) (locs1 : List Loc), Wd Z (cmb σ' μ) s H1 locs1 → True → W p l e R s m args below meth c H1 locs1 cells slots Q (F0 m (pc + 3) ls (.int rv :: rest))) : W p l e R s m args below meth c H locs cells slots Q (F0 m pc ls (.int x5 :: .int x4 :: .int x3 :: .int x2 :: .int x1 :: .ref (Z.1 + 0) :: rest)) :=
  x_iv hc hw (c_X_feed hf) yv_X_feed (Nat.le_of_ble_eq_true rfl) rfl rfl hl (RO.call hR (by decide)) hcs rfl hls hst hdg rfl kk
set_option maxRecDepth 10000 in
theorem w_X_fault {N : Nat} (hc : Cxz p s m meth c args prog_1_method_9_code "LabourExchange" 1 Z) (hr : meth.sig.returnType = (some .int)) (hR : RO R 0) {rv : Int32} {σ : St} : ∀ {H : Heap} {locs : List Loc} {ls : Array Slot}, Wd Z (cmb σ μ) s H locs → lv_has ls 1 [(0, .ref (Z.1 + 0))] → fX_fault N σ = some rv → W p l e R s m args below meth c H locs 0 0 (MQ below (Qr Z (some (.int rv)) True (cmb σ μ)) args s 0 0 (fun q => Z.1 ≤ q)) (F0 m 0 ls []) := by
  have hx := hc.hx
  have hb := hc.hb
  intro H locs ls hw hl hf
  unfold fX_fault at hf
  refine lv_aload_n hx hb (dq tk_X_fault 0 rfl) rfl (lv_at hl 0 rfl) ?_
  refine G_X_reader hc hw wd_651 (dq tk_X_fault 1 rfl) ?_
  refine G_Reader_place hc hw wd_45 (dq tk_X_fault 2 rfl) ?_
  cases hf
  exact x_iret hc hw hr (dq tk_X_fault 3 rfl)
theorem c_X_fault {N : Nat}  {rv : Int32} {σ : St} (hf : fX_fault N σ = some rv) : Ct l Z y_X_fault prog_1_method_9_code 1 (some .int) (rmo (0)) [.ref (Z.1 + 0)] (cmb σ μ) (some (.int rv)) True (cmb σ μ) := by
  refine x_met (by decide) (Nat.le_of_ble_eq_true rfl) (fun p e s m args below meth c ls hc hr hw hl => ?_)
  exact w_X_fault hc hr RO.self hw hl hf
theorem K_X_fault {idx : Nat} {N : Nat}  {rv : Int32} {σ : St} (hc : Cxz p s m meth c args cc own nL Z) (hw : Wd Z (cmb σ μ) s H locs) (hl : Cond.methodLink own idx y_X_fault ∈ TB) (hf : fX_fault N σ = some rv) (hR : RO R ((0) + 1)) (hcs : cells ≤ R.cells ∧ slots ≤ R.slots) (hls : ls.size = nL) (hst : (rest.map fun v => v.category).sum ≤ 8) (hdg : decode cc pc = .ok (.invokevirtual idx, 3)) (kk : ∀ (H1 : Heap) (locs1 : List Loc), Wd Z (cmb σ μ) s H1 locs1 → True → W p l e R s m args below meth c H1 locs1 cells slots Q (F0 m (pc + 3) ls (.int rv :: rest))) : W p l e R s m args below meth c H locs cells slots Q (F0 m pc ls (.ref (Z.1 + 0) :: rest)) :=
  x_iv hc hw (c_X_fault hf) yv_X_fault (Nat.le_of_ble_eq_true rfl) rfl rfl hl (RO.call hR (by decide)) hcs rfl hls hst hdg rfl kk
set_option maxRecDepth 10000 in
theorem w_X_vacancy {N : Nat} (hc : Cxz p s m meth c args prog_1_method_21_code "LabourExchange" 5 Z) (hr : meth.sig.returnType = (some .int)) (hR : RO R 1) {rv : Int32} {σ' : St} : ∀ {x1 : Int32} {x2 : Int32} {x3 : Int32} {x4 : Int32} {σ : St} {H : Heap} {locs : List Loc} {ls : Array Slot}, Wd Z (cmb σ μ) s H locs → lv_has ls 5 [(0, .ref (Z.1 + 0)), (1, .int x1), (2, .int x2), (3, .int x3), (4, .int x4)] → fX_vacancy N x1 x2 x3 x4 σ = some (rv, σ') → W p l e R s m args below meth c H locs 0 0 (MQ below (Qr Z (some (.int rv)) True (cmb σ' μ)) args s 0 0 (fun q => Z.1 ≤ q)) (F0 m 0 ls []) := by
  have hx := hc.hx
  have hb := hc.hb
  intro x1 x2 x3 x4 σ H locs ls hw hl hf
  unfold fX_vacancy at hf
  refine lv_aload_n hx hb (dq tk_X_vacancy 0 rfl) rfl (lv_at hl 0 rfl) ?_
  refine G_X_market hc hw wd_656 (dq tk_X_vacancy 1 rfl) ?_
  refine G_Market_vacancies hc hw wd_255 (dq tk_X_vacancy 2 rfl) ?_
  refine lv_bipush (v := 24) hx hb (dq tk_X_vacancy 3 rfl) (by decide) ?_
  refine lv_icmp_ge (tgt := 29) hx hb (dq tk_X_vacancy 4 rfl) (by decide) (fun c1 => ?_) (fun c1 => ?_)
  · replace hf := if_t hf c1
    refine lv_iconst (v := (-1)) hx hb (dq tk_X_vacancy 14 rfl) (by decide) ?_
    cases hf
    exact x_iret hc hw hr (dq tk_X_vacancy 15 rfl)
  · replace hf := if_f hf c1
    refine lv_iload_n hx hb (dq tk_X_vacancy 5 rfl) rfl (lv_at hl 1 rfl) ?_
    refine lv_iconst (v := 0) hx hb (dq tk_X_vacancy 6 rfl) (by decide) ?_
    refine lv_aload_n hx hb (dq tk_X_vacancy 7 rfl) rfl (lv_at hl 0 rfl) ?_
    refine G_X_land hc hw wd_652 (dq tk_X_vacancy 8 rfl) ?_
    refine G_Land_offices hc hw wd_89 (dq tk_X_vacancy 9 rfl) ?_
    refine lv_iconst (v := 1) hx hb (dq tk_X_vacancy 10 rfl) (by decide) ?_
    refine lv_isub hx hb (dq tk_X_vacancy 11 rfl) ?_
    obtain ⟨r1, h12, hf⟩ := bn1_someZ hf
    refine K_X_outside hc hw wd_701 h12 (hR.mono (by decide)) ⟨Nat.zero_le _, Nat.zero_le _⟩ hl.1 (Nat.le_of_ble_eq_true rfl) (dq tk_X_vacancy 12 rfl) (fun H locs hw _ => ?_)
    refine lv_if_eq (tgt := 31) hx hb (dq tk_X_vacancy 13 rfl) (by decide) (fun c2 => ?_) (fun c2 => ?_)
    · replace hf := if_t hf c2
      refine lv_iload_n hx hb (dq tk_X_vacancy 16 rfl) rfl (lv_at hl 2 rfl) ?_
      refine lv_iconst (v := 0) hx hb (dq tk_X_vacancy 17 rfl) (by decide) ?_
      refine lv_bipush (v := 7) hx hb (dq tk_X_vacancy 18 rfl) (by decide) ?_
      obtain ⟨r2, h19, hf⟩ := bn1_someZ hf
      refine K_X_outside hc hw wd_701 h19 (hR.mono (by decide)) ⟨Nat.zero_le _, Nat.zero_le _⟩ hl.1 (Nat.le_of_ble_eq_true rfl) (dq tk_X_vacancy 19 rfl) (fun H locs hw _ => ?_)
      refine lv_if_ne (tgt := 64) hx hb (dq tk_X_vacancy 20 rfl) (by decide) (fun c3 => ?_) (fun c3 => ?_)
      · replace hf := if_f hf c3
        refine lv_iconst (v := (-1)) hx hb (dq tk_X_vacancy 31 rfl) (by decide) ?_
        cases hf
        exact x_iret hc hw hr (dq tk_X_vacancy 32 rfl)
      · replace hf := if_t hf c3
        refine lv_iload_n hx hb (dq tk_X_vacancy 21 rfl) rfl (lv_at hl 3 rfl) ?_
        refine lv_iconst (v := 1) hx hb (dq tk_X_vacancy 22 rfl) (by decide) ?_
        refine lv_sipush (v := 999) hx hb (dq tk_X_vacancy 23 rfl) (by decide) ?_
        obtain ⟨r3, h24, hf⟩ := bn1_someZ hf
        refine K_X_outside hc hw wd_701 h24 (hR.mono (by decide)) ⟨Nat.zero_le _, Nat.zero_le _⟩ hl.1 (Nat.le_of_ble_eq_true rfl) (dq tk_X_vacancy 24 rfl) (fun H locs hw _ => ?_)
        refine lv_if_ne (tgt := 64) hx hb (dq tk_X_vacancy 25 rfl) (by decide) (fun c4 => ?_) (fun c4 => ?_)
        · replace hf := if_f hf c4
          refine lv_iconst (v := (-1)) hx hb (dq tk_X_vacancy 31 rfl) (by decide) ?_
          cases hf
          exact x_iret hc hw hr (dq tk_X_vacancy 32 rfl)
        · replace hf := if_t hf c4
          refine lv_iload hx hb (dq tk_X_vacancy 26 rfl) (lv_at hl 4 rfl) ?_
          refine lv_iconst (v := 0) hx hb (dq tk_X_vacancy 27 rfl) (by decide) ?_
          refine lv_sipush (v := 999) hx hb (dq tk_X_vacancy 28 rfl) (by decide) ?_
          obtain ⟨r4, h29, hf⟩ := bn1_someZ hf
          refine K_X_outside hc hw wd_701 h29 (hR.mono (by decide)) ⟨Nat.zero_le _, Nat.zero_le _⟩ hl.1 (Nat.le_of_ble_eq_true rfl) (dq tk_X_vacancy 29 rfl) (fun H locs hw _ => ?_)
          refine lv_if_eq (tgt := 66) hx hb (dq tk_X_vacancy 30 rfl) (by decide) (fun c5 => ?_) (fun c5 => ?_)
          · replace hf := if_t hf c5
            refine lv_aload_n hx hb (dq tk_X_vacancy 33 rfl) rfl (lv_at hl 0 rfl) ?_
            refine G_X_market hc hw wd_656 (dq tk_X_vacancy 34 rfl) ?_
            refine lv_iload_n hx hb (dq tk_X_vacancy 35 rfl) rfl (lv_at hl 1 rfl) ?_
            refine lv_iload_n hx hb (dq tk_X_vacancy 36 rfl) rfl (lv_at hl 2 rfl) ?_
            refine lv_iload_n hx hb (dq tk_X_vacancy 37 rfl) rfl (lv_at hl 3 rfl) ?_
            refine lv_iload hx hb (dq tk_X_vacancy 38 rfl) (lv_at hl 4 rfl) ?_
            refine lv_aload_n hx hb (dq tk_X_vacancy 39 rfl) rfl (lv_at hl 0 rfl) ?_
            refine G_X_today hc hw wd_664 (dq tk_X_vacancy 40 rfl) ?_
            obtain ⟨r5, σ6, h41, hf⟩ := bnd_some hf
            refine K_Market_addVacancy hc hw wd_732 h41 (hR.mono (by decide)) ⟨Nat.zero_le _, Nat.zero_le _⟩ hl.1 (Nat.le_of_ble_eq_true rfl) (dq tk_X_vacancy 41 rfl) (fun H locs hw _ => ?_)
            cases hf
            exact x_iret hc hw hr (dq tk_X_vacancy 42 rfl)
          · replace hf := if_f hf c5
            refine lv_iconst (v := (-1)) hx hb (dq tk_X_vacancy 31 rfl) (by decide) ?_
            cases hf
            exact x_iret hc hw hr (dq tk_X_vacancy 32 rfl)
    · replace hf := if_f hf c2
      refine lv_iconst (v := (-1)) hx hb (dq tk_X_vacancy 14 rfl) (by decide) ?_
      cases hf
      exact x_iret hc hw hr (dq tk_X_vacancy 15 rfl)
theorem c_X_vacancy {N : Nat}  {x1 : Int32} {x2 : Int32} {x3 : Int32} {x4 : Int32} {rv : Int32} {σ' : St} {σ : St} (hf : fX_vacancy N x1 x2 x3 x4 σ = some (rv, σ')) : Ct l Z y_X_vacancy prog_1_method_21_code 5 (some .int) (rmo (1)) [.ref (Z.1 + 0), .int x1, .int x2, .int x3, .int x4] (cmb σ μ) (some (.int rv)) True (cmb σ' μ) := by
  refine x_met (by decide) (Nat.le_of_ble_eq_true rfl) (fun p e s m args below meth c ls hc hr hw hl => ?_)
  exact w_X_vacancy hc hr RO.self hw hl hf
theorem K_X_vacancy {idx : Nat} {N : Nat}  {x1 : Int32} {x2 : Int32} {x3 : Int32} {x4 : Int32} {rv : Int32} {σ' : St} {σ : St} (hc : Cxz p s m meth c args cc own nL Z) (hw : Wd Z (cmb σ μ) s H locs) (hl : Cond.methodLink own idx y_X_vacancy ∈ TB) (hf : fX_vacancy N x1 x2 x3 x4 σ = some (rv, σ')) (hR : RO R ((1) + 1)) (hcs : cells ≤ R.cells ∧ slots ≤ R.slots) (hls : ls.size = nL) (hst : (rest.map fun v => v.category).sum ≤ 8) (hdg : decode cc pc = .ok (.invokevirtual idx, 3)) (kk : ∀ (H1 : Heap) (locs1 : List Loc), Wd Z (cmb σ' μ) s H1 locs1 → True → W p l e R s m args below meth c H1 locs1 cells slots Q (F0 m (pc + 3) ls (.int rv :: rest))) : W p l e R s m args below meth c H locs cells slots Q (F0 m pc ls (.int x4 :: .int x3 :: .int x2 :: .int x1 :: .ref (Z.1 + 0) :: rest)) :=
  x_iv hc hw (c_X_vacancy hf) yv_X_vacancy (Nat.le_of_ble_eq_true rfl) rfl rfl hl (RO.call hR (by decide)) hcs rfl hls hst hdg rfl kk
set_option maxRecDepth 10000 in
theorem w_X_tellGains_75 {N : Nat} (hc : Cxz p s m meth c args prog_1_method_48_code "LabourExchange" 5 Z) (hr : meth.sig.returnType = none) (hR : RO R 8) {σ' : St} {go7 : Nat → Int32 → St → Option St} (hgo7 : ∀ {k1_0 : Nat} {x2 : Int32} {σ : St} {H : Heap} {locs : List Loc} {ls : Array Slot} (hk1_0 : k1_0 < 2), Wd Z (cmb σ μ) s H locs → lv_has ls 5 [(0, .ref (Z.1 + 0)), (1, .ref (Z.1 + (192 + 187 * k1_0))), (2, .int x2)] → go7 k1_0 x2 σ = some σ' → W p l e R s m args below meth c H locs 0 0 (MQ below (Qr Z none True (cmb σ' μ)) args s 0 0 (fun q => Z.1 ≤ q)) (F0 m 7 ls [])) {go27 : Nat → Int32 → Nat → Nat → Int32 → St → Option St} (hgo27 : ∀ {k1_0 : Nat} {x2 : Int32} {k3_0 : Nat} {k3_1 : Nat} {x4 : Int32} {σ : St} {H : Heap} {locs : List Loc} {ls : Array Slot} (hk1_0 : k1_0 < 2) (hk3_0 : k3_0 < 2) (hk3_1 : k3_1 < 20), Wd Z (cmb σ μ) s H locs → lv_has ls 5 [(0, .ref (Z.1 + 0)), (1, .ref (Z.1 + (192 + 187 * k1_0))), (2, .int x2), (3, .ref (Z.1 + (279 + 187 * k3_0 + 5 * k3_1))), (4, .int x4)] → go27 k1_0 x2 k3_0 k3_1 x4 σ = some σ' → W p l e R s m args below meth c H locs 0 0 (MQ below (Qr Z none True (cmb σ' μ)) args s 0 0 (fun q => Z.1 ≤ q)) (F0 m 27 ls [])) : ∀ {k1_0 : Nat} {x2 : Int32} {k3_0 : Nat} {k3_1 : Nat} {x4 : Int32} {t0_0 : Nat} {s1 : Int32} {s2 : Int32} {σ : St} {H : Heap} {locs : List Loc} {ls : Array Slot} (hk1_0 : k1_0 < 2) (hk3_0 : k3_0 < 2) (hk3_1 : k3_1 < 20) (ht0_0 : t0_0 < 20), Wd Z (cmb σ μ) s H locs → lv_has ls 5 [(0, .ref (Z.1 + 0)), (1, .ref (Z.1 + (192 + 187 * k1_0))), (2, .int x2), (3, .ref (Z.1 + (279 + 187 * k3_0 + 5 * k3_1))), (4, .int x4)] → fX_tellGains_75 N go7 go27 k1_0 x2 k3_0 k3_1 x4 t0_0 s1 s2 σ = some σ' → W p l e R s m args below meth c H locs 0 0 (MQ below (Qr Z none True (cmb σ' μ)) args s 0 0 (fun q => Z.1 ≤ q)) (F0 m 75 ls [.int s2, .int s1, .ref (Z.1 + (48 + 1 * t0_0))]) := by
  have hx := hc.hx
  have hb := hc.hb
  intro k1_0 x2 k3_0 k3_1 x4 t0_0 s1 s2 σ H locs ls hk1_0 hk3_0 hk3_1 ht0_0 hw hl hf
  unfold fX_tellGains_75 at hf
  obtain ⟨c1, hf⟩ := chk_some hf
  obtain ⟨σ1, hσ1, hf⟩ := nm_some hf
  refine AS_Sending_gainr ht0_0 hc hw c1 hσ1 (dq tk_X_tellGains 39 rfl) (fun H locs hw => ?_)
  refine lv_iinc (v := (x4 + 1)) (lv' := [(4, .int (x4 + 1)), (0, .ref (Z.1 + 0)), (1, .ref (Z.1 + (192 + 187 * k1_0))), (2, .int x2), (3, .ref (Z.1 + (279 + 187 * k3_0 + 5 * k3_1)))]) hx hb (dq tk_X_tellGains 40 rfl) hl (k := 4) rfl rfl (by decide) rfl (fun ls hl => ?_)
  refine lv_goto (tgt := 27) hx hb (dq tk_X_tellGains 41 rfl) (by decide) ?_
  exact hgo27 hk1_0 hk3_0 hk3_1 hw (lv_sub hl [1, 2, 3, 4, 0] rfl) hf
set_option maxRecDepth 10000 in
theorem w_X_tellGains_27 {N : Nat} (hc : Cxz p s m meth c args prog_1_method_48_code "LabourExchange" 5 Z) (hr : meth.sig.returnType = none) (hR : RO R 8) {σ' : St} {go7 : Nat → Int32 → St → Option St} (hgo7 : ∀ {k1_0 : Nat} {x2 : Int32} {σ : St} {H : Heap} {locs : List Loc} {ls : Array Slot} (hk1_0 : k1_0 < 2), Wd Z (cmb σ μ) s H locs → lv_has ls 5 [(0, .ref (Z.1 + 0)), (1, .ref (Z.1 + (192 + 187 * k1_0))), (2, .int x2)] → go7 k1_0 x2 σ = some σ' → W p l e R s m args below meth c H locs 0 0 (MQ below (Qr Z none True (cmb σ' μ)) args s 0 0 (fun q => Z.1 ≤ q)) (F0 m 7 ls [])) (n : Nat) : ∀ {k1_0 : Nat} {x2 : Int32} {k3_0 : Nat} {k3_1 : Nat} {x4 : Int32} {σ : St} {H : Heap} {locs : List Loc} {ls : Array Slot} (hk1_0 : k1_0 < 2) (hk3_0 : k3_0 < 2) (hk3_1 : k3_1 < 20), Wd Z (cmb σ μ) s H locs → lv_has ls 5 [(0, .ref (Z.1 + 0)), (1, .ref (Z.1 + (192 + 187 * k1_0))), (2, .int x2), (3, .ref (Z.1 + (279 + 187 * k3_0 + 5 * k3_1))), (4, .int x4)] → fX_tellGains_27 N go7 n k1_0 x2 k3_0 k3_1 x4 σ = some σ' → W p l e R s m args below meth c H locs 0 0 (MQ below (Qr Z none True (cmb σ' μ)) args s 0 0 (fun q => Z.1 ≤ q)) (F0 m 27 ls []) := by
  have hx := hc.hx
  have hb := hc.hb
  induction n with
  | zero =>
    intro k1_0 x2 k3_0 k3_1 x4 σ H locs ls hk1_0 hk3_0 hk3_1 hw hl hf
    have hf : none = some _ := hf
    cases hf
  | succ n ih =>
    intro k1_0 x2 k3_0 k3_1 x4 σ H locs ls hk1_0 hk3_0 hk3_1 hw hl hf
    unfold fX_tellGains_27 at hf
    refine lv_iload hx hb (dq tk_X_tellGains 16 rfl) (lv_at hl 4 rfl) ?_
    refine lv_aload_n hx hb (dq tk_X_tellGains 17 rfl) rfl (lv_at hl 0 rfl) ?_
    refine G_X_market hc hw wd_656 (dq tk_X_tellGains 18 rfl) ?_
    refine G_Market_vacancies hc hw wd_255 (dq tk_X_tellGains 19 rfl) ?_
    refine lv_icmp_ge (tgt := 82) hx hb (dq tk_X_tellGains 20 rfl) (by decide) (fun c1 => ?_) (fun c1 => ?_)
    · replace hf := if_t hf c1
      refine lv_iinc (v := (x2 + 1)) (lv' := [(2, .int (x2 + 1)), (0, .ref (Z.1 + 0)), (1, .ref (Z.1 + (192 + 187 * k1_0))), (3, .ref (Z.1 + (279 + 187 * k3_0 + 5 * k3_1))), (4, .int x4)]) hx hb (dq tk_X_tellGains 42 rfl) hl (k := 2) rfl rfl (by decide) rfl (fun ls hl => ?_)
      refine lv_goto (tgt := 7) hx hb (dq tk_X_tellGains 43 rfl) (by decide) ?_
      exact hgo7 hk1_0 hw (lv_sub hl [1, 2, 0] rfl) hf
    · replace hf := if_f hf c1
      refine lv_aload_n hx hb (dq tk_X_tellGains 21 rfl) rfl (lv_at hl 0 rfl) ?_
      refine G_X_sending hc hw wd_657 (dq tk_X_tellGains 22 rfl) ?_
      refine G_Sending_gain hc hw wd_315 (dq tk_X_tellGains 23 rfl) ?_
      refine lv_iload_n hx hb (dq tk_X_tellGains 24 rfl) rfl (lv_at hl 2 rfl) ?_
      obtain ⟨c2, hf⟩ := chk_some hf
      refine AL_Sending_gain hc hw c2 (dq tk_X_tellGains 25 rfl) ?_
      refine lv_iload hx hb (dq tk_X_tellGains 26 rfl) (lv_at hl 4 rfl) ?_
      refine lv_aload_n hx hb (dq tk_X_tellGains 27 rfl) rfl (lv_at hl 3 rfl) ?_
      refine G_Life_open hk3_0 hk3_1 hc hw wd_565 (dq tk_X_tellGains 28 rfl) ?_
      refine lv_if_eq (tgt := 74) hx hb (dq tk_X_tellGains 29 rfl) (by decide) (fun c3 => ?_) (fun c3 => ?_)
      · replace hf := if_t hf c3
        refine lv_iconst (v := 0) hx hb (dq tk_X_tellGains 38 rfl) (by decide) ?_
        exact w_X_tellGains_75 hc hr hR hgo7 ih hk1_0 hk3_0 hk3_1 (inb_lt c2) hw (lv_sub hl [0, 1, 2, 3, 4] rfl) hf
      · replace hf := if_f hf c3
        refine lv_aload_n hx hb (dq tk_X_tellGains 30 rfl) rfl (lv_at hl 0 rfl) ?_
        refine G_X_market hc hw wd_656 (dq tk_X_tellGains 31 rfl) ?_
        refine lv_aload_n hx hb (dq tk_X_tellGains 32 rfl) rfl (lv_at hl 3 rfl) ?_
        refine lv_iload hx hb (dq tk_X_tellGains 33 rfl) (lv_at hl 4 rfl) ?_
        refine lv_aload_n hx hb (dq tk_X_tellGains 34 rfl) rfl (lv_at hl 0 rfl) ?_
        refine G_X_today hc hw wd_664 (dq tk_X_tellGains 35 rfl) ?_
        obtain ⟨r1, σ2, h36, hf⟩ := bnd_some hf
        refine K_Market_gainOf hc hw hk3_0 hk3_1 wd_938 h36 (hR.mono (by decide)) ⟨Nat.zero_le _, Nat.zero_le _⟩ hl.1 (Nat.le_of_ble_eq_true rfl) (dq tk_X_tellGains 36 rfl) (fun H locs hw _ => ?_)
        refine lv_goto (tgt := 75) hx hb (dq tk_X_tellGains 37 rfl) (by decide) ?_
        exact w_X_tellGains_75 hc hr hR hgo7 ih hk1_0 hk3_0 hk3_1 (inb_lt c2) hw (lv_sub hl [0, 1, 2, 3, 4] rfl) hf
set_option maxRecDepth 10000 in
theorem w_X_tellGains_7 {N : Nat} (hc : Cxz p s m meth c args prog_1_method_48_code "LabourExchange" 5 Z) (hr : meth.sig.returnType = none) (hR : RO R 8) {σ' : St} (n : Nat) : ∀ {k1_0 : Nat} {x2 : Int32} {σ : St} {H : Heap} {locs : List Loc} {ls : Array Slot} (hk1_0 : k1_0 < 2), Wd Z (cmb σ μ) s H locs → lv_has ls 5 [(0, .ref (Z.1 + 0)), (1, .ref (Z.1 + (192 + 187 * k1_0))), (2, .int x2)] → fX_tellGains_7 N n k1_0 x2 σ = some σ' → W p l e R s m args below meth c H locs 0 0 (MQ below (Qr Z none True (cmb σ' μ)) args s 0 0 (fun q => Z.1 ≤ q)) (F0 m 7 ls []) := by
  have hx := hc.hx
  have hb := hc.hb
  induction n with
  | zero =>
    intro k1_0 x2 σ H locs ls hk1_0 hw hl hf
    have hf : none = some _ := hf
    cases hf
  | succ n ih =>
    intro k1_0 x2 σ H locs ls hk1_0 hw hl hf
    unfold fX_tellGains_7 at hf
    refine lv_iload_n hx hb (dq tk_X_tellGains 5 rfl) rfl (lv_at hl 2 rfl) ?_
    refine lv_aload_n hx hb (dq tk_X_tellGains 6 rfl) rfl (lv_at hl 0 rfl) ?_
    refine G_X_land hc hw wd_652 (dq tk_X_tellGains 7 rfl) ?_
    refine G_Land_people hc hw wd_103 (dq tk_X_tellGains 8 rfl) ?_
    refine lv_icmp_ge (tgt := 88) hx hb (dq tk_X_tellGains 9 rfl) (by decide) (fun c1 => ?_) (fun c1 => ?_)
    · replace hf := if_t hf c1
      cases hf
      exact x_vret hc hw hr (dq tk_X_tellGains 44 rfl)
    · replace hf := if_f hf c1
      refine lv_aload_n hx hb (dq tk_X_tellGains 10 rfl) rfl (lv_at hl 1 rfl) ?_
      refine lv_iload_n hx hb (dq tk_X_tellGains 11 rfl) rfl (lv_at hl 2 rfl) ?_
      obtain ⟨r1, σ2, h12, hf⟩ := bnd_some hf
      refine K_View_lifeOf hc hw hk1_0 wd_779 h12 (hR.mono (by decide)) ⟨Nat.zero_le _, Nat.zero_le _⟩ hl.1 (Nat.le_of_ble_eq_true rfl) (dq tk_X_tellGains 12 rfl) (fun H locs hw hr1 => ?_)
      refine lv_astore_n (lv' := [(3, .ref (Z.1 + (279 + 187 * r1.1 + 5 * r1.2))), (0, .ref (Z.1 + 0)), (1, .ref (Z.1 + (192 + 187 * k1_0))), (2, .int x2)]) hx hb (dq tk_X_tellGains 13 rfl) rfl hl (by decide) rfl (fun ls hl => ?_)
      refine lv_iconst (v := 0) hx hb (dq tk_X_tellGains 14 rfl) (by decide) ?_
      refine lv_istore (lv' := [(4, .int 0), (3, .ref (Z.1 + (279 + 187 * r1.1 + 5 * r1.2))), (0, .ref (Z.1 + 0)), (1, .ref (Z.1 + (192 + 187 * k1_0))), (2, .int x2)]) hx hb (dq tk_X_tellGains 15 rfl) hl (by decide) rfl (fun ls hl => ?_)
      exact w_X_tellGains_27 hc hr hR ih N hk1_0 hr1.1 hr1.2 hw (lv_sub hl [2, 3, 4, 1, 0] rfl) hf
set_option maxRecDepth 10000 in
theorem w_X_tellGains {N : Nat} (hc : Cxz p s m meth c args prog_1_method_48_code "LabourExchange" 5 Z) (hr : meth.sig.returnType = none) (hR : RO R 8) {σ' : St} : ∀ {σ : St} {H : Heap} {locs : List Loc} {ls : Array Slot}, Wd Z (cmb σ μ) s H locs → lv_has ls 5 [(0, .ref (Z.1 + 0))] → fX_tellGains N σ = some σ' → W p l e R s m args below meth c H locs 0 0 (MQ below (Qr Z none True (cmb σ' μ)) args s 0 0 (fun q => Z.1 ≤ q)) (F0 m 0 ls []) := by
  have hx := hc.hx
  have hb := hc.hb
  intro σ H locs ls hw hl hf
  unfold fX_tellGains at hf
  refine lv_aload_n hx hb (dq tk_X_tellGains 0 rfl) rfl (lv_at hl 0 rfl) ?_
  obtain ⟨r1, σ2, h1, hf⟩ := bnd_some hf
  refine K_X_asOfToday hc hw wd_744 h1 (hR.mono (by decide)) ⟨Nat.zero_le _, Nat.zero_le _⟩ hl.1 (Nat.le_of_ble_eq_true rfl) (dq tk_X_tellGains 1 rfl) (fun H locs hw hr1 => ?_)
  refine lv_astore_n (lv' := [(1, .ref (Z.1 + (192 + 187 * r1))), (0, .ref (Z.1 + 0))]) hx hb (dq tk_X_tellGains 2 rfl) rfl hl (by decide) rfl (fun ls hl => ?_)
  refine lv_iconst (v := 0) hx hb (dq tk_X_tellGains 3 rfl) (by decide) ?_
  refine lv_istore_n (lv' := [(2, .int 0), (1, .ref (Z.1 + (192 + 187 * r1))), (0, .ref (Z.1 + 0))]) hx hb (dq tk_X_tellGains 4 rfl) rfl hl (by decide) rfl (fun ls hl => ?_)
  exact w_X_tellGains_7 hc hr hR N hr1 hw (lv_sub hl [2, 1, 0] rfl) hf
theorem c_X_tellGains {N : Nat}  {σ' : St} {σ : St} (hf : fX_tellGains N σ = some σ') : Ct l Z y_X_tellGains prog_1_method_48_code 5 none (rmo (8)) [.ref (Z.1 + 0)] (cmb σ μ) none True (cmb σ' μ) := by
  refine x_met (by decide) (Nat.le_of_ble_eq_true rfl) (fun p e s m args below meth c ls hc hr hw hl => ?_)
  exact w_X_tellGains hc hr RO.self hw hl hf
theorem K_X_tellGains {idx : Nat} {N : Nat}  {σ' : St} {σ : St} (hc : Cxz p s m meth c args cc own nL Z) (hw : Wd Z (cmb σ μ) s H locs) (hl : Cond.methodLink own idx y_X_tellGains ∈ TB) (hf : fX_tellGains N σ = some σ') (hR : RO R ((8) + 1)) (hcs : cells ≤ R.cells ∧ slots ≤ R.slots) (hls : ls.size = nL) (hst : (rest.map fun v => v.category).sum ≤ 8) (hdg : decode cc pc = .ok (.invokevirtual idx, 3)) (kk : ∀ (H1 : Heap) (locs1 : List Loc), Wd Z (cmb σ' μ) s H1 locs1 → True → W p l e R s m args below meth c H1 locs1 cells slots Q (F0 m (pc + 3) ls rest)) : W p l e R s m args below meth c H locs cells slots Q (F0 m pc ls (.ref (Z.1 + 0) :: rest)) :=
  x_iv hc hw (c_X_tellGains hf) yv_X_tellGains (Nat.le_of_ble_eq_true rfl) rfl rfl hl (RO.call hR (by decide)) hcs rfl hls hst hdg rfl kk
set_option maxRecDepth 10000 in
theorem w_X_send {N : Nat} (hc : Cxz p s m meth c args prog_1_method_26_code "LabourExchange" 1 Z) (hr : meth.sig.returnType = (some .int)) (hR : RO R 9) {rv : Int32} {σ' : St} : ∀ {σ : St} {H : Heap} {locs : List Loc} {ls : Array Slot}, Wd Z (cmb σ μ) s H locs → lv_has ls 1 [(0, .ref (Z.1 + 0))] → fX_send N σ = some (rv, σ') → W p l e R s m args below meth c H locs 0 0 (MQ below (Qr Z (some (.int rv)) True (cmb σ' μ)) args s 0 0 (fun q => Z.1 ≤ q)) (F0 m 0 ls []) := by
  have hx := hc.hx
  have hb := hc.hb
  intro σ H locs ls hw hl hf
  unfold fX_send at hf
  refine lv_aload_n hx hb (dq tk_X_send 0 rfl) rfl (lv_at hl 0 rfl) ?_
  obtain ⟨σ1, h1, hf⟩ := bn1_someZ hf
  refine K_X_tellGains hc hw wd_740 h1 (hR.mono (by decide)) ⟨Nat.zero_le _, Nat.zero_le _⟩ hl.1 (Nat.le_of_ble_eq_true rfl) (dq tk_X_send 1 rfl) (fun H locs hw _ => ?_)
  refine lv_aload_n hx hb (dq tk_X_send 2 rfl) rfl (lv_at hl 0 rfl) ?_
  refine G_X_sending hc hw wd_657 (dq tk_X_send 3 rfl) ?_
  refine lv_aload_n hx hb (dq tk_X_send 4 rfl) rfl (lv_at hl 0 rfl) ?_
  refine G_X_land hc hw wd_652 (dq tk_X_send 5 rfl) ?_
  refine G_Land_people hc hw wd_103 (dq tk_X_send 6 rfl) ?_
  refine lv_aload_n hx hb (dq tk_X_send 7 rfl) rfl (lv_at hl 0 rfl) ?_
  refine G_X_market hc hw wd_656 (dq tk_X_send 8 rfl) ?_
  refine G_Market_vacancies hc hw wd_255 (dq tk_X_send 9 rfl) ?_
  obtain ⟨r2, σ3, h10, hf⟩ := bnd_some hf
  refine K_Sending_sendBest hc hw wd_960 h10 (hR.mono (by decide)) ⟨Nat.zero_le _, Nat.zero_le _⟩ hl.1 (Nat.le_of_ble_eq_true rfl) (dq tk_X_send 10 rfl) (fun H locs hw _ => ?_)
  cases hf
  exact x_iret hc hw hr (dq tk_X_send 11 rfl)
theorem c_X_send {N : Nat}  {rv : Int32} {σ' : St} {σ : St} (hf : fX_send N σ = some (rv, σ')) : Ct l Z y_X_send prog_1_method_26_code 1 (some .int) (rmo (9)) [.ref (Z.1 + 0)] (cmb σ μ) (some (.int rv)) True (cmb σ' μ) := by
  refine x_met (by decide) (Nat.le_of_ble_eq_true rfl) (fun p e s m args below meth c ls hc hr hw hl => ?_)
  exact w_X_send hc hr RO.self hw hl hf
theorem K_X_send {idx : Nat} {N : Nat}  {rv : Int32} {σ' : St} {σ : St} (hc : Cxz p s m meth c args cc own nL Z) (hw : Wd Z (cmb σ μ) s H locs) (hl : Cond.methodLink own idx y_X_send ∈ TB) (hf : fX_send N σ = some (rv, σ')) (hR : RO R ((9) + 1)) (hcs : cells ≤ R.cells ∧ slots ≤ R.slots) (hls : ls.size = nL) (hst : (rest.map fun v => v.category).sum ≤ 8) (hdg : decode cc pc = .ok (.invokevirtual idx, 3)) (kk : ∀ (H1 : Heap) (locs1 : List Loc), Wd Z (cmb σ' μ) s H1 locs1 → True → W p l e R s m args below meth c H1 locs1 cells slots Q (F0 m (pc + 3) ls (.int rv :: rest))) : W p l e R s m args below meth c H locs cells slots Q (F0 m pc ls (.ref (Z.1 + 0) :: rest)) :=
  x_iv hc hw (c_X_send hf) yv_X_send (Nat.le_of_ble_eq_true rfl) rfl rfl hl (RO.call hR (by decide)) hcs rfl hls hst hdg rfl kk
set_option maxRecDepth 10000 in
theorem w_X_price_45 {N : Nat} (hc : Cxz p s m meth c args prog_1_method_28_code "LabourExchange" 4 Z) (hr : meth.sig.returnType = (some .boolean)) (hR : RO R 1) {rv : Int32} {σ' : St} : ∀ {x1 : Int32} {x2 : Int32} {x3 : Int32} {s0 : Int32} {s1 : Int32} {s2 : Int32} {σ : St} {H : Heap} {locs : List Loc} {ls : Array Slot}, Wd Z (cmb σ μ) s H locs → lv_has ls 4 [(0, .ref (Z.1 + 0)), (1, .int x1), (2, .int x2), (3, .int x3)] → fX_price_45 N x1 x2 x3 s0 s1 s2 σ = some (rv, σ') → W p l e R s m args below meth c H locs 0 0 (MQ below (Qr Z (some (.int rv)) True (cmb σ' μ)) args s 0 0 (fun q => Z.1 ≤ q)) (F0 m 45 ls [.int s2, .int s1, .int s0]) := by
  have hx := hc.hx
  have hb := hc.hb
  intro x1 x2 x3 s0 s1 s2 σ H locs ls hw hl hf
  unfold fX_price_45 at hf
  refine lv_iconst (v := 1) hx hb (dq tk_X_price 23 rfl) (by decide) ?_
  refine lv_isub hx hb (dq tk_X_price 24 rfl) ?_
  obtain ⟨r1, h25, hf⟩ := bn1_someZ hf
  refine K_X_outside hc hw wd_701 h25 (hR.mono (by decide)) ⟨Nat.zero_le _, Nat.zero_le _⟩ hl.1 (Nat.le_of_ble_eq_true rfl) (dq tk_X_price 25 rfl) (fun H locs hw _ => ?_)
  refine lv_if_eq (tgt := 55) hx hb (dq tk_X_price 26 rfl) (by decide) (fun c1 => ?_) (fun c1 => ?_)
  · replace hf := if_t hf c1
    refine lv_iload_n hx hb (dq tk_X_price 29 rfl) rfl (lv_at hl 1 rfl) ?_
    refine lv_if_ne (tgt := 69) hx hb (dq tk_X_price 30 rfl) (by decide) (fun c2 => ?_) (fun c2 => ?_)
    · replace hf := if_f hf c2
      refine lv_aload_n hx hb (dq tk_X_price 35 rfl) rfl (lv_at hl 0 rfl) ?_
      refine G_X_market hc hw wd_656 (dq tk_X_price 36 rfl) ?_
      refine G_Market_vacancyPrice hc hw wd_270 (dq tk_X_price 37 rfl) ?_
      refine lv_iload_n hx hb (dq tk_X_price 38 rfl) rfl (lv_at hl 2 rfl) ?_
      refine lv_iload_n hx hb (dq tk_X_price 39 rfl) rfl (lv_at hl 3 rfl) ?_
      obtain ⟨c3, hf⟩ := chk_some hf
      obtain ⟨σ2, hσ2, hf⟩ := nm_some hf
      refine AS_Market_vacancyPrice hc hw c3 hσ2 (dq tk_X_price 40 rfl) (fun H locs hw => ?_)
      refine lv_iconst (v := 1) hx hb (dq tk_X_price 41 rfl) (by decide) ?_
      cases hf
      exact x_zret hc hw hr (by decide) (dq tk_X_price 42 rfl)
    · replace hf := if_t hf c2
      refine lv_aload_n hx hb (dq tk_X_price 31 rfl) rfl (lv_at hl 0 rfl) ?_
      refine G_X_market hc hw wd_656 (dq tk_X_price 32 rfl) ?_
      refine G_Market_personPrice hc hw wd_268 (dq tk_X_price 33 rfl) ?_
      refine lv_goto (tgt := 76) hx hb (dq tk_X_price 34 rfl) (by decide) ?_
      refine lv_iload_n hx hb (dq tk_X_price 38 rfl) rfl (lv_at hl 2 rfl) ?_
      refine lv_iload_n hx hb (dq tk_X_price 39 rfl) rfl (lv_at hl 3 rfl) ?_
      obtain ⟨c4, hf⟩ := chk_some hf
      obtain ⟨σ3, hσ3, hf⟩ := nm_some hf
      refine AS_Market_personPrice hc hw c4 hσ3 (dq tk_X_price 40 rfl) (fun H locs hw => ?_)
      refine lv_iconst (v := 1) hx hb (dq tk_X_price 41 rfl) (by decide) ?_
      cases hf
      exact x_zret hc hw hr (by decide) (dq tk_X_price 42 rfl)
  · replace hf := if_f hf c1
    refine lv_iconst (v := 0) hx hb (dq tk_X_price 27 rfl) (by decide) ?_
    cases hf
    exact x_zret hc hw hr (by decide) (dq tk_X_price 28 rfl)
set_option maxRecDepth 10000 in
theorem w_X_price {N : Nat} (hc : Cxz p s m meth c args prog_1_method_28_code "LabourExchange" 4 Z) (hr : meth.sig.returnType = (some .boolean)) (hR : RO R 1) {rv : Int32} {σ' : St} : ∀ {x1 : Int32} {x2 : Int32} {x3 : Int32} {σ : St} {H : Heap} {locs : List Loc} {ls : Array Slot}, Wd Z (cmb σ μ) s H locs → lv_has ls 4 [(0, .ref (Z.1 + 0)), (1, .int x1), (2, .int x2), (3, .int x3)] → fX_price N x1 x2 x3 σ = some (rv, σ') → W p l e R s m args below meth c H locs 0 0 (MQ below (Qr Z (some (.int rv)) True (cmb σ' μ)) args s 0 0 (fun q => Z.1 ≤ q)) (F0 m 0 ls []) := by
  have hx := hc.hx
  have hb := hc.hb
  intro x1 x2 x3 σ H locs ls hw hl hf
  unfold fX_price at hf
  refine lv_iload_n hx hb (dq tk_X_price 0 rfl) rfl (lv_at hl 1 rfl) ?_
  refine lv_iconst (v := 0) hx hb (dq tk_X_price 1 rfl) (by decide) ?_
  refine lv_iconst (v := 1) hx hb (dq tk_X_price 2 rfl) (by decide) ?_
  obtain ⟨r1, h3, hf⟩ := bn1_someZ hf
  refine K_X_outside hc hw wd_701 h3 (hR.mono (by decide)) ⟨Nat.zero_le _, Nat.zero_le _⟩ hl.1 (Nat.le_of_ble_eq_true rfl) (dq tk_X_price 3 rfl) (fun H locs hw _ => ?_)
  refine lv_if_ne (tgt := 20) hx hb (dq tk_X_price 4 rfl) (by decide) (fun c1 => ?_) (fun c1 => ?_)
  · replace hf := if_f hf c1
    refine lv_iconst (v := 0) hx hb (dq tk_X_price 10 rfl) (by decide) ?_
    cases hf
    exact x_zret hc hw hr (by decide) (dq tk_X_price 11 rfl)
  · replace hf := if_t hf c1
    refine lv_iload_n hx hb (dq tk_X_price 5 rfl) rfl (lv_at hl 3 rfl) ?_
    refine lv_iconst (v := 0) hx hb (dq tk_X_price 6 rfl) (by decide) ?_
    refine lv_sipush (v := 9999) hx hb (dq tk_X_price 7 rfl) (by decide) ?_
    obtain ⟨r2, h8, hf⟩ := bn1_someZ hf
    refine K_X_outside hc hw wd_701 h8 (hR.mono (by decide)) ⟨Nat.zero_le _, Nat.zero_le _⟩ hl.1 (Nat.le_of_ble_eq_true rfl) (dq tk_X_price 8 rfl) (fun H locs hw _ => ?_)
    refine lv_if_eq (tgt := 22) hx hb (dq tk_X_price 9 rfl) (by decide) (fun c2 => ?_) (fun c2 => ?_)
    · replace hf := if_t hf c2
      refine lv_iload_n hx hb (dq tk_X_price 12 rfl) rfl (lv_at hl 2 rfl) ?_
      refine lv_iconst (v := 0) hx hb (dq tk_X_price 13 rfl) (by decide) ?_
      refine lv_iload_n hx hb (dq tk_X_price 14 rfl) rfl (lv_at hl 1 rfl) ?_
      refine lv_if_ne (tgt := 38) hx hb (dq tk_X_price 15 rfl) (by decide) (fun c3 => ?_) (fun c3 => ?_)
      · replace hf := if_f hf c3
        refine lv_aload_n hx hb (dq tk_X_price 20 rfl) rfl (lv_at hl 0 rfl) ?_
        refine G_X_market hc hw wd_656 (dq tk_X_price 21 rfl) ?_
        refine G_Market_vacancies hc hw wd_255 (dq tk_X_price 22 rfl) ?_
        exact w_X_price_45 hc hr hR hw (lv_sub hl [0, 1, 2, 3] rfl) hf
      · replace hf := if_t hf c3
        refine lv_aload_n hx hb (dq tk_X_price 16 rfl) rfl (lv_at hl 0 rfl) ?_
        refine G_X_land hc hw wd_652 (dq tk_X_price 17 rfl) ?_
        refine G_Land_people hc hw wd_103 (dq tk_X_price 18 rfl) ?_
        refine lv_goto (tgt := 45) hx hb (dq tk_X_price 19 rfl) (by decide) ?_
        exact w_X_price_45 hc hr hR hw (lv_sub hl [0, 1, 2, 3] rfl) hf
    · replace hf := if_f hf c2
      refine lv_iconst (v := 0) hx hb (dq tk_X_price 10 rfl) (by decide) ?_
      cases hf
      exact x_zret hc hw hr (by decide) (dq tk_X_price 11 rfl)
theorem c_X_price {N : Nat}  {x1 : Int32} {x2 : Int32} {x3 : Int32} {rv : Int32} {σ' : St} {σ : St} (hf : fX_price N x1 x2 x3 σ = some (rv, σ')) : Ct l Z y_X_price prog_1_method_28_code 4 (some .boolean) (rmo (1)) [.ref (Z.1 + 0), .int x1, .int x2, .int x3] (cmb σ μ) (some (.int rv)) True (cmb σ' μ) := by
  refine x_met (by decide) (Nat.le_of_ble_eq_true rfl) (fun p e s m args below meth c ls hc hr hw hl => ?_)
  exact w_X_price hc hr RO.self hw hl hf
theorem K_X_price {idx : Nat} {N : Nat}  {x1 : Int32} {x2 : Int32} {x3 : Int32} {rv : Int32} {σ' : St} {σ : St} (hc : Cxz p s m meth c args cc own nL Z) (hw : Wd Z (cmb σ μ) s H locs) (hl : Cond.methodLink own idx y_X_price ∈ TB) (hf : fX_price N x1 x2 x3 σ = some (rv, σ')) (hR : RO R ((1) + 1)) (hcs : cells ≤ R.cells ∧ slots ≤ R.slots) (hls : ls.size = nL) (hst : (rest.map fun v => v.category).sum ≤ 8) (hdg : decode cc pc = .ok (.invokevirtual idx, 3)) (kk : ∀ (H1 : Heap) (locs1 : List Loc), Wd Z (cmb σ' μ) s H1 locs1 → True → W p l e R s m args below meth c H1 locs1 cells slots Q (F0 m (pc + 3) ls (.int rv :: rest))) : W p l e R s m args below meth c H locs cells slots Q (F0 m pc ls (.int x3 :: .int x2 :: .int x1 :: .ref (Z.1 + 0) :: rest)) :=
  x_iv hc hw (c_X_price hf) yv_X_price (Nat.le_of_ble_eq_true rfl) rfl rfl hl (RO.call hR (by decide)) hcs rfl hls hst hdg rfl kk
set_option maxRecDepth 10000 in
theorem w_X_proves_21 {N : Nat} (hc : Cxz p s m meth c args prog_1_method_29_code "LabourExchange" 4 Z) (hr : meth.sig.returnType = (some .int)) (hR : RO R 9) {rv : Int32} {σ' : St} {go8 : Int32 → Int32 → St → Option (Int32 × St)} (hgo8 : ∀ {x1 : Int32} {x2 : Int32} {σ : St} {H : Heap} {locs : List Loc} {ls : Array Slot}, Wd Z (cmb σ μ) s H locs → lv_has ls 4 [(0, .ref (Z.1 + 0)), (1, .int x1), (2, .int x2)] → go8 x1 x2 σ = some (rv, σ') → W p l e R s m args below meth c H locs 0 0 (MQ below (Qr Z (some (.int rv)) True (cmb σ' μ)) args s 0 0 (fun q => Z.1 ≤ q)) (F0 m 8 ls [])) (n : Nat) : ∀ {x1 : Int32} {x2 : Int32} {x3 : Int32} {σ : St} {H : Heap} {locs : List Loc} {ls : Array Slot}, Wd Z (cmb σ μ) s H locs → lv_has ls 4 [(0, .ref (Z.1 + 0)), (1, .int x1), (2, .int x2), (3, .int x3)] → fX_proves_21 N go8 n x1 x2 x3 σ = some (rv, σ') → W p l e R s m args below meth c H locs 0 0 (MQ below (Qr Z (some (.int rv)) True (cmb σ' μ)) args s 0 0 (fun q => Z.1 ≤ q)) (F0 m 21 ls []) := by
  have hx := hc.hx
  have hb := hc.hb
  induction n with
  | zero =>
    intro x1 x2 x3 σ H locs ls hw hl hf
    have hf : none = some _ := hf
    cases hf
  | succ n ih =>
    intro x1 x2 x3 σ H locs ls hw hl hf
    unfold fX_proves_21 at hf
    refine lv_iload_n hx hb (dq tk_X_proves 13 rfl) rfl (lv_at hl 3 rfl) ?_
    refine lv_aload_n hx hb (dq tk_X_proves 14 rfl) rfl (lv_at hl 0 rfl) ?_
    refine G_X_market hc hw wd_656 (dq tk_X_proves 15 rfl) ?_
    refine G_Market_vacancies hc hw wd_255 (dq tk_X_proves 16 rfl) ?_
    refine lv_icmp_ge (tgt := 73) hx hb (dq tk_X_proves 17 rfl) (by decide) (fun c1 => ?_) (fun c1 => ?_)
    · replace hf := if_t hf c1
      refine lv_iload_n hx hb (dq tk_X_proves 41 rfl) rfl (lv_at hl 1 rfl) ?_
      refine lv_aload_n hx hb (dq tk_X_proves 42 rfl) rfl (lv_at hl 0 rfl) ?_
      refine G_X_market hc hw wd_656 (dq tk_X_proves 43 rfl) ?_
      refine G_Market_personPrice hc hw wd_268 (dq tk_X_proves 44 rfl) ?_
      refine lv_iload_n hx hb (dq tk_X_proves 45 rfl) rfl (lv_at hl 2 rfl) ?_
      obtain ⟨c2, hf⟩ := chk_some hf
      refine AL_Market_personPrice hc hw c2 (dq tk_X_proves 46 rfl) ?_
      refine lv_iadd hx hb (dq tk_X_proves 47 rfl) ?_
      obtain ⟨y1, hy1, hf⟩ := nm_some hf
      refine tst (congrArg Value.int hy1) ?_
      refine lv_istore_n (lv' := [(1, .int y1), (0, .ref (Z.1 + 0)), (2, .int x2), (3, .int x3)]) hx hb (dq tk_X_proves 48 rfl) rfl hl (by decide) rfl (fun ls hl => ?_)
      refine lv_iinc (v := (x2 + 1)) (lv' := [(2, .int (x2 + 1)), (1, .int y1), (0, .ref (Z.1 + 0)), (3, .int x3)]) hx hb (dq tk_X_proves 49 rfl) hl (k := 2) rfl rfl (by decide) rfl (fun ls hl => ?_)
      refine lv_goto (tgt := 8) hx hb (dq tk_X_proves 50 rfl) (by decide) ?_
      exact hgo8 hw (lv_sub hl [2, 1, 0] rfl) hf
    · replace hf := if_f hf c1
      refine lv_aload_n hx hb (dq tk_X_proves 18 rfl) rfl (lv_at hl 0 rfl) ?_
      refine G_X_market hc hw wd_656 (dq tk_X_proves 19 rfl) ?_
      refine G_Market_personPrice hc hw wd_268 (dq tk_X_proves 20 rfl) ?_
      refine lv_iload_n hx hb (dq tk_X_proves 21 rfl) rfl (lv_at hl 2 rfl) ?_
      obtain ⟨c3, hf⟩ := chk_some hf
      refine AL_Market_personPrice hc hw c3 (dq tk_X_proves 22 rfl) ?_
      refine lv_aload_n hx hb (dq tk_X_proves 23 rfl) rfl (lv_at hl 0 rfl) ?_
      refine G_X_market hc hw wd_656 (dq tk_X_proves 24 rfl) ?_
      refine G_Market_vacancyPrice hc hw wd_270 (dq tk_X_proves 25 rfl) ?_
      refine lv_iload_n hx hb (dq tk_X_proves 26 rfl) rfl (lv_at hl 3 rfl) ?_
      obtain ⟨c4, hf⟩ := chk_some hf
      refine AL_Market_vacancyPrice hc hw c4 (dq tk_X_proves 27 rfl) ?_
      refine lv_iadd hx hb (dq tk_X_proves 28 rfl) ?_
      refine lv_aload_n hx hb (dq tk_X_proves 29 rfl) rfl (lv_at hl 0 rfl) ?_
      refine G_X_sending hc hw wd_657 (dq tk_X_proves 30 rfl) ?_
      refine G_Sending_gain hc hw wd_315 (dq tk_X_proves 31 rfl) ?_
      refine lv_iload_n hx hb (dq tk_X_proves 32 rfl) rfl (lv_at hl 2 rfl) ?_
      refine AL_Sending_gain hc hw c3 (dq tk_X_proves 33 rfl) ?_
      refine lv_iload_n hx hb (dq tk_X_proves 34 rfl) rfl (lv_at hl 3 rfl) ?_
      refine AL_Sending_gainr (inb_lt c3) hc hw c4 (dq tk_X_proves 35 rfl) ?_
      refine lv_icmp_ge (tgt := 67) hx hb (dq tk_X_proves 36 rfl) (by decide) (fun c5 => ?_) (fun c5 => ?_)
      · replace hf := if_t hf c5
        refine lv_iinc (v := (x3 + 1)) (lv' := [(3, .int (x3 + 1)), (0, .ref (Z.1 + 0)), (1, .int x1), (2, .int x2)]) hx hb (dq tk_X_proves 39 rfl) hl (k := 3) rfl rfl (by decide) rfl (fun ls hl => ?_)
        refine lv_goto (tgt := 21) hx hb (dq tk_X_proves 40 rfl) (by decide) ?_
        exact ih hw (lv_sub hl [1, 2, 3, 0] rfl) hf
      · replace hf := if_f hf c5
        refine lv_iconst (v := (-1)) hx hb (dq tk_X_proves 37 rfl) (by decide) ?_
        cases hf
        exact x_iret hc hw hr (dq tk_X_proves 38 rfl)
set_option maxRecDepth 10000 in
theorem w_X_proves_93 {N : Nat} (hc : Cxz p s m meth c args prog_1_method_29_code "LabourExchange" 4 Z) (hr : meth.sig.returnType = (some .int)) (hR : RO R 9) {rv : Int32} {σ' : St} (n : Nat) : ∀ {x1 : Int32} {x2 : Int32} {σ : St} {H : Heap} {locs : List Loc} {ls : Array Slot}, Wd Z (cmb σ μ) s H locs → lv_has ls 4 [(0, .ref (Z.1 + 0)), (1, .int x1), (2, .int x2)] → fX_proves_93 N n x1 x2 σ = some (rv, σ') → W p l e R s m args below meth c H locs 0 0 (MQ below (Qr Z (some (.int rv)) True (cmb σ' μ)) args s 0 0 (fun q => Z.1 ≤ q)) (F0 m 93 ls []) := by
  have hx := hc.hx
  have hb := hc.hb
  induction n with
  | zero =>
    intro x1 x2 σ H locs ls hw hl hf
    have hf : none = some _ := hf
    cases hf
  | succ n ih =>
    intro x1 x2 σ H locs ls hw hl hf
    unfold fX_proves_93 at hf
    refine lv_iload_n hx hb (dq tk_X_proves 53 rfl) rfl (lv_at hl 2 rfl) ?_
    refine lv_aload_n hx hb (dq tk_X_proves 54 rfl) rfl (lv_at hl 0 rfl) ?_
    refine G_X_market hc hw wd_656 (dq tk_X_proves 55 rfl) ?_
    refine G_Market_vacancies hc hw wd_255 (dq tk_X_proves 56 rfl) ?_
    refine lv_icmp_ge (tgt := 122) hx hb (dq tk_X_proves 57 rfl) (by decide) (fun c1 => ?_) (fun c1 => ?_)
    · replace hf := if_t hf c1
      refine lv_iload_n hx hb (dq tk_X_proves 68 rfl) rfl (lv_at hl 1 rfl) ?_
      cases hf
      exact x_iret hc hw hr (dq tk_X_proves 69 rfl)
    · replace hf := if_f hf c1
      refine lv_iload_n hx hb (dq tk_X_proves 58 rfl) rfl (lv_at hl 1 rfl) ?_
      refine lv_aload_n hx hb (dq tk_X_proves 59 rfl) rfl (lv_at hl 0 rfl) ?_
      refine G_X_market hc hw wd_656 (dq tk_X_proves 60 rfl) ?_
      refine G_Market_vacancyPrice hc hw wd_270 (dq tk_X_proves 61 rfl) ?_
      refine lv_iload_n hx hb (dq tk_X_proves 62 rfl) rfl (lv_at hl 2 rfl) ?_
      obtain ⟨c2, hf⟩ := chk_some hf
      refine AL_Market_vacancyPrice hc hw c2 (dq tk_X_proves 63 rfl) ?_
      refine lv_iadd hx hb (dq tk_X_proves 64 rfl) ?_
      obtain ⟨y1, hy1, hf⟩ := nm_some hf
      refine tst (congrArg Value.int hy1) ?_
      refine lv_istore_n (lv' := [(1, .int y1), (0, .ref (Z.1 + 0)), (2, .int x2)]) hx hb (dq tk_X_proves 65 rfl) rfl hl (by decide) rfl (fun ls hl => ?_)
      refine lv_iinc (v := (x2 + 1)) (lv' := [(2, .int (x2 + 1)), (1, .int y1), (0, .ref (Z.1 + 0))]) hx hb (dq tk_X_proves 66 rfl) hl (k := 2) rfl rfl (by decide) rfl (fun ls hl => ?_)
      refine lv_goto (tgt := 93) hx hb (dq tk_X_proves 67 rfl) (by decide) ?_
      exact ih hw (lv_sub hl [2, 1, 0] rfl) hf
set_option maxRecDepth 10000 in
theorem w_X_proves_8 {N : Nat} (hc : Cxz p s m meth c args prog_1_method_29_code "LabourExchange" 4 Z) (hr : meth.sig.returnType = (some .int)) (hR : RO R 9) {rv : Int32} {σ' : St} (n : Nat) : ∀ {x1 : Int32} {x2 : Int32} {σ : St} {H : Heap} {locs : List Loc} {ls : Array Slot}, Wd Z (cmb σ μ) s H locs → lv_has ls 4 [(0, .ref (Z.1 + 0)), (1, .int x1), (2, .int x2)] → fX_proves_8 N n x1 x2 σ = some (rv, σ') → W p l e R s m args below meth c H locs 0 0 (MQ below (Qr Z (some (.int rv)) True (cmb σ' μ)) args s 0 0 (fun q => Z.1 ≤ q)) (F0 m 8 ls []) := by
  have hx := hc.hx
  have hb := hc.hb
  induction n with
  | zero =>
    intro x1 x2 σ H locs ls hw hl hf
    have hf : none = some _ := hf
    cases hf
  | succ n ih =>
    intro x1 x2 σ H locs ls hw hl hf
    unfold fX_proves_8 at hf
    refine lv_iload_n hx hb (dq tk_X_proves 6 rfl) rfl (lv_at hl 2 rfl) ?_
    refine lv_aload_n hx hb (dq tk_X_proves 7 rfl) rfl (lv_at hl 0 rfl) ?_
    refine G_X_land hc hw wd_652 (dq tk_X_proves 8 rfl) ?_
    refine G_Land_people hc hw wd_103 (dq tk_X_proves 9 rfl) ?_
    refine lv_icmp_ge (tgt := 91) hx hb (dq tk_X_proves 10 rfl) (by decide) (fun c1 => ?_) (fun c1 => ?_)
    · replace hf := if_t hf c1
      refine lv_iconst (v := 0) hx hb (dq tk_X_proves 51 rfl) (by decide) ?_
      refine lv_istore_n (lv' := [(2, .int 0), (0, .ref (Z.1 + 0)), (1, .int x1)]) hx hb (dq tk_X_proves 52 rfl) rfl hl (by decide) rfl (fun ls hl => ?_)
      exact w_X_proves_93 hc hr hR N hw (lv_sub hl [1, 2, 0] rfl) hf
    · replace hf := if_f hf c1
      refine lv_iconst (v := 0) hx hb (dq tk_X_proves 11 rfl) (by decide) ?_
      refine lv_istore_n (lv' := [(3, .int 0), (0, .ref (Z.1 + 0)), (1, .int x1), (2, .int x2)]) hx hb (dq tk_X_proves 12 rfl) rfl hl (by decide) rfl (fun ls hl => ?_)
      exact w_X_proves_21 hc hr hR ih N hw (lv_sub hl [1, 2, 3, 0] rfl) hf
set_option maxRecDepth 10000 in
theorem w_X_proves {N : Nat} (hc : Cxz p s m meth c args prog_1_method_29_code "LabourExchange" 4 Z) (hr : meth.sig.returnType = (some .int)) (hR : RO R 9) {rv : Int32} {σ' : St} : ∀ {σ : St} {H : Heap} {locs : List Loc} {ls : Array Slot}, Wd Z (cmb σ μ) s H locs → lv_has ls 4 [(0, .ref (Z.1 + 0))] → fX_proves N σ = some (rv, σ') → W p l e R s m args below meth c H locs 0 0 (MQ below (Qr Z (some (.int rv)) True (cmb σ' μ)) args s 0 0 (fun q => Z.1 ≤ q)) (F0 m 0 ls []) := by
  have hx := hc.hx
  have hb := hc.hb
  intro σ H locs ls hw hl hf
  unfold fX_proves at hf
  refine lv_aload_n hx hb (dq tk_X_proves 0 rfl) rfl (lv_at hl 0 rfl) ?_
  obtain ⟨σ1, h1, hf⟩ := bn1_someZ hf
  refine K_X_tellGains hc hw wd_740 h1 (hR.mono (by decide)) ⟨Nat.zero_le _, Nat.zero_le _⟩ hl.1 (Nat.le_of_ble_eq_true rfl) (dq tk_X_proves 1 rfl) (fun H locs hw _ => ?_)
  refine lv_iconst (v := 0) hx hb (dq tk_X_proves 2 rfl) (by decide) ?_
  refine lv_istore_n (lv' := [(1, .int 0), (0, .ref (Z.1 + 0))]) hx hb (dq tk_X_proves 3 rfl) rfl hl (by decide) rfl (fun ls hl => ?_)
  refine lv_iconst (v := 0) hx hb (dq tk_X_proves 4 rfl) (by decide) ?_
  refine lv_istore_n (lv' := [(2, .int 0), (1, .int 0), (0, .ref (Z.1 + 0))]) hx hb (dq tk_X_proves 5 rfl) rfl hl (by decide) rfl (fun ls hl => ?_)
  exact w_X_proves_8 hc hr hR N hw (lv_sub hl [2, 1, 0] rfl) hf
theorem c_X_proves {N : Nat}  {rv : Int32} {σ' : St} {σ : St} (hf : fX_proves N σ = some (rv, σ')) : Ct l Z y_X_proves prog_1_method_29_code 4 (some .int) (rmo (9)) [.ref (Z.1 + 0)] (cmb σ μ) (some (.int rv)) True (cmb σ' μ) := by
  refine x_met (by decide) (Nat.le_of_ble_eq_true rfl) (fun p e s m args below meth c ls hc hr hw hl => ?_)
  exact w_X_proves hc hr RO.self hw hl hf
theorem K_X_proves {idx : Nat} {N : Nat}  {rv : Int32} {σ' : St} {σ : St} (hc : Cxz p s m meth c args cc own nL Z) (hw : Wd Z (cmb σ μ) s H locs) (hl : Cond.methodLink own idx y_X_proves ∈ TB) (hf : fX_proves N σ = some (rv, σ')) (hR : RO R ((9) + 1)) (hcs : cells ≤ R.cells ∧ slots ≤ R.slots) (hls : ls.size = nL) (hst : (rest.map fun v => v.category).sum ≤ 8) (hdg : decode cc pc = .ok (.invokevirtual idx, 3)) (kk : ∀ (H1 : Heap) (locs1 : List Loc), Wd Z (cmb σ' μ) s H1 locs1 → True → W p l e R s m args below meth c H1 locs1 cells slots Q (F0 m (pc + 3) ls (.int rv :: rest))) : W p l e R s m args below meth c H locs cells slots Q (F0 m pc ls (.ref (Z.1 + 0) :: rest)) :=
  x_iv hc hw (c_X_proves hf) yv_X_proves (Nat.le_of_ble_eq_true rfl) rfl rfl hl (RO.call hR (by decide)) hcs rfl hls hst hdg rfl kk
set_option maxRecDepth 10000 in
theorem w_X_judge {N : Nat} (hc : Cxz p s m meth c args prog_1_method_30_code "LabourExchange" 3 Z) (hr : meth.sig.returnType = (some .int)) (hR : RO R 1) {rv : Int32} {σ' : St} : ∀ {x1 : Int32} {x2 : Int32} {σ : St} {H : Heap} {locs : List Loc} {ls : Array Slot}, Wd Z (cmb σ μ) s H locs → lv_has ls 3 [(0, .ref (Z.1 + 0)), (1, .int x1), (2, .int x2)] → fX_judge N x1 x2 σ = some (rv, σ') → W p l e R s m args below meth c H locs 0 0 (MQ below (Qr Z (some (.int rv)) True (cmb σ' μ)) args s 0 0 (fun q => Z.1 ≤ q)) (F0 m 0 ls []) := by
  have hx := hc.hx
  have hb := hc.hb
  intro x1 x2 σ H locs ls hw hl hf
  unfold fX_judge at hf
  refine lv_aload_n hx hb (dq tk_X_judge 0 rfl) rfl (lv_at hl 0 rfl) ?_
  refine G_X_courts hc hw wd_658 (dq tk_X_judge 1 rfl) ?_
  refine G_Courts_judges hc hw wd_375 (dq tk_X_judge 2 rfl) ?_
  refine lv_bipush (v := 18) hx hb (dq tk_X_judge 3 rfl) (by decide) ?_
  refine lv_icmp_ge (tgt := 31) hx hb (dq tk_X_judge 4 rfl) (by decide) (fun c1 => ?_) (fun c1 => ?_)
  · replace hf := if_t hf c1
    refine lv_iconst (v := (-1)) hx hb (dq tk_X_judge 15 rfl) (by decide) ?_
    cases hf
    exact x_iret hc hw hr (dq tk_X_judge 16 rfl)
  · replace hf := if_f hf c1
    refine lv_iload_n hx hb (dq tk_X_judge 5 rfl) rfl (lv_at hl 1 rfl) ?_
    refine lv_iconst (v := 0) hx hb (dq tk_X_judge 6 rfl) (by decide) ?_
    refine lv_iconst (v := 2) hx hb (dq tk_X_judge 7 rfl) (by decide) ?_
    obtain ⟨r1, h8, hf⟩ := bn1_someZ hf
    refine K_X_outside hc hw wd_701 h8 (hR.mono (by decide)) ⟨Nat.zero_le _, Nat.zero_le _⟩ hl.1 (Nat.le_of_ble_eq_true rfl) (dq tk_X_judge 8 rfl) (fun H locs hw _ => ?_)
    refine lv_if_ne (tgt := 31) hx hb (dq tk_X_judge 9 rfl) (by decide) (fun c2 => ?_) (fun c2 => ?_)
    · replace hf := if_f hf c2
      refine lv_iconst (v := (-1)) hx hb (dq tk_X_judge 15 rfl) (by decide) ?_
      cases hf
      exact x_iret hc hw hr (dq tk_X_judge 16 rfl)
    · replace hf := if_t hf c2
      refine lv_iload_n hx hb (dq tk_X_judge 10 rfl) rfl (lv_at hl 2 rfl) ?_
      refine lv_iconst (v := 0) hx hb (dq tk_X_judge 11 rfl) (by decide) ?_
      refine lv_bipush (v := 99) hx hb (dq tk_X_judge 12 rfl) (by decide) ?_
      obtain ⟨r2, h13, hf⟩ := bn1_someZ hf
      refine K_X_outside hc hw wd_701 h13 (hR.mono (by decide)) ⟨Nat.zero_le _, Nat.zero_le _⟩ hl.1 (Nat.le_of_ble_eq_true rfl) (dq tk_X_judge 13 rfl) (fun H locs hw _ => ?_)
      refine lv_if_eq (tgt := 33) hx hb (dq tk_X_judge 14 rfl) (by decide) (fun c3 => ?_) (fun c3 => ?_)
      · replace hf := if_t hf c3
        refine lv_aload_n hx hb (dq tk_X_judge 17 rfl) rfl (lv_at hl 0 rfl) ?_
        refine G_X_courts hc hw wd_658 (dq tk_X_judge 18 rfl) ?_
        refine lv_iload_n hx hb (dq tk_X_judge 19 rfl) rfl (lv_at hl 1 rfl) ?_
        refine lv_iload_n hx hb (dq tk_X_judge 20 rfl) rfl (lv_at hl 2 rfl) ?_
        obtain ⟨r3, σ4, h21, hf⟩ := bnd_some hf
        refine K_Courts_addJudge hc hw wd_1016 h21 (hR.mono (by decide)) ⟨Nat.zero_le _, Nat.zero_le _⟩ hl.1 (Nat.le_of_ble_eq_true rfl) (dq tk_X_judge 21 rfl) (fun H locs hw _ => ?_)
        cases hf
        exact x_iret hc hw hr (dq tk_X_judge 22 rfl)
      · replace hf := if_f hf c3
        refine lv_iconst (v := (-1)) hx hb (dq tk_X_judge 15 rfl) (by decide) ?_
        cases hf
        exact x_iret hc hw hr (dq tk_X_judge 16 rfl)
theorem c_X_judge {N : Nat}  {x1 : Int32} {x2 : Int32} {rv : Int32} {σ' : St} {σ : St} (hf : fX_judge N x1 x2 σ = some (rv, σ')) : Ct l Z y_X_judge prog_1_method_30_code 3 (some .int) (rmo (1)) [.ref (Z.1 + 0), .int x1, .int x2] (cmb σ μ) (some (.int rv)) True (cmb σ' μ) := by
  refine x_met (by decide) (Nat.le_of_ble_eq_true rfl) (fun p e s m args below meth c ls hc hr hw hl => ?_)
  exact w_X_judge hc hr RO.self hw hl hf
theorem K_X_judge {idx : Nat} {N : Nat}  {x1 : Int32} {x2 : Int32} {rv : Int32} {σ' : St} {σ : St} (hc : Cxz p s m meth c args cc own nL Z) (hw : Wd Z (cmb σ μ) s H locs) (hl : Cond.methodLink own idx y_X_judge ∈ TB) (hf : fX_judge N x1 x2 σ = some (rv, σ')) (hR : RO R ((1) + 1)) (hcs : cells ≤ R.cells ∧ slots ≤ R.slots) (hls : ls.size = nL) (hst : (rest.map fun v => v.category).sum ≤ 8) (hdg : decode cc pc = .ok (.invokevirtual idx, 3)) (kk : ∀ (H1 : Heap) (locs1 : List Loc), Wd Z (cmb σ' μ) s H1 locs1 → True → W p l e R s m args below meth c H1 locs1 cells slots Q (F0 m (pc + 3) ls (.int rv :: rest))) : W p l e R s m args below meth c H locs cells slots Q (F0 m pc ls (.int x2 :: .int x1 :: .ref (Z.1 + 0) :: rest)) :=
  x_iv hc hw (c_X_judge hf) yv_X_judge (Nat.le_of_ble_eq_true rfl) rfl rfl hl (RO.call hR (by decide)) hcs rfl hls hst hdg rfl kk
end WALK
