/-! methods that may throw: their ends, calls of them -/
section ZROWS
variable {p : Program} {l : Launch} {e : Env} {R : Room} {s : State} {m : MethodId} {args : Array Value} {below : List Frame} {meth : Method} {c : Code} {H : Heap} {locs : List Loc} {cells slots : Nat} {Q : State → Prop}
variable {cc : ByteArray} {own : String} {nL : Nat} {Z : ZT} {τ : St} {pc : Nat} {ls : Array Slot} {rest : List Value}
def Qz (Z : ZT) (r : Option (Option Value)) (τ : St) : Array Value → State → Outcome → State → Prop := fun a st oc t => ∃ v, r = some v ∧ Qr Z v True τ a st oc t
def Xz (Z : ZT) (EC : String) (r : Option (Option Value)) (τ : St) : String → State → State → Prop := fun E st t => r = none ∧ E = EC ∧ va_P Z.2.1 wdcl (wws Z τ) t.heap ∧ va_F (fun q => Z.1 ≤ q) st t
def Cz (l : Launch) (Z : ZT) (y : MethodName) (cd : ByteArray) (nL : Nat) (ret : Option FieldType) (rm : Room) (EC : String) (av : List Value) (τ : St) (r : Option (Option Value)) (τ' : St) : Prop :=
  vx_Met l y (wsm y cd nL ret) rm (va_Pc av (Ws Z τ)) (Qz Z r τ') (Xz Z EC r τ') rm.cells rm.slots (fun q => Z.1 ≤ q)
theorem z_met {y : MethodName} {cd : ByteArray} {ret : Option FieldType} {rm : Room} {EC : String} {av : List Value} {r : Option (Option Value)} {τ' : St} (hy : plainName y.cls = true) (hn : (lg_sl av).length ≤ nL)
    (body : ∀ (p : Program) (e : Env) (s : State) (m : MethodId) (args : Array Value) (below : List Frame) (meth : Method) (c : Code) (ls : Array Slot), Cxz p s m meth c args cd y.cls nL Z → (∀ x ∈ c.exceptionTable.toList, False) → meth.sig.returnType = ret → Wd Z τ s s.heap [] → lv_has ls nL (lv_args 0 av) →
      W p l e rm s m args below meth c s.heap [] 0 0 (vx_MQ below (Qz Z r τ') (Xz Z EC r τ') args s rm.cells rm.slots (fun q => Z.1 ≤ q)) (F0 m 0 ls [])) : Cz l Z y cd nL ret rm EC av τ r τ' := by
  refine vx_ofW (cc := cd) (maxL := nL) (ret := ret) hy rfl ?_
  intro p e s m args below meth c s₁ B hml hnt hv
  obtain ⟨rfl, hP, hK, hX⟩ := hv
  have hts := atoms_spec (ws := wsm y cd nL ret) B.pre
  have hown : s.vm.findClass y.cls = some m.cls := findClass_of_methodNamed B.named
  have hl := lv_entry av hn
  rw [lg_entry_eq]
  exact body p e s m _ below meth c _ ⟨⟨B.exec, B.bytes, hml, hown, fun w h => hts w (List.mem_cons_of_mem _ h)⟩, hK, B.notSynchronized, hX⟩ hnt B.returns ⟨hP, va_S.rf⟩ hl
theorem W.mono {Q' : State → Prop} {g : JFrame} (h : ∀ t, Q t → Q' t) (k : W p l e R s m args below meth c H locs cells slots Q g) : W p l e R s m args below meth c H locs cells slots Q' g := by
  intro T hT X
  obtain ⟨t, a, b⟩ := k T hT X
  exact ⟨t, a, h t b⟩
theorem z_end {mc ms : Nat} {v : Option Value} {g : JFrame} {XC : String → State → State → Prop} (hc : cells ≤ mc) (hs : slots ≤ ms) (k : W p l e R s m args below meth c H locs mc ms (MQ below (Qr Z v True τ) args s mc ms (fun q => Z.1 ≤ q)) g) : W p l e R s m args below meth c H locs cells slots (vx_MQ below (Qz Z (some v) τ) XC args s mc ms (fun q => Z.1 ≤ q)) g := by
  refine W.widen hc hs (vx_ret (W.mono (fun t h => ?_) k))
  obtain ⟨o, h1, h2, h3, h4⟩ := h
  exact ⟨o, h1, h2, ⟨v, rfl, h3⟩, h4⟩
/-- out of a call that threw: on to the caller -/
theorem z_out {mc ms : Nat} {E EC : String} {ce : Cell} {q : Addr} {v : Option Value} (hc : Cxz p s m meth c args cc own nL Z) (hw : Wd Z τ s H locs) (hnt : ∀ x ∈ c.exceptionTable.toList, False) (hE : E = EC) (hcell : H[q]? = some ce) (hv : ce.vm = .none) (hcl : s.vm.findClass E = some ce.cls) (h1 : cells ≤ mc) (h2 : slots ≤ ms) :
    vx_W p l e R s m args below meth c H locs cells slots (vx_MQ below (Qz Z none τ) (Xz Z EC none τ) args s mc ms (fun q => Z.1 ≤ q)) (F0 m pc ls rest) q :=
  vx_out (fun x hx => (hnt x hx).elim) hc.2.2.1 hcell hv hcl (fun t ht _ => ⟨rfl, hE, by rw [ht]; exact hw.1, hw.2.F ht⟩) hw.2.2.2 h1 h2
theorem x_callz {mc ms : Nat} {r : Option (Option Value)} {EC : String} {τ' : St} {a : Array Value} {st0 : List Value} (hr : vx_Run p l e R s m args below meth c H locs cells slots mc ms (F0 m pc ls st0) rest (Qz Z r τ' a) (Xz Z EC r τ') (fun q => Z.1 ≤ q)) (hw : Wd Z τ s H locs)
    (kx : r = none → ∀ (ce : Cell) (q : Addr) (H1 : Heap) (locs1 : List Loc), Wd Z τ' s H1 locs1 → H1[q]? = some ce → ce.vm = .none → s.vm.findClass EC = some ce.cls → vx_W p l e R s m args below meth c H1 locs1 (cells + mc) (slots + ms) Q (F0 m pc ls rest) q)
    (kk : ∀ v, r = some v → ∀ (H1 : Heap) (locs1 : List Loc), Wd Z τ' s H1 locs1 → W p l e R s m args below meth c H1 locs1 (cells + mc) (slots + ms) Q (F0 m (pc + 3) ls (v.toList ++ rest))) : W p l e R s m args below meth c H locs cells slots Q (F0 m pc ls st0) := by
  intro T hT X
  have hS := hw.2
  rcases hr T hT X with ⟨v', st₀, t, T', L, h0, X', hL, e1, e2, ⟨v, hrv, hv, -, hp, hz, hk⟩, st⟩ | ⟨q, st₀, t, T', L, E, ce, h0, X', hL, e1, e2, ⟨hrn, rfl, hp, hz, hk⟩, hce, hcv, hcl, st⟩
  · cases hv
    rw [h0] at hz hk
    obtain ⟨t2, a1, b1⟩ := kk _ hrv T'.heap (locs ++ L) ⟨by rw [e1]; exact hp, Nat.le_trans hS.1 (by rw [e1]; exact hz), fun q h1 h2 => by rw [e1, hk q (Nat.lt_of_lt_of_le h1 hS.1) h2]; exact hS.2.1 q h1 h2, fun q hq => by
      rcases List.mem_append.mp hq with h | h
      · exact hS.2.2 q h
      · exact hL q h⟩ T' rfl X'
    exact ⟨t2, st t2 a1, b1⟩
  · rw [h0] at hz hk
    obtain ⟨t2, a1, b1⟩ := kx hrn ce q T'.heap (locs ++ L) ⟨by rw [e1]; exact hp, Nat.le_trans hS.1 (by rw [e1]; exact hz), fun q h1 h2 => by rw [e1, hk q (Nat.lt_of_lt_of_le h1 hS.1) h2]; exact hS.2.1 q h1 h2, fun q hq => by
      rcases List.mem_append.mp hq with h | h
      · exact hS.2.2 q h
      · exact hL q h⟩ (by rw [e1]; exact hce) hcv hcl T' rfl X'
    exact ⟨t2, st.trans a1, b1⟩
theorem z_iv {y : MethodName} {cd : ByteArray} {nL' n idx id ci N : Nat} {ret : Option FieldType} {rm : Room} {EC : String} {As : List Value} {r : Option (Option Value)} {τ' : St} {sl : List sD} {T : u_T} (hc : Cxz p s m meth c args cc own nL Z) (hw : Wd Z τ s H locs) (hM : Cz l Z y cd nL' ret rm EC (.ref (Z.1 + id) :: As) τ r τ') (hy : Yv y cd nL' ret n) (hid : id < NTOT) (hd : wdesc id = .inl (ci, sl)) (hcl : wdcl[ci]? = some (y.cls, T, N))
    (hl : Cond.methodLink own idx y ∈ TB) (hR : rm.frames + 1 ≤ R.frames ∧ 8 + (nL' + 11) + rm.locals ≤ R.locals) (hf : cells + rm.cells ≤ R.cells ∧ slots + rm.slots ≤ R.slots) (hn : As.length = n) (hls : ls.size = nL) (hst : (rest.map fun v => v.category).sum ≤ 8) (hdg : decode cc pc = .ok (.invokevirtual idx, 3)) {st0 : List Value} (hst0 : st0 = As.reverse ++ .ref (Z.1 + id) :: rest)
    (kx : r = none → ∀ (ce : Cell) (q : Addr) (H1 : Heap) (locs1 : List Loc), Wd Z τ' s H1 locs1 → H1[q]? = some ce → ce.vm = .none → s.vm.findClass EC = some ce.cls → vx_W p l e R s m args below meth c H1 locs1 (cells + rm.cells) (slots + rm.slots) Q (F0 m pc ls rest) q)
    (kk : ∀ v, r = some v → ∀ (H1 : Heap) (locs1 : List Loc), Wd Z τ' s H1 locs1 → W p l e R s m args below meth c H1 locs1 (cells + rm.cells) (slots + rm.slots) Q (F0 m (pc + 3) ls (v.toList ++ rest))) : W p l e R s m args below meth c H locs cells slots Q (F0 m pc ls st0) := by
  obtain ⟨⟨y1, y2, y3, y4⟩, y5, y6, y7⟩ := hy
  have hG : GoodIn TB (wsV own idx y.cls y (wsm y cd nL' ret)) := by
    intro w hw
    simp only [wsV, List.mem_append, List.mem_cons, List.not_mem_nil, or_false] at hw
    rcases hw with (rfl | rfl | rfl | rfl) | (rfl | h)
    · exact tb_in hl
    · exact tb_in y1
    · exact tb_in y2
    · exact tb_in y3
    · exact tb_in y4
    · exact tb_in h
  have he : (wws Z τ)[id]? = some (Z.1 + id, .inr (ci, sl.map (svz Z τ))) := by rw [wws_get Z τ hid, hd]; rfl
  exact x_callz (vx_runV (As := As) (rest := rest) (C := y.cls) hc.1 hM (cwV n hc.ht hG rfl rfl rfl ⟨rfl, y5, y6, y7⟩ hR) ⟨Ws.blind, va_recv hc.hk hw.1 hcl he, fun U hU hW => ⟨rfl, Ws.of hc hw U hU hW⟩⟩ rfl hn hls hst0 (lv_room hst) hdg hf) hw kx kk
theorem z_is {y : MethodName} {cd : ByteArray} {nL' n idx : Nat} {ret : Option FieldType} {rm : Room} {EC : String} {As : List Value} {r : Option (Option Value)} {τ' : St} (hc : Cxz p s m meth c args cc own nL Z) (hw : Wd Z τ s H locs) (hM : Cz l Z y cd nL' ret rm EC As τ r τ') (hy : Ys y cd nL' ret n)
    (hl : Cond.methodLink own idx y ∈ TB) (hR : rm.frames + 1 ≤ R.frames ∧ 8 + (nL' + 11) + rm.locals ≤ R.locals) (hf : cells + rm.cells ≤ R.cells ∧ slots + rm.slots ≤ R.slots) (hn : As.length = n) (hls : ls.size = nL) (hst : (rest.map fun v => v.category).sum ≤ 8) (hdg : decode cc pc = .ok (.invokestatic idx, 3)) {st0 : List Value} (hst0 : st0 = As.reverse ++ rest)
    (kx : r = none → ∀ (ce : Cell) (q : Addr) (H1 : Heap) (locs1 : List Loc), Wd Z τ' s H1 locs1 → H1[q]? = some ce → ce.vm = .none → s.vm.findClass EC = some ce.cls → vx_W p l e R s m args below meth c H1 locs1 (cells + rm.cells) (slots + rm.slots) Q (F0 m pc ls rest) q)
    (kk : ∀ v, r = some v → ∀ (H1 : Heap) (locs1 : List Loc), Wd Z τ' s H1 locs1 → W p l e R s m args below meth c H1 locs1 (cells + rm.cells) (slots + rm.slots) Q (F0 m (pc + 3) ls (v.toList ++ rest))) : W p l e R s m args below meth c H locs cells slots Q (F0 m pc ls st0) := by
  obtain ⟨⟨y1, y3, y4⟩, y5, y6, y7⟩ := hy
  have hG : GoodIn TB (wsm y cd nL' ret) := by
    intro w hw
    rcases List.mem_cons.mp hw with rfl | h
    · exact tb_in y4
    · exact tb_in h
  exact x_callz (vx_runS (As := As) (rest := rest) hc.1 hM ⟨callB_of n hc.ht hG rfl rfl rfl (hc.ht _ y3) (hc.ht _ hl) ⟨y5, y6, y7⟩ hR, hc.ht _ y1⟩ ⟨Ws.blind, fun U hU hW => ⟨rfl, Ws.of hc hw U hU hW⟩⟩ rfl hn hls hst0 (lv_room hst) hdg hf) hw kx kk
/-- the words of 'throw new E()' -/
def exN : List Cond := vx_at0 "LabourExchange" 217 "java/util/NoSuchElementException" ["java/lang/RuntimeException", "java/lang/Exception"]
def exI : List Cond := vx_at0 "LabourExchange" 220 "java/lang/IllegalArgumentException" ["java/lang/RuntimeException", "java/lang/Exception"]
theorem exN_in : ∀ w ∈ exN, w ∈ lw_tbl := by decide +kernel
theorem exI_in : ∀ w ∈ exI, w ∈ lw_tbl := by decide +kernel
theorem exN_g : ∀ w ∈ exN, goodWord w = true ∨ w = .castable "java/util/NoSuchElementException" "java/util/NoSuchElementException" ∨ w = .declares ⟨"java/lang/RuntimeException", "<init>", "()V"⟩ ∨ w = .declares ⟨"java/lang/Exception", "<init>", "()V"⟩ ∨ w = .declares ⟨"java/lang/Throwable", "<init>", "()V"⟩ := by decide +kernel
theorem exI_g : ∀ w ∈ exI, goodWord w = true ∨ w = .castable "java/lang/IllegalArgumentException" "java/lang/IllegalArgumentException" ∨ w = .declares ⟨"java/lang/RuntimeException", "<init>", "()V"⟩ ∨ w = .declares ⟨"java/lang/Exception", "<init>", "()V"⟩ ∨ w = .declares ⟨"java/lang/Throwable", "<init>", "()V"⟩ := by decide +kernel
theorem exN_ot : ∀ w ∈ Cond.classLink "LabourExchange" 215 "java/util/NoSuchElementException" :: Cond.initialized "java/util/NoSuchElementException" :: exN, vx_ot w = true := by decide +kernel
theorem exI_ot : ∀ w ∈ Cond.classLink "LabourExchange" 218 "java/lang/IllegalArgumentException" :: Cond.initialized "java/lang/IllegalArgumentException" :: exI, vx_ot w = true := by decide +kernel
theorem z_xw {XC : String} (hc : Cxz p s m meth c args cc own nL Z) (hw : Wd Z τ s H locs) : ∀ t : State, s.vm.Alike t.vm → H.size ≤ t.heap.size → (∀ q : Nat, q < H.size → t.heap[q]? = H[q]?) → Xz Z XC none τ XC s t := by
  intro t _ hz hq
  have hS := hw.2
  refine ⟨rfl, rfl, hw.1.kept (fun k q hk => hq _ (hw.1 k q hk).lt), Nat.le_trans hS.1 hz, fun q h1 h2 => ?_⟩
  rw [hq q (Nat.lt_of_lt_of_le h1 hS.1)]
  exact hS.2.1 q h1 h2
theorem z_throwN {mc ms : Nat} (hc : Cxz p s m meth c args cc "LabourExchange" nL Z) (hw : Wd Z τ s H locs) (hnt : ∀ x ∈ c.exceptionTable.toList, False) (hst : l.stackTraces = false) (hls : ls.size = nL)
    (d0 : decode cc pc = .ok (.new 215, 3)) (d3 : decode cc (pc + 3) = .ok (.dup, 1)) (d4 : decode cc (pc + 4) = .ok (.invokespecial 217, 3)) (d7 : decode cc (pc + 7) = .ok (.athrow, 1)) (hR : RO R 6) (h1 : cells + 1 ≤ R.cells) (h2 : slots + 6 ≤ R.slots) (h3 : cells + 1 ≤ mc) (h4 : slots + 6 ≤ ms) :
    W p l e R s m args below meth c H locs cells slots (vx_MQ below (Qz Z none τ) (Xz Z "java/util/NoSuchElementException" none τ) args s mc ms (fun q => Z.1 ≤ q)) (F0 m pc ls []) := by
  have hat : ∀ w ∈ exN, w.before args s = true := fun w h => by
    rcases exN_g w h with g | rfl | rfl | rfl | rfl
    · exact hc.ht w (List.mem_filter.mpr ⟨exN_in w h, g⟩)
    · exact va_Nw.use rfl hc.2.2.2.a9
    · exact va_Nw.use rfl hc.2.2.2.a11
    · exact va_Nw.use rfl hc.2.2.2.a12
    · exact va_Nw.use rfl hc.2.2.2.a13
  have hk : (Cond.classLink "LabourExchange" 215 "java/util/NoSuchElementException").before args s = true := hc.ht _ (List.mem_filter.mpr ⟨by decide +kernel, by decide +kernel⟩)
  have hi : (Cond.initialized "java/util/NoSuchElementException").before args s = true := hc.ht _ (List.mem_filter.mpr ⟨by decide +kernel, by decide +kernel⟩)
  exact vx_throw0 (names := ["java/lang/RuntimeException", "java/lang/Exception"]) hc.hx hc.hb hst hc.ho (by decide +kernel) (by decide +kernel) hk hi hat exN_ot hc.2.2.2.a7 hc.2.2.2.a8 hw.2 (hls.trans hc.1.2.2.1.symm) d0 d3 d4 d7 (fun x hx => (hnt x hx).elim) (Nat.lt_of_lt_of_le (by decide) hR.1) (Nat.le_trans (by decide) hR.2) h1 h2 hc.2.2.1 (z_xw hc hw) hw.2.2.2 h3 h4
theorem z_throwI {mc ms : Nat} (hc : Cxz p s m meth c args cc "LabourExchange" nL Z) (hw : Wd Z τ s H locs) (hnt : ∀ x ∈ c.exceptionTable.toList, False) (hst : l.stackTraces = false) (hls : ls.size = nL)
    (d0 : decode cc pc = .ok (.new 218, 3)) (d3 : decode cc (pc + 3) = .ok (.dup, 1)) (d4 : decode cc (pc + 4) = .ok (.invokespecial 220, 3)) (d7 : decode cc (pc + 7) = .ok (.athrow, 1)) (hR : RO R 6) (h1 : cells + 1 ≤ R.cells) (h2 : slots + 6 ≤ R.slots) (h3 : cells + 1 ≤ mc) (h4 : slots + 6 ≤ ms) :
    W p l e R s m args below meth c H locs cells slots (vx_MQ below (Qz Z none τ) (Xz Z "java/lang/IllegalArgumentException" none τ) args s mc ms (fun q => Z.1 ≤ q)) (F0 m pc ls []) := by
  have hat : ∀ w ∈ exI, w.before args s = true := fun w h => by
    rcases exI_g w h with g | rfl | rfl | rfl | rfl
    · exact hc.ht w (List.mem_filter.mpr ⟨exI_in w h, g⟩)
    · exact va_Nw.use rfl hc.2.2.2.a10
    · exact va_Nw.use rfl hc.2.2.2.a11
    · exact va_Nw.use rfl hc.2.2.2.a12
    · exact va_Nw.use rfl hc.2.2.2.a13
  have hk : (Cond.classLink "LabourExchange" 218 "java/lang/IllegalArgumentException").before args s = true := hc.ht _ (List.mem_filter.mpr ⟨by decide +kernel, by decide +kernel⟩)
  have hi : (Cond.initialized "java/lang/IllegalArgumentException").before args s = true := hc.ht _ (List.mem_filter.mpr ⟨by decide +kernel, by decide +kernel⟩)
  exact vx_throw0 (names := ["java/lang/RuntimeException", "java/lang/Exception"]) hc.hx hc.hb hst hc.ho (by decide +kernel) (by decide +kernel) hk hi hat exI_ot hc.2.2.2.a7 hc.2.2.2.a8 hw.2 (hls.trans hc.1.2.2.1.symm) d0 d3 d4 d7 (fun x hx => (hnt x hx).elim) (Nat.lt_of_lt_of_le (by decide) hR.1) (Nat.le_trans (by decide) hR.2) h1 h2 hc.2.2.1 (z_xw hc hw) hw.2.2.2 h3 h4
theorem btW_some {α β : Type} {x : Option (Option α × St)} {k : α → St → Option (Option β × St)} {y : Option β × St} (h : btW x k = some y) : ∃ q σ, x = some (q, σ) ∧ ((q = none ∧ y = (none, σ)) ∨ ∃ r, q = some r ∧ k r σ = some y) := by
  unfold btW at h
  cases x with
  | none => cases h
  | some q =>
    obtain ⟨q, σ⟩ := q
    cases q with
    | none => cases h; exact ⟨none, σ, rfl, Or.inl ⟨rfl, rfl⟩⟩
    | some r => exact ⟨some r, σ, rfl, Or.inr ⟨r, rfl, h⟩⟩
theorem btR_some {α β : Type} {x : Option (Option α)} {σ : St} {k : α → Option (Option β × St)} {y : Option β × St} (h : btR x σ k = some y) : ∃ q, x = some q ∧ ((q = none ∧ y = (none, σ)) ∨ ∃ r, q = some r ∧ k r = some y) := by
  unfold btR at h
  cases x with
  | none => cases h
  | some q =>
    cases q with
    | none => cases h; exact ⟨none, rfl, Or.inl ⟨rfl, rfl⟩⟩
    | some r => exact ⟨some r, rfl, Or.inr ⟨r, rfl, h⟩⟩
theorem btO_some {α β : Type} {x : Option (Option α)} {k : α → Option (Option β)} {y : Option β} (h : btO x k = some y) : ∃ q, x = some q ∧ ((q = none ∧ y = none) ∨ ∃ r, q = some r ∧ k r = some y) := by
  unfold btO at h
  cases x with
  | none => cases h
  | some q =>
    cases q with
    | none => cases h; exact ⟨none, rfl, Or.inl ⟨rfl, rfl⟩⟩
    | some r => exact ⟨some r, rfl, Or.inr ⟨r, rfl, h⟩⟩
theorem x_metF {y : MethodName} {cd : ByteArray} {ret : Option FieldType} {rm : Room} {av : List Value} {v : Option Value} {bd : Prop} {τ' : St} (hy : plainFor y = true) (hn : (lg_sl av).length ≤ nL)
    (body : ∀ (p : Program) (e : Env) (s : State) (m : MethodId) (args : Array Value) (below : List Frame) (meth : Method) (c : Code) (ls : Array Slot), Cxz p s m meth c args cd y.cls nL Z → meth.sig.returnType = ret → Wd Z τ s s.heap [] → lv_has ls nL (lv_args 0 av) →
      W p l e rm s m args below meth c s.heap [] 0 0 (MQ below (Qr Z v bd τ') args s rm.cells rm.slots (fun q => Z.1 ≤ q)) (F0 m 0 ls [])) : Ct l Z y cd nL ret rm av τ v bd τ' := by
  unfold Ct Met
  refine MetFree.of_bodySF (code := cd) (maxLocals := nL) (ret := ret) hy ?_ ?_
  · intro args s m h hm
    obtain ⟨meth, c, h1, h2, h3, h4, h5, h6, -, -⟩ := Cond.code_spec hm (atoms_spec (ws := wsm y cd nL ret) h _ List.mem_cons_self)
    exact ⟨meth, c, h1, h2, h3, h4, h5, h6⟩
  · intro p e s m args below meth c s₁ B hml hv _
    have hh0 : s₁.heap = s.heap := by rw [B.state]; rfl
    obtain ⟨rfl, hP, hK, hX⟩ := hv
    have hts := atoms_spec (ws := wsm y cd nL ret) B.pre
    have hown : s.vm.findClass y.cls = some m.cls := findClass_of_methodNamed B.named
    have hl := lv_entry av hn
    have hb := body p e s m av.toArray below meth c _ ⟨⟨B.exec, B.bytes, hml, hown, fun w h => hts w (List.mem_cons_of_mem _ h)⟩, hK, B.notSynchronized, hX⟩ B.returns ⟨hP, va_S.rf⟩ hl
    rw [← lg_entry_eq] at hb
    obtain ⟨t, a1, o, b1, b2, b3⟩ := hb s₁ hh0 (Stand.of_body B)
    exact ⟨t, o, a1, b1, b2, ⟨b3.1, b3.2⟩⟩
end ZROWS
theorem lk_n {x k : Int32} {a : Int} (h : ¬ x = k) (hk : k.toInt = a) : ¬ a = x.toInt := fun q => h (Int32.toInt_inj.mp (by rw [hk]; exact q.symm))
theorem lk_step {a o d k off : Int} {r : List (Int × Int)} (h : ¬ a = k) (h2 : Op.lookupswitch.offset r d k = off) : Op.lookupswitch.offset ((a, o) :: r) d k = off := (if_neg h).trans h2
