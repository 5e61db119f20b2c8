/-! the law's helpers: static methods with a table of their own, that return -/
abbrev Yw (y : MethodName) (cd : ByteArray) (nL : Nat) (hh : List (Nat × Nat × Nat × Nat)) (n : Nat) : Prop := (Cond.static y ∈ TB ∧ Cond.initialized y.cls ∈ TB ∧ Cond.codeWith y cd nL (some .int) hh ∈ TB) ∧ y.cls ≠ "java/lang/invoke/MethodHandle" ∧ y.cls ≠ "java/lang/invoke/VarHandle" ∧ (parseMethodDescriptor y.desc).map (fun d => d.parameters.length) = some n
abbrev wslh (y : MethodName) (cd : ByteArray) (nL : Nat) (hh : List (Nat × Nat × Nat × Nat)) : List Cond := .codeWith y cd nL (some .int) hh :: TB
def Clz (l : Launch) (Z : ZT) (y : MethodName) (cd : ByteArray) (nL : Nat) (hh : List (Nat × Nat × Nat × Nat)) (rm : Room) (av : List Value) (τ : St) (v : Int32) (τ' : St) : Prop :=
  Met l y (wslh y cd nL hh) rm (va_Pc av (Ws Z τ)) (Qr Z (some (.int v)) True τ') rm.cells rm.slots (fun q => Z.1 ≤ q)
section LROWS
variable {p : Program} {l : Launch} {e : Env} {R : Room} {s : State} {m : MethodId} {args : Array Value} {below : List Frame} {meth : Method} {c : Code} {H : Heap} {locs : List Loc} {cells slots : Nat} {Q : State → Prop}
variable {cc : ByteArray} {own : String} {nL : Nat} {Z : ZT} {τ : St} {pc : Nat} {ls : Array Slot} {rest : List Value}
theorem l_met {y : MethodName} {cd : ByteArray} {hh : List (Nat × Nat × Nat × Nat)} {rm : Room} {av : List Value} {v : Int32} {τ' : St} (hy : plainName y.cls = true) (hn : (lg_sl av).length ≤ nL)
    (body : ∀ (p : Program) (e : Env) (s : State) (m : MethodId) (args : Array Value) (below : List Frame) (meth : Method) (c : Code) (ls : Array Slot), Cxz p s m meth c args cd y.cls nL Z → c.exceptionTable.toList = tableOf hh → meth.sig.returnType = some .int → Wd Z τ s s.heap [] → lv_has ls nL (lv_args 0 av) →
      W p l e rm s m args below meth c s.heap [] 0 0 (MQ below (Qr Z (some (.int v)) True τ') args s rm.cells rm.slots (fun q => Z.1 ≤ q)) (F0 m 0 ls [])) : Clz l Z y cd nL hh rm av τ v τ' := by
  unfold Clz Met
  refine MetFree.of_bodyS (code := cd) (maxLocals := nL) (ret := some .int) hy ?_ ?_
  · intro args s m h hn
    obtain ⟨m9, meth, c, hn9, h1, h2, h3, h4, -, h5, h6, -⟩ := Cond.codeWith_spec (atoms_spec (ws := wslh y cd nL hh) h _ List.mem_cons_self)
    cases hn.symm.trans hn9
    exact ⟨meth, c, h1, h2, h3, h4, h5, h6⟩
  · intro p e s m args below meth c s₁ B hml hv _
    have hh0 : s₁.heap = s.heap := by rw [B.state]; rfl
    obtain ⟨rfl, hP, hK, hX⟩ := hv
    have hts := atoms_spec (ws := wslh y cd nL hh) B.pre
    have hown : s.vm.findClass y.cls = some m.cls := findClass_of_methodNamed B.named
    have hl := lv_entry av hn
    have hb := body p e s m av.toArray below meth c _ ⟨⟨B.exec, B.bytes, hml, hown, fun w h => hts w (List.mem_cons_of_mem _ h)⟩, hK, B.notSynchronized, hX⟩ (vx_table (x := y) B (hts _ List.mem_cons_self)) B.returns ⟨hP, va_S.rf⟩ hl
    rw [← lg_entry_eq] at hb
    obtain ⟨t, a1, o, b1, b2, b3⟩ := hb s₁ hh0 (Stand.of_body B)
    exact ⟨t, o, a1, b1, b2, ⟨b3.1, b3.2⟩⟩
theorem l_is {y : MethodName} {cd : ByteArray} {hh : List (Nat × Nat × Nat × Nat)} {nL' n idx : Nat} {rm : Room} {As : List Value} {v : Int32} {τ' : St} (hc : Cxz p s m meth c args cc own nL Z) (hw : Wd Z τ s H locs) (hM : Clz l Z y cd nL' hh rm As τ v τ') (hy : Yw y cd nL' hh n)
    (hl : Cond.methodLink own idx y ∈ TB) (hR : rm.frames + 1 ≤ R.frames ∧ 8 + (nL' + 11) + rm.locals ≤ R.locals) (hf : cells + rm.cells ≤ R.cells ∧ slots + rm.slots ≤ R.slots) (hn : As.length = n) (hls : ls.size = nL) (hst : (rest.map fun v => v.category).sum ≤ 8) (hdg : decode cc pc = .ok (.invokestatic idx, 3)) {st0 : List Value} (hst0 : st0 = As.reverse ++ rest)
    (kk : ∀ (H1 : Heap) (locs1 : List Loc), Wd Z τ' s H1 locs1 → W p l e R s m args below meth c H1 locs1 (cells + rm.cells) (slots + rm.slots) Q (F0 m (pc + 3) ls (.int v :: rest))) : W p l e R s m args below meth c H locs cells slots Q (F0 m pc ls st0) := by
  obtain ⟨⟨y1, y3, y4⟩, y5, y6, y7⟩ := hy
  have hG : GoodIn TB (va_wsS own idx y (wslh y cd nL' hh)) := by
    intro w hw
    simp only [va_wsS, List.mem_append, List.mem_cons, List.not_mem_nil, or_false] at hw
    rcases hw with (rfl | rfl | rfl) | (rfl | h)
    · exact tb_in hl
    · exact tb_in y1
    · exact tb_in y3
    · exact tb_in y4
    · exact tb_in h
  exact x_call (vx_runSW (As := As) (rest := rest) hc.1 hM (vx_cwSW n hc.ht hG rfl rfl rfl ⟨y5, y6, y7⟩ hR) ⟨Ws.blind, fun U hU hW => ⟨rfl, Ws.of hc hw U hU hW⟩⟩ rfl hn hls hst0 (lv_room hst) hdg hf) hw (fun H1 locs1 h1 _ => kk H1 locs1 h1)
/-- caught by the one row of the table -/
theorem l_catch {E name : String} {ce : Cell} {q : Addr} {a b h t : Nat} (hc : Cxz p s m meth c args cc own nL Z) (htb : c.exceptionTable.toList = tableOf [(a, b, h, t)]) (hcov : ∀ x, tableOf [(a, b, h, t)] = [x] → covers x pc = true ∧ x.catchType = t ∧ x.handlerPc = h) (ht0 : t ≠ 0)
    (hlink : Cond.classLink own t name ∈ TB) (hcast : (Cond.castable E name).before args s = true) (hcell : H[q]? = some ce) (hv : ce.vm = .none) (hcl : s.vm.findClass E = some ce.cls)
    (kk : W p l e R s m args below meth c H locs cells slots Q (F0 m h ls [.ref q])) : vx_W p l e R s m args below meth c H locs cells slots Q (F0 m pc ls rest) q := by
  obtain ⟨x, hx⟩ : ∃ x, tableOf [(a, b, h, t)] = [x] := ⟨_, rfl⟩
  obtain ⟨g1, g2, g3⟩ := hcov x hx
  refine vx_catch (name := name) hc.ho [] x [] (by rw [htb, hx]; rfl) (fun z hz => by cases hz) g1 (by rw [g2]; exact ht0) (by rw [g2]; exact hc.ht _ hlink) hcast hcell hv hcl ?_
  rw [g3]
  exact kk
/-- the law's own row of one long -/
theorem l_last {σ μ : St} (hc : Cxz p s m meth c args cc own nL Z) (hw : Wd Z (cmb σ μ) s H locs) {x : Int64} (hdg : decode cc pc = .ok (.lastore, 1))
    (kk : ∀ (H1 : Heap) (locs1 : List Loc), Wd Z (cmb (sJ σ 164 0 0 0 x) μ) s H1 locs1 → W p l e R s m args below meth c H1 locs1 cells slots Q (F0 m (pc + 1) ls rest)) : W p l e R s m args below meth c H locs cells slots Q (F0 m pc ls (.long x :: .int 0 :: .ref (Z.1 + 674) :: rest)) :=
  x_last hc hw (n := 1) (f := 164) (a := 0) (b := 0) (Nat.le_of_ble_eq_true rfl) rfl (by decide) (by rw [← cmb_J (by decide)]; rfl) hdg kk
theorem l_lald {σ μ : St} (hc : Cxz p s m meth c args cc own nL Z) (hw : Wd Z (cmb σ μ) s H locs) {v : Int64} (hv : σ.2 164 0 0 0 = v) (hdg : decode cc pc = .ok (.laload, 1))
    (kk : W p l e R s m args below meth c H locs cells slots Q (F0 m (pc + 1) ls (.long v :: rest))) : W p l e R s m args below meth c H locs cells slots Q (F0 m pc ls (.int 0 :: .ref (Z.1 + 674) :: rest)) :=
  x_lald hc hw (n := 1) (f := 164) (a := 0) (b := 0) (Nat.le_of_ble_eq_true rfl) rfl (by decide) hv hdg kk
theorem sJ_at {σ : St} {f a b i : Nat} {x : Int64} : (sJ σ f a b i x).2 f a b i = x := if_pos ⟨rfl, rfl, rfl, rfl⟩
/-- an int of the script -/
theorem l_sld {b L : Nat} {xs : Nat → Int32} (hc : Cxz p s m meth c args cc own nL Z) (hw : Wd Z τ s H locs) (hX : va_X b L xs s s.heap) (hbl : b < s.heap.size) (hbZ : b < Z.1) {k : Nat} {a i : Int32} (hi : i = nI k) (hk : k < L) (hL : L ≤ 3072) (ha : xs k = a) (hdg : decode cc pc = .ok (.iaload, 1))
    (kk : W p l e R s m args below meth c H locs cells slots Q (F0 m (pc + 1) ls (.int a :: rest))) : W p l e R s m args below meth c H locs cells slots Q (F0 m pc ls (.int i :: .ref b :: rest)) := by
  subst hi
  subst ha
  refine va_sld hc.hx hc.hb hX hbl (A := fun q => Z.1 ≤ q) (by omega) hw.2 (nI_in hk (by omega)) hdg ?_
  rw [nI_clamp (by omega)]
  exact kk
theorem lg_cmp_self {x : Int64} : lg_cmp x x = 0 := by
  unfold lg_cmp
  simp
end LROWS
