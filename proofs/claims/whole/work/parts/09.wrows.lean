/-! the rows of this claim's world: reads, writes, ends, calls, over the state of numbers -/
def strLen : List Nat := [4, 3, 4, 4, 3, 5, 5, 5, 3, 5, 5, 3, 4, 6, 7, 5, 6, 5, 4, 4, 53, 69, 41, 6, 3, 3, 5, 3, 4, 4, 3, 3, 2, 6]
def strByt : List (List Int32) := [[119, 97, 105, 116], [103, 97, 112], [114, 97, 116, 101], [100, 97, 121, 115], [112, 101, 114], [101, 120, 116, 114, 97], [115, 116, 97, 109, 112], [99, 111, 117, 114, 116], [97, 103, 101], [116, 114, 97, 100, 101], [117, 115, 117, 97, 108], [111, 117, 116], [112, 97, 105, 100], [115, 116, 97, 109, 112, 115], [117, 110, 107, 110, 111, 119, 110], [109, 101, 97, 110, 115], [114, 101, 97, 115, 111, 110], [109, 105, 108, 101, 115], [119, 97, 103, 101], [115, 97, 109, 101], [105, 110, 115, 117, 114, 101, 32, 115, 101, 116, 32, 112, 97, 121, 32, 110, 101, 101, 100, 121, 32, 98, 97, 114, 32, 115, 117, 105, 116, 32, 108, 105, 107, 101, 32, 117, 110, 108, 101, 115, 115, 32, 111, 114, 32, 97, 110, 100, 32, 110, 111, 116, 32], [97, 103, 101, 32, 116, 114, 97, 100, 101, 32, 117, 115, 117, 97, 108, 32, 111, 117, 116, 32, 112, 97, 105, 100, 32, 115, 116, 97, 109, 112, 115, 32, 117, 110, 107, 110, 111, 119, 110, 32, 109, 101, 97, 110, 115, 32, 114, 101, 97, 115, 111, 110, 32, 109, 105, 108, 101, 115, 32, 119, 97, 103, 101, 32, 115, 97, 109, 101, 32], [119, 97, 105, 116, 32, 103, 97, 112, 32, 114, 97, 116, 101, 32, 100, 97, 121, 115, 32, 112, 101, 114, 32, 101, 120, 116, 114, 97, 32, 115, 116, 97, 109, 112, 32, 99, 111, 117, 114, 116, 32], [105, 110, 115, 117, 114, 101], [115, 101, 116], [112, 97, 121], [110, 101, 101, 100, 121], [98, 97, 114], [115, 117, 105, 116], [108, 105, 107, 101], [110, 111, 116], [97, 110, 100], [111, 114], [117, 110, 108, 101, 115, 115]]
def strRefs : List (String × Nat × String × Nat) := [("LabourExchange$Reader", 163, "insure set pay needy bar suit like unless or and not ", 20), ("LabourExchange$Reader", 169, "age trade usual out paid stamps unknown means reason miles wage same ", 21), ("LabourExchange$Reader", 171, "wait gap rate days per extra stamp court ", 22), ("LabourExchangeModel", 11, "wait", 0), ("LabourExchangeModel", 13, "gap", 1), ("LabourExchangeModel", 15, "rate", 2), ("LabourExchangeModel", 17, "days", 3), ("LabourExchangeModel", 19, "per", 4), ("LabourExchangeModel", 21, "extra", 5), ("LabourExchangeModel", 23, "stamp", 6), ("LabourExchangeModel", 25, "court", 7), ("LabourExchangeModel", 31, "age", 8), ("LabourExchangeModel", 33, "trade", 9), ("LabourExchangeModel", 35, "usual", 10), ("LabourExchangeModel", 37, "out", 11), ("LabourExchangeModel", 39, "paid", 12), ("LabourExchangeModel", 41, "stamps", 13), ("LabourExchangeModel", 43, "unknown", 14), ("LabourExchangeModel", 45, "means", 15), ("LabourExchangeModel", 47, "reason", 16), ("LabourExchangeModel", 49, "miles", 17), ("LabourExchangeModel", 51, "wage", 18), ("LabourExchangeModel", 53, "same", 19), ("LabourExchangeModel", 547, "insure", 23), ("LabourExchangeModel", 549, "set", 24), ("LabourExchangeModel", 551, "pay", 25), ("LabourExchangeModel", 553, "needy", 26), ("LabourExchangeModel", 555, "bar", 27), ("LabourExchangeModel", 557, "suit", 28), ("LabourExchangeModel", 559, "like", 29), ("LabourExchangeModel", 532, "not", 30), ("LabourExchangeModel", 540, "and", 31), ("LabourExchangeModel", 545, "or", 32), ("LabourExchangeModel", 567, "unless", 33)]
/-- what lies below the world: texts, a row of numbers, three statics -/
def WXz (Z : ZT) (U : State) (H : Heap) : Prop :=
  vk_S 34 strLen strByt Z.2.2.2 (fun k => Z.2.2.2 (100 + k)) (fun q => Z.1 ≤ q) U H ∧ (∀ q ∈ strRefs, vk_R q.1 q.2.1 q.2.2.1 (Z.2.2.2 q.2.2.2) U) ∧
  va_Z "LabourExchange$Law" "DEFAULTS" "[I" (.ref (Z.2.2.2 50)) (fun q => Z.1 ≤ q) U H ∧ va_T .int (Z.2.2.2 50) 8 (fun i => .int (dflts i)) (fun q => Z.1 ≤ q) U H ∧
  va_Z "java/lang/String" "COMPACT_STRINGS" "Z" (.int 1) (fun q => Z.1 ≤ q) U H ∧ va_Zq "jdk/internal/util/Preconditions" "SIOOBE_FORMATTER" "Ljava/util/function/BiFunction;" (fun q => Z.1 ≤ q) U H ∧
  vx_Zq Bundle.tN "UNASSIGNED_STACK" Bundle.steD (fun q => Z.1 ≤ q) U H ∧ vx_Zq Bundle.tN "SUPPRESSED_SENTINEL" Bundle.listD (fun q => Z.1 ≤ q) U H ∧
  va_Nw (.castable "java/util/NoSuchElementException" "java/util/NoSuchElementException") U ∧ va_Nw (.castable "java/lang/IllegalArgumentException" "java/lang/IllegalArgumentException") U ∧
  va_Nw (.declares ⟨"java/lang/RuntimeException", "<init>", "()V"⟩) U ∧ va_Nw (.declares ⟨"java/lang/Exception", "<init>", "()V"⟩) U ∧ va_Nw (.declares ⟨"java/lang/Throwable", "<init>", "()V"⟩) U
theorem WXz.go {Z : ZT} {s U : State} {H : Heap} {locs : List Loc} (h : WXz Z s s.heap) (hS : va_S (fun q => Z.1 ≤ q) s.heap H locs) (hW : s.WarmedH U.vm) : WXz Z U H := by
  obtain ⟨h1, h2, h3, h4, h5, hz, h6, h7, h8, h9, d1, d2, d3⟩ := h
  have hq : ∀ a : Nat, a < s.heap.size → ¬ Z.1 ≤ a → H[a]? = s.heap[a]? := fun a h1 h2 => hS.2.1 a h1 h2
  have hvm := hW.alike
  exact ⟨vk_S.moved hvm (vk_S.kept h1 hq), fun q hqm => vk_R.warm hW (h2 q hqm), va_Z.moved hvm (va_Z.kept h3 hq), va_T.moved hvm (va_T.kept h4 hq), va_Z.moved hvm (va_Z.kept h5 hq), va_Zq.moved hvm (va_Zq.kept hz hq), vx_Zq.moved hvm (vx_Zq.kept h6 hq), vx_Zq.moved hvm (vx_Zq.kept h7 hq), va_Nw.warmC hW h8, va_Nw.warmC hW h9, va_Nw.warmD hW d1, va_Nw.warmD hW d2, va_Nw.warmD hW d3⟩
theorem WXz.call {Z : ZT} {U : State} {H : Heap} {g : JFrame} {mk : MethodId} {a : Array Value} (h : WXz Z U H) : WXz Z (U.calling g mk a) H := by
  obtain ⟨h1, h2, h3, h4, h5, hz, h6, h7, h8, h9, d1, d2, d3⟩ := h
  have hvm : U.vm.Alike (U.calling g mk a).vm := Vm.Alike.refl U.vm
  exact ⟨vk_S.moved hvm h1, fun q hqm => vk_R.same rfl (h2 q hqm), va_Z.moved hvm h3, va_T.moved hvm h4, va_Z.moved hvm h5, va_Zq.moved hvm hz, vx_Zq.moved hvm h6, vx_Zq.moved hvm h7, va_Nw.same rfl rfl h8, va_Nw.same rfl rfl h9, va_Nw.same rfl rfl d1, va_Nw.same rfl rfl d2, va_Nw.same rfl rfl d3⟩
def Wd (Z : ZT) (τ : St) (s : State) (H : Heap) (locs : List Loc) : Prop := va_P Z.2.1 wdcl (wws Z τ) H ∧ va_S (fun q => Z.1 ≤ q) s.heap H locs
abbrev wtys (Z : ZT) : List (ClassId × FieldType) := [(Z.2.2.1 0, .int), (Z.2.2.1 1, .byte), (Z.2.2.1 2, .boolean), (Z.2.2.1 3, .long), (Z.2.2.1 4, .object "LabourExchange$Act"), (Z.2.2.1 5, .object "LabourExchange$Life"), (Z.2.2.1 6, .array .int), (Z.2.2.1 7, .object "java/lang/String")]
theorem WXz.a1 {Z : ZT} {U : State} {H : Heap} (h : WXz Z U H) : vk_S 34 strLen strByt Z.2.2.2 (fun k => Z.2.2.2 (100 + k)) (fun q => Z.1 ≤ q) U H := h.1
theorem WXz.a2 {Z : ZT} {U : State} {H : Heap} (h : WXz Z U H) : (∀ q ∈ strRefs, vk_R q.1 q.2.1 q.2.2.1 (Z.2.2.2 q.2.2.2) U) := h.2.1
theorem WXz.a3 {Z : ZT} {U : State} {H : Heap} (h : WXz Z U H) : va_Z "LabourExchange$Law" "DEFAULTS" "[I" (.ref (Z.2.2.2 50)) (fun q => Z.1 ≤ q) U H := h.2.2.1
theorem WXz.a4 {Z : ZT} {U : State} {H : Heap} (h : WXz Z U H) : va_T .int (Z.2.2.2 50) 8 (fun i => .int (dflts i)) (fun q => Z.1 ≤ q) U H := h.2.2.2.1
theorem WXz.a5 {Z : ZT} {U : State} {H : Heap} (h : WXz Z U H) : va_Z "java/lang/String" "COMPACT_STRINGS" "Z" (.int 1) (fun q => Z.1 ≤ q) U H := h.2.2.2.2.1
theorem WXz.a6 {Z : ZT} {U : State} {H : Heap} (h : WXz Z U H) : va_Zq "jdk/internal/util/Preconditions" "SIOOBE_FORMATTER" "Ljava/util/function/BiFunction;" (fun q => Z.1 ≤ q) U H := h.2.2.2.2.2.1
theorem WXz.a7 {Z : ZT} {U : State} {H : Heap} (h : WXz Z U H) : vx_Zq Bundle.tN "UNASSIGNED_STACK" Bundle.steD (fun q => Z.1 ≤ q) U H := h.2.2.2.2.2.2.1
theorem WXz.a8 {Z : ZT} {U : State} {H : Heap} (h : WXz Z U H) : vx_Zq Bundle.tN "SUPPRESSED_SENTINEL" Bundle.listD (fun q => Z.1 ≤ q) U H := h.2.2.2.2.2.2.2.1
theorem WXz.a9 {Z : ZT} {U : State} {H : Heap} (h : WXz Z U H) : va_Nw (.castable "java/util/NoSuchElementException" "java/util/NoSuchElementException") U := h.2.2.2.2.2.2.2.2.1
theorem WXz.a10 {Z : ZT} {U : State} {H : Heap} (h : WXz Z U H) : va_Nw (.castable "java/lang/IllegalArgumentException" "java/lang/IllegalArgumentException") U := h.2.2.2.2.2.2.2.2.2.1
theorem WXz.a11 {Z : ZT} {U : State} {H : Heap} (h : WXz Z U H) : va_Nw (.declares ⟨"java/lang/RuntimeException", "<init>", "()V"⟩) U := h.2.2.2.2.2.2.2.2.2.2.1
theorem WXz.a12 {Z : ZT} {U : State} {H : Heap} (h : WXz Z U H) : va_Nw (.declares ⟨"java/lang/Exception", "<init>", "()V"⟩) U := h.2.2.2.2.2.2.2.2.2.2.2.1
theorem WXz.a13 {Z : ZT} {U : State} {H : Heap} (h : WXz Z U H) : va_Nw (.declares ⟨"java/lang/Throwable", "<init>", "()V"⟩) U := h.2.2.2.2.2.2.2.2.2.2.2.2
def Cxz (p : Program) (s : State) (m : MethodId) (meth : Method) (c : Code) (args : Array Value) (cc : ByteArray) (own : String) (nL : Nat) (Z : ZT) : Prop :=
  (p.tables.exec = Jvm.exec ∧ c.code = cc ∧ c.maxLocals = nL ∧ s.vm.findClass own = some m.cls ∧ ∀ w ∈ TB, w.before args s = true) ∧ va_K Z.2.1 wdcl (wtys Z) s ∧ meth.locks = false ∧ WXz Z s s.heap
section WROWS
variable {p : Program} {l : Launch} {e : Env} {R : Room} {s : State} {m : MethodId} {args : Array Value} {below : List Frame} {meth : Method} {c : Code} {H : Heap} {locs : List Loc} {cells slots : Nat} {Q : State → Prop}
variable {cc : ByteArray} {own : String} {nL : Nat} {Z : ZT} {τ : St} {pc : Nat} {ls : Array Slot} {rest : List Value}
theorem Cxz.hx (h : Cxz p s m meth c args cc own nL Z) : p.tables.exec = Jvm.exec := h.1.1
theorem Cxz.hb (h : Cxz p s m meth c args cc own nL Z) : c.code = cc := h.1.2.1
theorem Cxz.ho (h : Cxz p s m meth c args cc own nL Z) : s.vm.findClass own = some m.cls := h.1.2.2.2.1
theorem Cxz.ht (h : Cxz p s m meth c args cc own nL Z) : ∀ w ∈ TB, w.before args s = true := h.1.2.2.2.2
theorem Cxz.hk (h : Cxz p s m meth c args cc own nL Z) : va_K Z.2.1 wdcl (wtys Z) s := h.2.1
theorem Wd.D (_ : Wd Z τ s H locs) : va_D (fun q => Z.1 ≤ q) (wws Z τ) := wws_D Z τ
theorem x_get (hc : Cxz p s m meth c args cc own nL Z) (hw : Wd Z τ s H locs) {id ci k idx N : Nat} {C : String} {T : u_T} {sl : List sD} {qd : sD} (hid : id < NTOT) (hd : wdesc id = .inl (ci, sl)) (hcl : wdcl[ci]? = some (C, T, N)) (hin : ∀ w ∈ u_ws C T N, w ∈ TB) (hk : k < N) (hsl : sl[k]? = some qd)
    (hl : Cond.fieldLink own idx (T k).1 (T k).2.1 (T k).2.2.1 ∈ TB) {v : Value} (hv : svz Z τ qd = v) (hdg : decode cc pc = .ok (.getfield idx, 3)) (kk : W p l e R s m args below meth c H locs cells slots Q (F0 m (pc + 3) ls (v :: rest))) : W p l e R s m args below meth c H locs cells slots Q (F0 m pc ls (.ref (Z.1 + id) :: rest)) := by
  have he : (wws Z τ)[id]? = some (Z.1 + id, .inr (ci, sl.map (svz Z τ))) := by rw [wws_get Z τ hid, hd]; rfl
  refine va_get hc.hx hc.hb hc.ht hin hc.ho hc.hk hw.1 id he hcl k hk (hc.ht _ hl) (fun _ h => h) (v := v) ?_ hdg kk
  rw [List.getElem?_map, hsl]
  exact congrArg some hv
theorem x_put (hc : Cxz p s m meth c args cc own nL Z) (hw : Wd Z τ s H locs) {id ci k idx N : Nat} {C : String} {T : u_T} {sl : List sD} {qd : sD} {ty0 : Nat → FieldType} (hid : id < NTOT) (hd : wdesc id = .inl (ci, sl)) (hcl : wdcl[ci]? = some (C, T, N)) (hin : ∀ w ∈ u_ws C T N, w ∈ TB) (hty : ∀ k, k < N → parseFieldDescriptor (T k).2.2.1 = some (ty0 k)) (hnm : ∀ a, a < N → ∀ b, b < N → a ≠ b → (T a).2.1 ≠ (T b).2.1) (hk : k < N) (hsl : sl[k]? = some qd) (htag : qd.1 = 0 ∨ qd.1 = 1 ∨ qd.1 = 3) (hfin : (T k).2.2.2 = false)
    (hl : Cond.fieldLink own idx (T k).1 (T k).2.1 (T k).2.2.1 ∈ TB) {v : Value} {τ' : St} (ho : onlyAt qd.2.1 qd.2.2.1 qd.2.2.2 τ τ') (hv : svz Z τ' qd = v) {ty : FieldType} (hpd : parseFieldDescriptor (T k).2.2.1 = some ty) (hn : narrow ty v = v) (hfit : fits ty v = true) (hdg : decode cc pc = .ok (.putfield idx, 3))
    (kk : ∀ (H1 : Heap) (locs1 : List Loc), Wd Z τ' s H1 locs1 → W p l e R s m args below meth c H1 locs1 cells slots Q (F0 m (pc + 3) ls rest)) : W p l e R s m args below meth c H locs cells slots Q (F0 m pc ls (v :: .ref (Z.1 + id) :: rest)) := by
  have he : (wws Z τ)[id]? = some (Z.1 + id, .inr (ci, sl.map (svz Z τ))) := by rw [wws_get Z τ hid, hd]; rfl
  have hch := wchk_ok id hid
  unfold wchk at hch
  rw [hd] at hch
  dsimp only at hch
  have hown : wown qd.2.1 qd.2.2.1 qd.2.2.2 = id := wsl_mem hch qd (List.mem_of_getElem? hsl) htag
  have hset : (wws Z τ).set id (Z.1 + id, .inr (ci, (sl.map (svz Z τ)).set k v)) = wws Z τ' := by
    rw [← wws_set hid (τ' := τ') (fun j hj hne => we_only ho hj (by rw [hown]; exact Ne.symm hne)), hd]
    have := wsl_set (Z := Z) hch hsl htag ho hv
    show _ = (wws Z τ).set id (Z.1 + id, .inr (ci, sl.map (svz Z τ')))
    rw [this]
  refine va_put hc.hx hc.hb hc.ht hin ty0 hty hnm hc.ho hc.hk hw.1 hw.D hw.2 id he hcl k hk (hc.ht _ hl) (fun _ h => h) hfin hpd hn hfit (by rw [List.length_map]; exact (List.getElem?_eq_some_iff.mp hsl).1) hdg (fun H1 locs1 h1 _ h3 => kk H1 locs1 ⟨?_, h3⟩)
  rw [← hset]
  exact h1
theorem inb_lt {i : Int32} {n : Nat} (h : inb i n) : i.toNatClampNeg < n := Nat.not_le.mp fun q => h (Or.inr q)
theorem x_iald (hc : Cxz p s m meth c args cc own nL Z) (hw : Wd Z τ s H locs) {id n f a b : Nat} (hid : id < NTOT) (hd : wdesc id = .inr (0, n, f, a, b)) {i : Int32} (hi : inb i n) {v : Int32} (hv : τ.1 f a b i.toNatClampNeg = v) (hdg : decode cc pc = .ok (.iaload, 1))
    (kk : W p l e R s m args below meth c H locs cells slots Q (F0 m (pc + 1) ls (.int v :: rest))) : W p l e R s m args below meth c H locs cells slots Q (F0 m pc ls (.int i :: .ref (Z.1 + id) :: rest)) := by
  have he : (wws Z τ)[id]? = some (Z.1 + id, .inl (Z.2.2.1 0, n, .inl (fun i => τ.1 f a b i))) := by rw [wws_get Z τ hid, hd]; rfl
  subst hv
  exact va_iald hc.hx hc.hb hc.hk hw.1 id 0 he rfl hi hdg kk
theorem x_bald (hc : Cxz p s m meth c args cc own nL Z) (hw : Wd Z τ s H locs) {id n f a b : Nat} (hid : id < NTOT) (hd : wdesc id = .inr (1, n, f, a, b)) {i : Int32} (hi : inb i n) {v : Int32} (hv : τ.1 f a b i.toNatClampNeg = v) (hdg : decode cc pc = .ok (.baload, 1))
    (kk : W p l e R s m args below meth c H locs cells slots Q (F0 m (pc + 1) ls (.int v :: rest))) : W p l e R s m args below meth c H locs cells slots Q (F0 m pc ls (.int i :: .ref (Z.1 + id) :: rest)) := by
  have he : (wws Z τ)[id]? = some (Z.1 + id, .inl (Z.2.2.1 1, n, .inl (fun i => τ.1 f a b i))) := by rw [wws_get Z τ hid, hd]; rfl
  subst hv
  exact va_bald hc.hx hc.hb hc.hk hw.1 id 1 he rfl hi hdg kk
theorem x_zald (hc : Cxz p s m meth c args cc own nL Z) (hw : Wd Z τ s H locs) {id n f a b : Nat} (hid : id < NTOT) (hd : wdesc id = .inr (2, n, f, a, b)) {i : Int32} (hi : inb i n) {v : Int32} (hv : τ.1 f a b i.toNatClampNeg = v) (hdg : decode cc pc = .ok (.baload, 1))
    (kk : W p l e R s m args below meth c H locs cells slots Q (F0 m (pc + 1) ls (.int v :: rest))) : W p l e R s m args below meth c H locs cells slots Q (F0 m pc ls (.int i :: .ref (Z.1 + id) :: rest)) := by
  have he : (wws Z τ)[id]? = some (Z.1 + id, .inl (Z.2.2.1 2, n, .inl (fun i => τ.1 f a b i))) := by rw [wws_get Z τ hid, hd]; rfl
  subst hv
  exact va_zald hc.hx hc.hb hc.hk hw.1 id 2 he rfl hi hdg kk
theorem x_lald (hc : Cxz p s m meth c args cc own nL Z) (hw : Wd Z τ s H locs) {id n f a b : Nat} (hid : id < NTOT) (hd : wdesc id = .inr (3, n, f, a, b)) {i : Int32} (hi : inb i n) {v : Int64} (hv : τ.2 f a b i.toNatClampNeg = v) (hdg : decode cc pc = .ok (.laload, 1))
    (kk : W p l e R s m args below meth c H locs cells slots Q (F0 m (pc + 1) ls (.long v :: rest))) : W p l e R s m args below meth c H locs cells slots Q (F0 m pc ls (.int i :: .ref (Z.1 + id) :: rest)) := by
  have he : (wws Z τ)[id]? = some (Z.1 + id, .inl (Z.2.2.1 3, n, .inr (.inl (fun i => τ.2 f a b i)))) := by rw [wws_get Z τ hid, hd]; rfl
  subst hv
  exact va_lald hc.hx hc.hb hc.hk hw.1 id 3 he rfl hi hdg kk
theorem x_aald (hc : Cxz p s m meth c args cc own nL Z) (hw : Wd Z τ s H locs) {id t n f a b : Nat} {ty : FieldType} (hid : id < NTOT) (hd : wdesc id = .inr (t, n, f, a, b)) (h4 : 4 ≤ t ∧ t < 7) (htt : (wtys Z)[t]? = some (Z.2.2.1 t, ty)) (hty : ty.isReference = true) {i : Int32} (hi : inb i n) (hdg : decode cc pc = .ok (.aaload, 1))
    (kk : W p l e R s m args below meth c H locs cells slots Q (F0 m (pc + 1) ls (.ref (Z.1 + (f + a * i.toNatClampNeg)) :: rest))) : W p l e R s m args below meth c H locs cells slots Q (F0 m pc ls (.int i :: .ref (Z.1 + id) :: rest)) := by
  have he : (wws Z τ)[id]? = some (Z.1 + id, .inl (Z.2.2.1 t, n, .inr (.inr (.inr (.inr (fun i => some (Z.1 + (f + a * i)))))))) := by
    rw [wws_get Z τ hid, hd]
    unfold we
    dsimp only
    rw [if_neg (by omega), if_neg (by omega), if_neg (by omega)]
  have hlt : i.toNatClampNeg < n := inb_lt hi
  exact W.aald (v := .ref (Z.1 + (f + a * i.toNatClampNeg))) (ty := ty) hc.hx hc.hb (hw.1 id _ he) ((hc.hk.2 t _ htt).1 n (fun j => va_rf (some (Z.1 + (f + a * j))))) hty (fun q => by cases q) (by show ¬ (i < 0 ∨ (arrV _ _ _).slots.size ≤ _); rw [arrV_size]; exact hi) (by show (arrV _ _ _).slots[_]? = _; rw [arrV_read _ _ hlt]; rfl) rfl rfl hdg kk
theorem x_aald7 (hc : Cxz p s m meth c args cc own nL Z) (hw : Wd Z τ s H locs) {id n f a b : Nat} (hid : id < NTOT) (hd : wdesc id = .inr (7, n, f, a, b)) {i : Int32} (hi : inb i n) (hdg : decode cc pc = .ok (.aaload, 1))
    (kk : W p l e R s m args below meth c H locs cells slots Q (F0 m (pc + 1) ls (.ref (Z.2.2.2 (f + i.toNatClampNeg)) :: rest))) : W p l e R s m args below meth c H locs cells slots Q (F0 m pc ls (.int i :: .ref (Z.1 + id) :: rest)) := by
  have he : (wws Z τ)[id]? = some (Z.1 + id, .inl (Z.2.2.1 7, n, .inr (.inr (.inr (.inr (fun i => some (Z.2.2.2 (f + i)))))))) := by
    rw [wws_get Z τ hid, hd]; rfl
  exact va_aldq hc.hx hc.hb hc.hk hw.1 id 7 he rfl hi hdg kk
theorem x_alen (hc : Cxz p s m meth c args cc own nL Z) (hw : Wd Z τ s H locs) {id t n f a b : Nat} {ty : FieldType} (hid : id < NTOT) (hd : wdesc id = .inr (t, n, f, a, b)) (htt : (wtys Z)[t]? = some (Z.2.2.1 t, ty)) {v : Int32} (hv : Int32.ofNat n = v) (hdg : decode cc pc = .ok (.arraylength, 1))
    (kk : W p l e R s m args below meth c H locs cells slots Q (F0 m (pc + 1) ls (.int v :: rest))) : W p l e R s m args below meth c H locs cells slots Q (F0 m pc ls (.ref (Z.1 + id) :: rest)) := by
  exact va_alen hc.hx hc.hb hc.hk hw.1 id t (by rw [wws_get Z τ hid, hd]; rfl) htt hv hdg kk
theorem x_arr {id t n f a b : Nat} (hid : id < NTOT) (hd : wdesc id = .inr (t, n, f, a, b)) (ht : t < 4) : wown f a b = id := by
  have hch := wchk_ok id hid
  unfold wchk at hch
  rw [hd] at hch
  dsimp only at hch
  rw [if_pos ht] at hch
  exact of_decide_eq_true hch
theorem x_aset {Z : ZT} {τ τ' : St} {id t n f a b : Nat} (hid : id < NTOT) (hd : wdesc id = .inr (t, n, f, a, b)) (ht : t < 4) (ho : onlyAt f a b τ τ') : (wws Z τ).set id (Z.1 + id, we Z τ' (.inr (t, n, f, a, b))) = wws Z τ' := by
  rw [← wws_set hid (τ' := τ') (fun j hj hne => we_only ho hj (by rw [x_arr hid hd ht]; exact Ne.symm hne)), hd]
theorem sI_row (τ : St) (f a b i : Nat) (x : Int32) : (fun j => (sI τ f a b i x).1 f a b j) = upd (fun j => τ.1 f a b j) i x := by
  funext j
  simp [sI, upd]
theorem sJ_row (τ : St) (f a b i : Nat) (x : Int64) : (fun j => (sJ τ f a b i x).2 f a b j) = vp_updL (fun j => τ.2 f a b j) i x := by
  funext j
  simp [sJ, vp_updL]
theorem x_iast (hc : Cxz p s m meth c args cc own nL Z) (hw : Wd Z τ s H locs) {id n f a b : Nat} (hid : id < NTOT) (hd : wdesc id = .inr (0, n, f, a, b)) {i x : Int32} (hi : inb i n) {τ' : St} (ht : sI τ f a b i.toNatClampNeg x = τ') (hdg : decode cc pc = .ok (.iastore, 1))
    (kk : ∀ (H1 : Heap) (locs1 : List Loc), Wd Z τ' s H1 locs1 → W p l e R s m args below meth c H1 locs1 cells slots Q (F0 m (pc + 1) ls rest)) : W p l e R s m args below meth c H locs cells slots Q (F0 m pc ls (.int x :: .int i :: .ref (Z.1 + id) :: rest)) := by
  have he : (wws Z τ)[id]? = some (Z.1 + id, .inl (Z.2.2.1 0, n, .inl (fun i => τ.1 f a b i))) := by rw [wws_get Z τ hid, hd]; rfl
  subst ht
  refine va_iast hc.hx hc.hb hc.hk hw.1 hw.D hw.2 id 0 he rfl hi hdg (fun H1 locs1 h1 _ h3 => kk H1 locs1 ⟨?_, h3⟩)
  rw [← x_aset hid hd (by decide) (τ' := sI τ f a b i.toNatClampNeg x) onlyAt_I]
  rw [← sI_row] at h1
  exact h1
theorem x_bast (hc : Cxz p s m meth c args cc own nL Z) (hw : Wd Z τ s H locs) {id n f a b : Nat} (hid : id < NTOT) (hd : wdesc id = .inr (1, n, f, a, b)) {i x : Int32} (hi : inb i n) {τ' : St} (ht : sI τ f a b i.toNatClampNeg x.toInt8.toInt32 = τ') (hdg : decode cc pc = .ok (.bastore, 1))
    (kk : ∀ (H1 : Heap) (locs1 : List Loc), Wd Z τ' s H1 locs1 → W p l e R s m args below meth c H1 locs1 cells slots Q (F0 m (pc + 1) ls rest)) : W p l e R s m args below meth c H locs cells slots Q (F0 m pc ls (.int x :: .int i :: .ref (Z.1 + id) :: rest)) := by
  have he : (wws Z τ)[id]? = some (Z.1 + id, .inl (Z.2.2.1 1, n, .inl (fun i => τ.1 f a b i))) := by rw [wws_get Z τ hid, hd]; rfl
  subst ht
  refine va_bast hc.hx hc.hb hc.hk hw.1 hw.D hw.2 id 1 he rfl hi hdg (fun H1 locs1 h1 _ h3 => kk H1 locs1 ⟨?_, h3⟩)
  rw [← x_aset hid hd (by decide) (τ' := sI τ f a b i.toNatClampNeg x.toInt8.toInt32) onlyAt_I]
  rw [vp_nar_byte, ← sI_row] at h1
  exact h1
theorem x_zast (hc : Cxz p s m meth c args cc own nL Z) (hw : Wd Z τ s H locs) {id n f a b : Nat} (hid : id < NTOT) (hd : wdesc id = .inr (2, n, f, a, b)) {i x : Int32} (hi : inb i n) {τ' : St} (ht : sI τ f a b i.toNatClampNeg (x &&& 1) = τ') (hdg : decode cc pc = .ok (.bastore, 1))
    (kk : ∀ (H1 : Heap) (locs1 : List Loc), Wd Z τ' s H1 locs1 → W p l e R s m args below meth c H1 locs1 cells slots Q (F0 m (pc + 1) ls rest)) : W p l e R s m args below meth c H locs cells slots Q (F0 m pc ls (.int x :: .int i :: .ref (Z.1 + id) :: rest)) := by
  have he : (wws Z τ)[id]? = some (Z.1 + id, .inl (Z.2.2.1 2, n, .inl (fun i => τ.1 f a b i))) := by rw [wws_get Z τ hid, hd]; rfl
  subst ht
  refine va_zast hc.hx hc.hb hc.hk hw.1 hw.D hw.2 id 2 he rfl hi hdg (fun H1 locs1 h1 _ h3 => kk H1 locs1 ⟨?_, h3⟩)
  rw [← x_aset hid hd (by decide) (τ' := sI τ f a b i.toNatClampNeg (x &&& 1)) onlyAt_I]
  rw [show vp_nar .boolean x = x &&& 1 from rfl, ← sI_row] at h1
  exact h1
theorem x_last (hc : Cxz p s m meth c args cc own nL Z) (hw : Wd Z τ s H locs) {id n f a b : Nat} (hid : id < NTOT) (hd : wdesc id = .inr (3, n, f, a, b)) {i : Int32} {x : Int64} (hi : inb i n) {τ' : St} (ht : sJ τ f a b i.toNatClampNeg x = τ') (hdg : decode cc pc = .ok (.lastore, 1))
    (kk : ∀ (H1 : Heap) (locs1 : List Loc), Wd Z τ' s H1 locs1 → W p l e R s m args below meth c H1 locs1 cells slots Q (F0 m (pc + 1) ls rest)) : W p l e R s m args below meth c H locs cells slots Q (F0 m pc ls (.long x :: .int i :: .ref (Z.1 + id) :: rest)) := by
  have he : (wws Z τ)[id]? = some (Z.1 + id, .inl (Z.2.2.1 3, n, .inr (.inl (fun i => τ.2 f a b i)))) := by rw [wws_get Z τ hid, hd]; rfl
  subst ht
  refine va_last hc.hx hc.hb hc.hk hw.1 hw.D hw.2 id 3 he rfl hi hdg (fun H1 locs1 h1 _ h3 => kk H1 locs1 ⟨?_, h3⟩)
  rw [← x_aset hid hd (by decide) (τ' := sJ τ f a b i.toNatClampNeg x) onlyAt_J]
  rw [← sJ_row] at h1
  exact h1
/-- a method's end: an answer, the state behind it, nothing below changed -/
def Qr (Z : ZT) (v : Option Value) (bd : Prop) (τ : St) : Array Value → State → Outcome → State → Prop := fun _ st oc t => oc = .returned v ∧ bd ∧ va_P Z.2.1 wdcl (wws Z τ) t.heap ∧ va_F (fun q => Z.1 ≤ q) st t
theorem Wd.q {bd : Prop} (hw : Wd Z τ s H locs) (hbd : bd) (v : Option Value) (a : Array Value) : ∀ t : State, t.heap = H → s.WarmedH t.vm → Qr Z v bd τ a s (.returned v) t := fun t ht _ => ⟨rfl, hbd, by rw [ht]; exact hw.1, hw.2.F ht⟩
theorem x_iret (hc : Cxz p s m meth c args cc own nL Z) (hw : Wd Z τ s H locs) (hr : meth.sig.returnType = some .int) {v : Int32} (hdg : decode cc pc = .ok (.ireturn, 1)) : W p l e R s m args below meth c H locs cells slots (MQ below (Qr Z (some (.int v)) True τ) args s cells slots (fun q => Z.1 ≤ q)) (F0 m pc ls [.int v]) := W.iret hc.hx hc.hb hr (hw.q trivial _ _) hw.2.2.2 hdg hc.2.2.1
theorem x_vret (hc : Cxz p s m meth c args cc own nL Z) (hw : Wd Z τ s H locs) (hr : meth.sig.returnType = none) (hdg : decode cc pc = .ok (.return_, 1)) : W p l e R s m args below meth c H locs cells slots (MQ below (Qr Z none True τ) args s cells slots (fun q => Z.1 ≤ q)) (F0 m pc ls []) := W.vret hc.hx hc.hb hr (hw.q trivial _ _) hw.2.2.2 hdg hc.2.2.1
theorem x_zret (hc : Cxz p s m meth c args cc own nL Z) (hw : Wd Z τ s H locs) (hr : meth.sig.returnType = some .boolean) {v v' : Int32} (hv : v &&& 1 = v') (hdg : decode cc pc = .ok (.ireturn, 1)) : W p l e R s m args below meth c H locs cells slots (MQ below (Qr Z (some (.int v')) True τ) args s cells slots (fun q => Z.1 ≤ q)) (F0 m pc ls [.int v]) := by
  subst hv
  intro T hT X
  have hlocks : meth.locks = false := hc.2.2.1
  have hb := hc.hb
  have hexec := hc.hx
  obtain ⟨fs, hret, hrun, hended, hW, hframe⟩ := X.leave (v := some (.int (v &&& 1))) (fun h => by rw [hr] at h; cases h)
  have hmeth' : T.vm.method? m = some meth := X.method'
  refine ⟨T.setFrames fs, ?_, .returned (some (.int (v &&& 1))), hrun, hended, hw.q trivial _ _ _ hT hW, locs, ⟨⟨_, rfl⟩, hW, hframe⟩, hw.2.2.2⟩
  jvm_step X.here [X.here.top, hexec, hb, hdg, hmeth', hr, narrow]
  (try refine ⟨rfl, ?_⟩); (try refine ⟨rfl, ?_⟩)
  first | (intro acts; rw [hret _ acts rfl rfl rfl]) | rw [hret _ _ rfl rfl rfl]
  exact Steps.refl _
theorem x_lret (hc : Cxz p s m meth c args cc own nL Z) (hw : Wd Z τ s H locs) (hr : meth.sig.returnType = some .long) {v : Int64} (hdg : decode cc pc = .ok (.lreturn, 1)) : W p l e R s m args below meth c H locs cells slots (MQ below (Qr Z (some (.long v)) True τ) args s cells slots (fun q => Z.1 ≤ q)) (F0 m pc ls [.long v]) := W.lret hc.hx hc.hb hr (hw.q trivial _ _) hw.2.2.2 hdg hc.2.2.1
theorem x_aret {bd : Prop} (hbd : bd) (hc : Cxz p s m meth c args cc own nL Z) (hw : Wd Z τ s H locs) {n : String} (hr : meth.sig.returnType = some (.object n)) {k : Nat} (hdg : decode cc pc = .ok (.areturn, 1)) : W p l e R s m args below meth c H locs cells slots (MQ below (Qr Z (some (.ref k)) bd τ) args s cells slots (fun q => Z.1 ≤ q)) (F0 m pc ls [.ref k]) := W.aret hc.hx hc.hb hr (Or.inl ⟨_, rfl⟩) (Or.inr ⟨_, rfl⟩) (hw.q hbd _ _) hw.2.2.2 hdg hc.2.2.1
/-- a contract: from this start the method ends with this answer and this state -/
def Ws (Z : ZT) (τ : St) (U : State) : Prop := va_P Z.2.1 wdcl (wws Z τ) U.heap ∧ va_K Z.2.1 wdcl (wtys Z) U ∧ WXz Z U U.heap
abbrev wsm (y : MethodName) (cd : ByteArray) (nL : Nat) (ret : Option FieldType) : List Cond := .code y cd nL ret :: TB
def Ct (l : Launch) (Z : ZT) (y : MethodName) (cd : ByteArray) (nL : Nat) (ret : Option FieldType) (rm : Room) (av : List Value) (τ : St) (v : Option Value) (bd : Prop) (τ' : St) : Prop :=
  Met l y (wsm y cd nL ret) rm (va_Pc av (Ws Z τ)) (Qr Z v bd τ') rm.cells rm.slots (fun q => Z.1 ≤ q)
theorem x_met {y : MethodName} {cd : ByteArray} {ret : Option FieldType} {rm : Room} {av : List Value} {v : Option Value} {bd : Prop} {τ' : St} (hy : plainName y.cls = true) (hn : (lg_sl av).length ≤ nL)
    (body : ∀ (p : Program) (e : Env) (s : State) (m : MethodId) (args : Array Value) (below : List Frame) (meth : Method) (c : Code) (ls : Array Slot), Cxz p s m meth c args cd y.cls nL Z → meth.sig.returnType = ret → Wd Z τ s s.heap [] → lv_has ls nL (lv_args 0 av) →
      W p l e rm s m args below meth c s.heap [] 0 0 (MQ below (Qr Z v bd τ') args s rm.cells rm.slots (fun q => Z.1 ≤ q)) (F0 m 0 ls [])) : Ct l Z y cd nL ret rm av τ v bd τ' := by
  refine Met.ofW (cc := cd) (maxL := nL) (ret := ret) hy rfl ?_
  intro p e s m args below meth c s₁ B hml hv
  obtain ⟨rfl, hP, hK, hX⟩ := hv
  have hts := atoms_spec (ws := wsm y cd nL ret) B.pre
  have hown : s.vm.findClass y.cls = some m.cls := findClass_of_methodNamed B.named
  have hl := lv_entry av hn
  rw [lg_entry_eq]
  exact body p e s m _ below meth c _ ⟨⟨B.exec, B.bytes, hml, hown, fun w h => hts w (List.mem_cons_of_mem _ h)⟩, hK, B.notSynchronized, hX⟩ B.returns ⟨hP, va_S.rf⟩ hl
end WROWS
