/-! Arrays.fill over one array of a world in the making -/
section FILL0
variable {p : Program} {l : Launch} {e : Env} {R : Room} {s : State} {m : MethodId} {args : Array Value} {below : List Frame} {meth : Method} {c : Code} {H : Heap} {locs : List Loc} {cells slots : Nat} {Q : State → Prop}
variable {cc : ByteArray} {own : String} {nL : Nat} {Z : ZT} {τ : St} {pc : Nat} {ls : Array Slot} {rest : List Value} {o n : Nat} {ex : List (Nat × va_E)}
def fl (f : Nat → Int32) (x : Int32) (i : Nat) : Nat → Int32 := fun q => if q < i then x else f q
theorem fl_succ {f : Nat → Int32} {x : Int32} {i : Nat} : upd (fl f x i) i x = fl f x (i + 1) := by
  funext q
  unfold upd fl
  by_cases h : q = i
  · rw [if_pos h, if_pos (by omega)]
  · rw [if_neg h]
    by_cases h2 : q < i
    · rw [if_pos h2, if_pos (by omega)]
    · rw [if_neg h2, if_neg (by omega)]
def Wf (Z : ZT) (a : Nat) (k : Nat) (f : Nat → Int32) (U : State) : Prop := va_P Z.2.1 wdcl [(a, .inl (Z.2.2.1 0, k, .inl f))] U.heap ∧ va_K Z.2.1 wdcl (wtys Z) U ∧ WXz Z U U.heap
def Qfl (Z : ZT) (a k : Nat) (f : Nat → Int32) : Array Value → State → Outcome → State → Prop := fun _ st oc t => oc = .returned none ∧ va_P Z.2.1 wdcl [(a, .inl (Z.2.2.1 0, k, .inl f))] t.heap ∧ t.heap.size = st.heap.size ∧ va_F (fun q => q = a) st t
theorem w_fill0 {a k : Nat} {f : Nat → Int32} {x : Int32} (hk : k < 2 ^ 31) (hc : Cxz p s m meth c args prog_29_method_103_code "java/util/Arrays" 4 Z) (hr : meth.sig.returnType = none) : ∀ (d i : Nat), i + d = k → ∀ {H : Heap} {locs : List Loc} {ls : Array Slot}, va_P Z.2.1 wdcl [(a, .inl (Z.2.2.1 0, k, .inl (fl f x i)))] H → H.size = s.heap.size → va_S (fun q => q = a) s.heap H locs → lv_has ls 4 [(0, .ref a), (1, .int x), (2, .int (nI i)), (3, .int (nI k))] →
    W p l e R s m args below meth c H locs 0 0 (MQ below (Qfl Z a k (fl f x k)) args s 0 0 (fun q => q = a)) (F0 m 5 ls []) := by
  have hx := hc.hx
  have hb := hc.hb
  intro d
  induction d with
  | zero =>
    intro i hi H locs ls hP hz hS hl
    have hi : i = k := by omega
    subst hi
    refine lv_iload_n hx hb (dq tk_Arrays_fill_I 5 rfl) rfl (lv_at hl 2 rfl) ?_
    refine lv_iload_n hx hb (dq tk_Arrays_fill_I 6 rfl) rfl (lv_at hl 3 rfl) ?_
    refine lv_icmp_ge (tgt := 20) hx hb (dq tk_Arrays_fill_I 7 rfl) (by decide) (fun c1 => ?_) (fun c1 => ?_)
    · exact W.vret hx hb hr (fun t ht _ => ⟨rfl, by rw [ht]; exact hP, by rw [ht]; exact hz, hS.F ht⟩) hS.2.2 (dq tk_Arrays_fill_I 14 rfl) hc.2.2.1
    · exact absurd (nI_le (Nat.le_refl i) hk) c1
  | succ d ih =>
    intro i hi H locs ls hP hz hS hl
    refine lv_iload_n hx hb (dq tk_Arrays_fill_I 5 rfl) rfl (lv_at hl 2 rfl) ?_
    refine lv_iload_n hx hb (dq tk_Arrays_fill_I 6 rfl) rfl (lv_at hl 3 rfl) ?_
    refine lv_icmp_ge (tgt := 20) hx hb (dq tk_Arrays_fill_I 7 rfl) (by decide) (fun c1 => ?_) (fun c1 => ?_)
    · exact absurd c1 (nI_ge (by omega) hk)
    · refine lv_aload_n hx hb (dq tk_Arrays_fill_I 8 rfl) rfl (lv_at hl 0 rfl) ?_
      refine lv_iload_n hx hb (dq tk_Arrays_fill_I 9 rfl) rfl (lv_at hl 2 rfl) ?_
      refine lv_iload_n hx hb (dq tk_Arrays_fill_I 10 rfl) rfl (lv_at hl 1 rfl) ?_
      refine W.iast hx hb (hP 0 _ rfl) ((hc.hk.2 0 _ rfl).1 k (fun j => .int (fl f x i j))) (fun q => by cases q) (by show ¬ (nI i < 0 ∨ (arrV _ _ _).slots.size ≤ _); rw [arrV_size]; exact nI_in (show i < k by omega) hk) rfl rfl (dq tk_Arrays_fill_I 11 rfl) fun H1 e z oq => ?_
      refine W.eq (g2 := F0 m 14 ls []) rfl ?_
      refine lv_iinc (v := (nI (i + 1))) (lv' := [(2, .int (nI (i + 1))), (0, .ref a), (1, .int x), (3, .int (nI k))]) hx hb (dq tk_Arrays_fill_I 12 rfl) hl (k := 2) rfl (nI_succ i).symm (by decide) rfl (fun ls hl => ?_)
      refine lv_goto (tgt := 5) hx hb (dq tk_Arrays_fill_I 13 rfl) (by decide) ?_
      refine ih (i + 1) (by omega) ?_ (z.trans hz) (hS.put z oq rfl) (lv_sub hl [1, 2, 0, 3] rfl)
      intro k0 q hq
      have h0 : k0 < 1 := (List.getElem?_eq_some_iff.mp hq).1
      rw [show k0 = 0 by omega] at hq
      cases hq
      show H1[a]? = some (vp_cell _ _)
      rw [e]
      rw [vp_cell_i, vp_cell_i, arrV_store, nI_clamp (by omega), ← fl_succ]
      congr 2
      funext q
      by_cases hq : q = i
      · subst hq
        simp [updV, upd]
      · simp [updV, upd, hq]
theorem c_fill0 {a k : Nat} {f : Nat → Int32} {x : Int32} (hk : k < 2 ^ 31) : Met l y_Arrays_fill_I (wsm y_Arrays_fill_I prog_29_method_103_code 4 none) (rmo 0) (va_Pc [.ref a, .int x] (Wf Z a k f)) (Qfl Z a k (fl f x k)) 0 0 (fun q => q = a) := by
  refine Met.ofW (cc := prog_29_method_103_code) (maxL := 4) (ret := none) (by decide) rfl ?_
  intro p e s m args below meth c s₁ B hml hv
  obtain ⟨rfl, hP, hK, hX⟩ := hv
  have hts := atoms_spec (ws := wsm y_Arrays_fill_I prog_29_method_103_code 4 none) B.pre
  have hown : s.vm.findClass "java/util/Arrays" = some m.cls := findClass_of_methodNamed B.named
  have hl := lv_entry ([.ref a, .int x] : List Value) (n := 4) (Nat.le_of_ble_eq_true rfl)
  have hc : Cxz p s m meth c _ prog_29_method_103_code "java/util/Arrays" 4 Z := ⟨⟨B.exec, B.bytes, hml, hown, fun w h => hts w (List.mem_cons_of_mem _ h)⟩, hK, B.notSynchronized, hX⟩
  rw [lg_entry_eq]
  have hx := hc.hx
  have hb := hc.hb
  generalize (lg_sl ([.ref a, .int x] : List Value) ++ List.replicate (4 - (lg_sl ([.ref a, .int x] : List Value)).length) Slot.unset).toArray = ls at hl ⊢
  have hl : lv_has ls 4 [(0, .ref a), (1, .int x)] := hl
  refine lv_iconst (v := 0) hx hb (dq tk_Arrays_fill_I 0 rfl) (by decide) ?_
  refine lv_istore_n (lv' := [(2, .int 0), (0, .ref a), (1, .int x)]) hx hb (dq tk_Arrays_fill_I 1 rfl) rfl hl (by decide) rfl (fun ls hl => ?_)
  refine lv_aload_n hx hb (dq tk_Arrays_fill_I 2 rfl) rfl (lv_at hl 1 rfl) ?_
  refine va_alen hx hb hK hP 0 0 (cA := Z.2.2.1 0) (x := (k, .inl f)) rfl (ty := .int) rfl (v := nI k) rfl (dq tk_Arrays_fill_I 3 rfl) ?_
  refine lv_istore_n (lv' := [(3, .int (nI k)), (2, .int 0), (0, .ref a), (1, .int x)]) hx hb (dq tk_Arrays_fill_I 4 rfl) rfl hl (by decide) rfl (fun ls hl => ?_)
  refine w_fill0 (f := f) hk hc B.returns k 0 (Nat.zero_add _) ?_ rfl va_S.rf (lv_sub hl [2, 3, 1, 0] rfl)
  have e0 : fl f x 0 = f := funext fun q => if_neg (Nat.not_lt_zero q)
  rw [e0]
  exact hP
theorem k_fill (hc : Cxz p s m meth c args cc own nL Z) {idx j k : Nat} {f : Nat → Int32} {x : Int32} (hk : k < 2 ^ 31) (hw : Kw Z τ o ((j, .inl (Z.2.2.1 0, k, .inl f)) :: ex) n s H locs)
    (hl : Cond.methodLink own idx y_Arrays_fill_I ∈ TB) (hR : RO R 1) (hcs : cells ≤ R.cells ∧ slots ≤ R.slots) (hls : ls.size = nL) (hst : (rest.map fun v => v.category).sum ≤ 8) (hdg : decode cc pc = .ok (.invokestatic idx, 3))
    (kk : ∀ (H1 : Heap) (locs1 : List Loc), Kw Z τ o ((j, .inl (Z.2.2.1 0, k, .inl (fl f x k))) :: ex) n s H1 locs1 → W p l e R s m args below meth c H1 locs1 cells slots Q (F0 m (pc + 3) ls rest)) : W p l e R s m args below meth c H locs cells slots Q (F0 m pc ls (.int x :: .ref (Z.1 + o + j) :: rest)) := by
  obtain ⟨⟨y1, y3, y4⟩, y5, y6, y7⟩ := ys_Arrays_fill_I
  have hG : GoodIn TB (wsm y_Arrays_fill_I prog_29_method_103_code 4 none) := by
    intro w hw
    rcases List.mem_cons.mp hw with rfl | h
    · exact tb_in y4
    · exact tb_in h
  obtain ⟨E, h1, h2, h3, h4, h5, h6⟩ := hw
  obtain ⟨hj, he⟩ := h5 _ List.mem_cons_self
  have he2 : E j = .inl (Z.2.2.1 0, k, .inl f) := he
  have hP : va_P Z.2.1 wdcl [(Z.1 + o + j, .inl (Z.2.2.1 0, k, .inl f))] H := by
    intro k0 q hq
    have h0 : k0 < 1 := (List.getElem?_eq_some_iff.mp hq).1
    rw [show k0 = 0 by omega] at hq
    cases hq
    rw [← he2]
    exact h1 j _ (ewo_get hj)
  have hW9 : ∀ U : State, U.heap = H → s.WarmedH U.vm → Wf Z (Z.1 + o + j) k f U := fun U hU hW => ⟨by rw [hU]; exact hP, va_K.moved hW.alike hc.hk, by rw [hU]; exact WXz.go hc.2.2.2 ⟨h3.1, fun q g1 g2 => h3.2.1 q g1 (fun g => g2 (Nat.le_trans (by omega) g)), fun q hq => Nat.le_trans (by omega) (h3.2.2 q hq)⟩ hW⟩
  have hbl : FrameBlind (va_Pc [.ref (Z.1 + o + j), .int x] (Wf Z (Z.1 + o + j) k f)) := fun a U g mk q => ⟨q.1, q.2.1, va_K.moved (u := U) (U := U.calling g mk a) (Vm.Alike.refl U.vm) q.2.2.1, WXz.call q.2.2.2⟩
  intro T hT X
  obtain ⟨v', st₀, t, T', L, h0, X', hL, e1, e2, ⟨hv, hp, hz, hz1, hk2⟩, st⟩ := va_runS (As := [.ref (Z.1 + o + j), .int x]) (rest := rest) hc.1 (c_fill0 (l := l) (x := x) hk) ⟨callB_of 2 hc.ht hG rfl rfl rfl (hc.ht _ y3) (hc.ht _ hl) ⟨y5, y6, y7⟩ (RO.call (fr := 0) hR (by decide)), hc.ht _ y1⟩ ⟨hbl, fun U hU hW => ⟨rfl, hW9 U hU hW⟩⟩ (g := F0 m pc ls (.int x :: .ref (Z.1 + o + j) :: rest)) rfl rfl hls rfl (lv_room hst) hdg hcs T hT X
  cases hv
  rw [h0] at hz hz1 hk2
  obtain ⟨t2, a1, b1⟩ := kk T'.heap (locs ++ L) (Kw.upd he2 (by rw [e1]; omega) h4 h5 h6 (by
    rw [e1, ewo_set]
    intro i q hq
    obtain ⟨hi, rfl⟩ := ewo_of hq
    by_cases hij : i = j
    · subst hij
      rw [eup_self]
      exact hp 0 _ rfl
    · rw [eup_ne hij]
      exact (show va_P Z.2.1 wdcl [(Z.1 + o + i, E i)] t.heap from va_P.kept (H := H) (fun k x hx => by
          have hz : k < 1 := (List.getElem?_eq_some_iff.mp hx).1
          rw [show k = 0 by omega] at hx
          cases hx
          exact h1 i _ (ewo_get (by omega))) (fun k x hx => by
          have hz : k < 1 := (List.getElem?_eq_some_iff.mp hx).1
          rw [show k = 0 by omega] at hx
          cases hx
          exact hk2 _ (by show Z.1 + o + i < H.size; omega) (by show ¬ Z.1 + o + i = Z.1 + o + j; omega))) 0 _ rfl)
    ⟨Nat.le_trans h3.1 (by rw [e1]; exact hz1), fun q g1 g2 => by rw [e1, hk2 q (Nat.lt_of_lt_of_le g1 h3.1) (fun g => g2 (by rw [g]; omega))]; exact h3.2.1 q g1 g2, fun q hq => by
      rcases List.mem_append.mp hq with h | h
      · exact h3.2.2 q h
      · have := hL q h
        show Z.1 + o ≤ q.base
        rw [this]
        omega⟩) T' rfl X'
  exact ⟨t2, st t2 a1, b1⟩
end FILL0
