/-! calls between the methods of this world -/
section WCALL
variable {p : Program} {l : Launch} {e : Env} {R : Room} {s : State} {m : MethodId} {args : Array Value} {below : List Frame} {meth : Method} {c : Code} {H : Heap} {locs : List Loc} {cells slots : Nat} {Q : State → Prop}
variable {cc : ByteArray} {own : String} {nL : Nat} {Z : ZT} {τ : St} {pc : Nat} {ls : Array Slot} {rest : List Value}
theorem x_call {mc ms : Nat} {v : Option Value} {bd : Prop} {τ' : St} {a : Array Value} {st0 : List Value} (hr : va_Run p l e R s m args below meth c H locs cells slots mc ms (F0 m pc ls st0) rest (Qr Z v bd τ' a) (fun q => Z.1 ≤ q)) (hw : Wd Z τ s H locs)
    (kk : ∀ (H1 : Heap) (locs1 : List Loc), Wd Z τ' s H1 locs1 → bd → W p l e R s m args below meth c H1 locs1 (cells + mc) (slots + ms) Q (F0 m (pc + 3) ls (v.toList ++ rest))) : W p l e R s m args below meth c H locs cells slots Q (F0 m pc ls st0) := by
  intro T hT X
  obtain ⟨v', st₀, t, T', L, h0, X', hL, e1, e2, ⟨hv, hbd, hp, hz, hk⟩, st⟩ := hr T hT X
  cases hv
  rw [h0] at hz hk
  have hS := hw.2
  obtain ⟨t2, a1, b1⟩ := kk T'.heap (locs ++ L) ⟨by rw [e1]; exact hp, Nat.le_trans hS.1 (by rw [e1]; exact hz), fun q h1 h2 => by rw [e1, hk q (Nat.lt_of_lt_of_le h1 hS.1) h2]; exact hS.2.1 q h1 h2, fun q hq => by
      rcases List.mem_append.mp hq with h | h
      · exact hS.2.2 q h
      · exact hL q h⟩ hbd T' rfl X'
  exact ⟨t2, st t2 a1, b1⟩
theorem Ws.of (hc : Cxz p s m meth c args cc own nL Z) (hw : Wd Z τ s H locs) : ∀ U : State, U.heap = H → s.WarmedH U.vm → Ws Z τ U := fun U hU hW => ⟨by rw [hU]; exact hw.1, va_K.moved hW.alike hc.hk, by rw [hU]; exact WXz.go hc.2.2.2 hw.2 hW⟩
theorem Ws.blind {av : List Value} : FrameBlind (va_Pc av (Ws Z τ)) := fun a U g mk q => ⟨q.1, q.2.1, va_K.moved (u := U) (U := U.calling g mk a) (Vm.Alike.refl U.vm) q.2.2.1, WXz.call q.2.2.2⟩
theorem tb_in {w : Cond} (h : w ∈ TB) : w ∈ TB ∧ ((w.onTables && w.keeps) = true ∨ ∃ ty, w = .arrayClass ty) := ⟨h, tb_good w h⟩
theorem x_iv {y : MethodName} {cd : ByteArray} {nL' n idx id ci N : Nat} {ret : Option FieldType} {rm : Room} {As : List Value} {v : Option Value} {bd : Prop} {τ' : St} {sl : List sD} {T : u_T} (hc : Cxz p s m meth c args cc own nL Z) (hw : Wd Z τ s H locs) (hM : Ct l Z y cd nL' ret rm (.ref (Z.1 + id) :: As) τ v bd τ') (hy : Yv y cd nL' ret n) (hid : id < NTOT) (hd : wdesc id = .inl (ci, sl)) (hcl : wdcl[ci]? = some (y.cls, T, N))
    (hl : Cond.methodLink own idx y ∈ TB) (hR : rm.frames + 1 ≤ R.frames ∧ 8 + (nL' + 11) + rm.locals ≤ R.locals) (hf : cells + rm.cells ≤ R.cells ∧ slots + rm.slots ≤ R.slots) (hn : As.length = n) (hls : ls.size = nL) (hst : (rest.map fun v => v.category).sum ≤ 8) (hdg : decode cc pc = .ok (.invokevirtual idx, 3)) {st0 : List Value} (hst0 : st0 = As.reverse ++ .ref (Z.1 + id) :: rest)
    (kk : ∀ (H1 : Heap) (locs1 : List Loc), Wd Z τ' s H1 locs1 → bd → W p l e R s m args below meth c H1 locs1 (cells + rm.cells) (slots + rm.slots) Q (F0 m (pc + 3) ls (v.toList ++ rest))) : W p l e R s m args below meth c H locs cells slots Q (F0 m pc ls st0) := by
  obtain ⟨⟨y1, y2, y3, y4⟩, y5, y6, y7⟩ := hy
  have hG : GoodIn TB (wsV own idx y.cls y (wsm y cd nL' ret)) := by
    intro w hw
    simp only [wsV, List.mem_append, List.mem_cons, List.not_mem_nil, or_false] at hw
    rcases hw with (rfl | rfl | rfl | rfl) | (rfl | h)
    · exact tb_in hl
    · exact tb_in y1
    · exact tb_in y2
    · exact tb_in y3
    · exact tb_in y4
    · exact tb_in h
  have he : (wws Z τ)[id]? = some (Z.1 + id, .inr (ci, sl.map (svz Z τ))) := by rw [wws_get Z τ hid, hd]; rfl
  exact x_call (va_runV (As := As) (rest := rest) (C := y.cls) hc.1 hM (cwV n hc.ht hG rfl rfl rfl ⟨rfl, y5, y6, y7⟩ hR) ⟨Ws.blind, va_recv hc.hk hw.1 hcl he, fun U hU hW => ⟨rfl, Ws.of hc hw U hU hW⟩⟩ rfl hn hls hst0 (lv_room hst) hdg hf) hw kk
theorem x_is {y : MethodName} {cd : ByteArray} {nL' n idx : Nat} {ret : Option FieldType} {rm : Room} {As : List Value} {v : Option Value} {bd : Prop} {τ' : St} (hc : Cxz p s m meth c args cc own nL Z) (hw : Wd Z τ s H locs) (hM : Ct l Z y cd nL' ret rm As τ v bd τ') (hy : Ys y cd nL' ret n)
    (hl : Cond.methodLink own idx y ∈ TB) (hR : rm.frames + 1 ≤ R.frames ∧ 8 + (nL' + 11) + rm.locals ≤ R.locals) (hf : cells + rm.cells ≤ R.cells ∧ slots + rm.slots ≤ R.slots) (hn : As.length = n) (hls : ls.size = nL) (hst : (rest.map fun v => v.category).sum ≤ 8) (hdg : decode cc pc = .ok (.invokestatic idx, 3)) {st0 : List Value} (hst0 : st0 = As.reverse ++ rest)
    (kk : ∀ (H1 : Heap) (locs1 : List Loc), Wd Z τ' s H1 locs1 → bd → W p l e R s m args below meth c H1 locs1 (cells + rm.cells) (slots + rm.slots) Q (F0 m (pc + 3) ls (v.toList ++ rest))) : W p l e R s m args below meth c H locs cells slots Q (F0 m pc ls st0) := by
  obtain ⟨⟨y1, y3, y4⟩, y5, y6, y7⟩ := hy
  have hG : GoodIn TB (wsm y cd nL' ret) := by
    intro w hw
    rcases List.mem_cons.mp hw with rfl | h
    · exact tb_in y4
    · exact tb_in h
  exact x_call (va_runS (As := As) (rest := rest) hc.1 hM ⟨callB_of n hc.ht hG rfl rfl rfl (hc.ht _ y3) (hc.ht _ hl) ⟨y5, y6, y7⟩ hR, hc.ht _ y1⟩ ⟨Ws.blind, fun U hU hW => ⟨rfl, Ws.of hc hw U hU hW⟩⟩ rfl hn hls hst0 (lv_room hst) hdg hf) hw kk
end WCALL
/-! the words behind the walks' branches -/
theorem chk_some {α : Type} {c : Prop} [Decidable c] {k : Option α} {y : α} (h : chk c k = some y) : c ∧ k = some y := by
  unfold chk at h
  by_cases hc : c
  · rw [if_pos hc] at h; exact ⟨hc, h⟩
  · rw [if_neg hc] at h; cases h
theorem nm_some {α β : Type} {x : α} {k : α → β} {y : β} (h : nm x k = y) : ∃ z : α, x = z ∧ k z = y := ⟨x, rfl, h⟩
theorem if_t {α : Type} {c : Prop} [Decidable c] {a b y : α} (h : (if c then a else b) = y) (hc : c) : a = y := by rw [if_pos hc] at h; exact h
theorem if_f {α : Type} {c : Prop} [Decidable c] {a b y : α} (h : (if c then a else b) = y) (hc : ¬ c) : b = y := by rw [if_neg hc] at h; exact h
theorem bnd_some {α β : Type} {x : Option (α × St)} {k : α → St → Option β} {y : β} (h : bnd x k = some y) : ∃ r σ, x = some (r, σ) ∧ k r σ = some y := by
  cases x with
  | none => cases h
  | some q => exact ⟨q.1, q.2, rfl, h⟩
theorem bn1_someZ {α β : Type} {x : Option α} {k : α → Option β} {y : β} (h : bn1 x k = some y) : ∃ r, x = some r ∧ k r = some y := by
  cases x with
  | none => cases h
  | some q => exact ⟨q, rfl, h⟩
theorem tst {p : Program} {l : Launch} {e : Env} {R : Room} {s : State} {m : MethodId} {args : Array Value} {below : List Frame} {meth : Method} {c : Code} {H : Heap} {locs : List Loc} {cells slots : Nat} {Q : State → Prop} {pc : Nat} {ls : Array Slot} {v w : Value} {rest : List Value} (h : v = w) (k : W p l e R s m args below meth c H locs cells slots Q (F0 m pc ls (w :: rest))) : W p l e R s m args below meth c H locs cells slots Q (F0 m pc ls (v :: rest)) := h ▸ k
theorem wd_act {i r id : Nat} (hi : i < 17) (hr : r < 6) (he : id = 90 + r + 6 * i) : id < NTOT ∧ wdesc id = dAct i r := by
  have h1 : (id - 90) / 6 = i := by omega
  have h2 : (id - 90) % 6 = r := by omega
  have h3 : ¬ id < 90 := by omega
  have h4 : id < 192 := by omega
  refine ⟨by unfold NTOT; omega, ?_⟩
  unfold wdesc
  rw [if_neg h3, if_pos h4, h1, h2]
theorem wd_view {v r id : Nat} (hv : v < 2) (hr : r < 87) (he : id = 192 + r + 187 * v) : id < NTOT ∧ wdesc id = dView v r := by
  have h1 : (id - 192) / 187 = v := by omega
  have h2 : (id - 192) % 187 = r := by omega
  have h3 : ¬ id < 90 := by omega
  have h4 : ¬ id < 192 := by omega
  have h5 : id < 566 := by omega
  refine ⟨by unfold NTOT; omega, ?_⟩
  unfold wdesc
  rw [if_neg h3, if_neg h4, if_pos h5, h1, h2, if_pos hr]
theorem wd_life {v p r id : Nat} (hv : v < 2) (hp : p < 20) (hr : r < 5) (he : id = 279 + r + 187 * v + 5 * p) : id < NTOT ∧ wdesc id = dLife v p r := by
  have h1 : (id - 192) / 187 = v := by omega
  have h2 : (id - 192) % 187 = 87 + 5 * p + r := by omega
  have h3 : ¬ id < 90 := by omega
  have h4 : ¬ id < 192 := by omega
  have h5 : id < 566 := by omega
  have h6 : (87 + 5 * p + r - 87) / 5 = p := by omega
  have h7 : (87 + 5 * p + r - 87) % 5 = r := by omega
  refine ⟨by unfold NTOT; omega, ?_⟩
  unfold wdesc
  rw [if_neg h3, if_neg h4, if_pos h5, h1, h2, if_neg (by omega), h6, h7]
theorem wd_par {v i : Nat} (hv : v < 2) (hi : i < 35) : 200 + 187 * v + 1 * i < NTOT ∧ wdesc (200 + 187 * v + 1 * i) = .inr (0, 8, 64, v, i) := by
  obtain ⟨h1, h2⟩ := wd_view (id := 200 + 187 * v + 1 * i) hv (r := 8 + i) (by omega) (by omega)
  refine ⟨h1, h2.trans ?_⟩
  unfold dView
  rw [if_pos ⟨by omega, by omega⟩, show 8 + i - 8 = i by omega]
theorem wd_inf {v i : Nat} (hv : v < 2) (hi : i < 35) : 236 + 187 * v + 1 * i < NTOT ∧ wdesc (236 + 187 * v + 1 * i) = .inr (0, 17, 65, v, i) := by
  obtain ⟨h1, h2⟩ := wd_view (id := 236 + 187 * v + 1 * i) hv (r := 44 + i) (by omega) (by omega)
  refine ⟨h1, h2.trans ?_⟩
  unfold dView
  rw [if_neg (by omega), if_pos ⟨by omega, by omega⟩, show 44 + i - 44 = i by omega]
def gainB (d : dC) (i : Nat) : Bool := match d with
  | .inr a => decide (a = (0, 24, 122, i, 0))
  | _ => false
theorem wd_gain0 : ∀ i, i < 20 → gainB (wdesc (48 + 1 * i)) i = true := by decide +kernel
theorem wd_gain {i : Nat} (h : i < 20) : 48 + 1 * i < NTOT ∧ wdesc (48 + 1 * i) = .inr (0, 24, 122, i, 0) := by
  refine ⟨by unfold NTOT; omega, ?_⟩
  have := wd_gain0 i h
  unfold gainB at this
  split at this
  · rename_i a he
    rw [he, of_decide_eq_true this]
  · cases this
def RO (R : Room) (n : Nat) : Prop := n ≤ R.frames ∧ 60 * n ≤ R.locals
theorem RO.mono {R : Room} {n k : Nat} (h : RO R n) (hk : k ≤ n) : RO R k := ⟨Nat.le_trans hk h.1, Nat.le_trans (Nat.mul_le_mul_left _ hk) h.2⟩
theorem RO.call {R : Room} {fr n : Nat} (h : RO R (fr + 1)) (hn : n ≤ 41) : fr + 1 ≤ R.frames ∧ 8 + (n + 11) + 60 * fr ≤ R.locals := ⟨h.1, by have := h.2; omega⟩
abbrev rmo (fr : Nat) : Room := { frames := fr, cells := 0, slots := 0, locals := 60 * fr }
theorem RO.self {fr : Nat} : RO (rmo fr) fr := ⟨Nat.le_refl _, Nat.le_refl _⟩
theorem sw_out {x : Int32} {lo hi : Int} (h : ∀ k : Int, lo ≤ k → k ≤ hi → ¬ x = Int32.ofInt k) : x.toInt < lo ∨ hi < x.toInt := by
  rcases Int.lt_or_le x.toInt lo with a | a
  · exact Or.inl a
  · rcases Int.lt_or_le hi x.toInt with b | b
    · exact Or.inr b
    · exact absurd (Int32.ofInt_toInt x).symm (h _ a b)
