/-! worlds in the making: what the constructors do -/
def eup (E : Nat → va_E) (i : Nat) (x : va_E) : Nat → va_E := fun j => if j = i then x else E j
theorem eup_self {E : Nat → va_E} {i : Nat} {x : va_E} : eup E i x i = x := if_pos rfl
theorem eup_ne {E : Nat → va_E} {i j : Nat} {x : va_E} (h : j ≠ i) : eup E i x j = E j := if_neg h
def ewo (b : Nat) (E : Nat → va_E) (m : Nat) : va_W := (List.range m).map (fun j => (b + j, E j))
theorem ewo_len {b m : Nat} {E : Nat → va_E} : (ewo b E m).length = m := by simp [ewo]
theorem ewo_get {b m j : Nat} {E : Nat → va_E} (h : j < m) : (ewo b E m)[j]? = some (b + j, E j) := by
  unfold ewo
  rw [List.getElem?_map, List.getElem?_range h]
  rfl
theorem ewo_of {b m k : Nat} {E : Nat → va_E} {q : Nat × va_E} (h : (ewo b E m)[k]? = some q) : k < m ∧ q = (b + k, E k) := by
  have hl : k < (ewo b E m).length := (List.getElem?_eq_some_iff.mp h).1
  rw [ewo_len] at hl
  rw [ewo_get hl] at h
  exact ⟨hl, (Option.some.inj h).symm⟩
theorem ewo_set {b m j : Nat} {E : Nat → va_E} {x : va_E} : (ewo b E m).set j (b + j, x) = ewo b (eup E j x) m := by
  apply List.ext_getElem?
  intro k
  by_cases hk : k < m
  · by_cases e : k = j
    · subst e
      rw [List.getElem?_set_self (by rw [ewo_len]; exact hk), ewo_get hk, eup_self]
    · rw [List.getElem?_set_ne (Ne.symm e), ewo_get hk, ewo_get hk, eup_ne e]
  · rw [List.getElem?_eq_none (by rw [List.length_set, ewo_len]; omega), List.getElem?_eq_none (by rw [ewo_len]; omega)]
theorem ewo_push {b m : Nat} {E : Nat → va_E} {x : va_E} : ewo b E m ++ [(b + m, x)] = ewo b (eup E m x) (m + 1) := by
  apply List.ext_getElem?
  intro k
  by_cases hk : k < m
  · rw [List.getElem?_append_left (by rw [ewo_len]; exact hk), ewo_get hk, ewo_get (by omega), eup_ne (by omega)]
  · rw [List.getElem?_append_right (by rw [ewo_len]; omega), ewo_len]
    by_cases e : k = m
    · subst e
      rw [ewo_get (by omega), eup_self, Nat.sub_self]
      rfl
    · rw [List.getElem?_eq_none (by simp; omega), List.getElem?_eq_none (by rw [ewo_len]; omega)]
theorem ewo_D {b m : Nat} {E : Nat → va_E} : va_D (fun q => b ≤ q) (ewo b E m) := by
  refine ⟨fun i j p q hi hj h => ?_, fun k q h => ?_⟩
  · obtain ⟨-, rfl⟩ := ewo_of hi
    obtain ⟨-, rfl⟩ := ewo_of hj
    exact Nat.add_left_cancel h
  · obtain ⟨-, rfl⟩ := ewo_of h
    exact Nat.le_add_right _ _
/-- cells o .. o + m - 1 are made; those of ex aren't as they will be -/
def Kw (Z : ZT) (τ : St) (o : Nat) (ex : List (Nat × va_E)) (m : Nat) (s : State) (H : Heap) (locs : List Loc) : Prop :=
  ∃ E : Nat → va_E, va_P Z.2.1 wdcl (ewo (Z.1 + o) E m) H ∧ H.size = Z.1 + o + m ∧ va_S (fun q => Z.1 + o ≤ q) s.heap H locs ∧
    (ex.map Prod.fst).Nodup ∧ (∀ q ∈ ex, q.1 < m ∧ E q.1 = q.2) ∧ (∀ j, j < m → (∀ q ∈ ex, q.1 ≠ j) → E j = we Z τ (wdesc (o + j)))
section CTOR
variable {p : Program} {l : Launch} {e : Env} {R : Room} {s : State} {m : MethodId} {args : Array Value} {below : List Frame} {meth : Method} {c : Code} {H : Heap} {locs : List Loc} {cells slots : Nat} {Q : State → Prop}
variable {cc : ByteArray} {own : String} {nL : Nat} {Z : ZT} {τ : St} {pc : Nat} {ls : Array Slot} {rest : List Value} {o n : Nat} {ex : List (Nat × va_E)}
theorem Kw.S (h : Kw Z τ o ex n s H locs) : va_S (fun q => Z.1 + o ≤ q) s.heap H locs := by
  obtain ⟨E, -, -, h, -⟩ := h
  exact h
theorem Kw.size (h : Kw Z τ o ex n s H locs) : H.size = Z.1 + o + n := by
  obtain ⟨E, -, h, -⟩ := h
  exact h
/-- the exceptions in another order -/
theorem Kw.perm {ex' : List (Nat × va_E)} (h : Kw Z τ o ex n s H locs) (hp : ex.Perm ex') : Kw Z τ o ex' n s H locs := by
  obtain ⟨E, h1, h2, h3, h4, h5, h6⟩ := h
  refine ⟨E, h1, h2, h3, (hp.map _).nodup_iff.mp h4, fun q hq => h5 q (hp.mem_iff.mpr hq), fun j hj hn => h6 j hj (fun q hq => hn q (hp.mem_iff.mp hq))⟩
/-- what is as it will be, is no exception -/
theorem Kw.drop {j : Nat} {x : va_E} (h : Kw Z τ o ((j, x) :: ex) n s H locs) (hx : x = we Z τ (wdesc (o + j))) : Kw Z τ o ex n s H locs := by
  obtain ⟨E, h1, h2, h3, h4, h5, h6⟩ := h
  refine ⟨E, h1, h2, h3, (List.nodup_cons.mp h4).2, fun q hq => h5 q (List.mem_cons_of_mem _ hq), fun k hk hn => ?_⟩
  by_cases e : k = j
  · subst e
    rw [(h5 (k, x) List.mem_cons_self).2, hx]
  · exact h6 k hk (fun q hq => by
      rcases List.mem_cons.mp hq with rfl | hq
      · exact fun q => e q.symm
      · exact hn q hq)
/-- an exception as another reading of the same cell -/
theorem Kw.as {j : Nat} {cA : ClassId} {k : Nat} {f g : Nat → Option Nat} (h : Kw Z τ o ((j, .inl (cA, k, .inr (.inr (.inr (.inr f))))) :: ex) n s H locs) (hx : ∀ i, i < k → f i = g i) : Kw Z τ o ((j, .inl (cA, k, .inr (.inr (.inr (.inr g))))) :: ex) n s H locs := by
  obtain ⟨E, h1, h2, h3, h4, h5, h6⟩ := h
  have hj := h5 _ List.mem_cons_self
  have hne : ∀ q ∈ ex, q.1 ≠ j := fun q hq e => (List.nodup_cons.mp h4).1 (List.mem_map.mpr ⟨q, hq, e⟩)
  refine ⟨eup E j (.inl (cA, k, .inr (.inr (.inr (.inr g))))), ?_, h2, h3, h4, fun q hq => ?_, fun i hi hn => ?_⟩
  · intro i q hq
    obtain ⟨hi, rfl⟩ := ewo_of hq
    have hq1 := h1 i _ (ewo_get hi)
    by_cases e : i = j
    · subst e
      have hj2 : E i = .inl (cA, k, .inr (.inr (.inr (.inr f)))) := hj.2
      rw [hj2] at hq1
      rw [eup_self]
      refine Eq.trans hq1 ?_
      refine congrArg some ?_
      show arrV cA k (fun j => va_rf (f j)) = arrV cA k (fun j => va_rf (g j))
      unfold arrV
      congr 1
      apply Array.ext
      · simp
      · intro q h1 h2
        simp only [Array.getElem_ofFn]
        rw [hx q (by simpa using h1)]
    · rw [eup_ne e]
      exact hq1
  · rcases List.mem_cons.mp hq with rfl | hq
    · exact ⟨hj.1, eup_self⟩
    · exact ⟨(h5 q (List.mem_cons_of_mem _ hq)).1, by rw [eup_ne (hne q hq)]; exact (h5 q (List.mem_cons_of_mem _ hq)).2⟩
  · have hij : i ≠ j := fun e => hn _ List.mem_cons_self e.symm
    rw [eup_ne hij]
    exact h6 i hi (fun q hq => by
      rcases List.mem_cons.mp hq with rfl | hq
      · exact hij.symm
      · exact hn q (List.mem_cons_of_mem _ hq))
theorem Kw.upd {E : Nat → va_E} {j : Nat} {x y : va_E} {H1 : Heap} {locs1 : List Loc} (hE : E j = x) (h2 : H1.size = Z.1 + o + n) (h4 : (((j, x) :: ex).map Prod.fst).Nodup) (h5 : ∀ q ∈ (j, x) :: ex, q.1 < n ∧ E q.1 = q.2) (h6 : ∀ j', j' < n → (∀ q ∈ (j, x) :: ex, q.1 ≠ j') → E j' = we Z τ (wdesc (o + j')))
    (hP : va_P Z.2.1 wdcl ((ewo (Z.1 + o) E n).set j (Z.1 + o + j, y)) H1) (hS : va_S (fun q => Z.1 + o ≤ q) s.heap H1 locs1) : Kw Z τ o ((j, y) :: ex) n s H1 locs1 := by
  have hne : ∀ q ∈ ex, q.1 ≠ j := fun q hq e => (List.nodup_cons.mp h4).1 (List.mem_map.mpr ⟨q, hq, e⟩)
  rw [ewo_set] at hP
  refine ⟨eup E j y, hP, h2, hS, h4, fun q hq => ?_, fun i hi hn => ?_⟩
  · rcases List.mem_cons.mp hq with rfl | hq
    · exact ⟨(h5 _ List.mem_cons_self).1, eup_self⟩
    · exact ⟨(h5 q (List.mem_cons_of_mem _ hq)).1, by rw [eup_ne (hne q hq)]; exact (h5 q (List.mem_cons_of_mem _ hq)).2⟩
  · have hij : i ≠ j := fun e => hn _ List.mem_cons_self e.symm
    rw [eup_ne hij]
    exact h6 i hi (fun q hq => by
      rcases List.mem_cons.mp hq with rfl | hq
      · exact hij.symm
      · exact hn q (List.mem_cons_of_mem _ hq))
theorem Kw.push {x : va_E} {H1 : Heap} (h : Kw Z τ o ex n s H locs) (hx : va_at Z.2.1 wdcl (Z.1 + o + n, x) H1) (z1 : H1.size = H.size + 1) (o1 : ∀ q, q < H.size → H1[q]? = H[q]?) : Kw Z τ o ((n, x) :: ex) (n + 1) s H1 locs := by
  obtain ⟨E, h1, h2, h3, h4, h5, h6⟩ := h
  have hk : ∀ (k : Nat) (q : Nat × va_E), (ewo (Z.1 + o) E n)[k]? = some q → H1[q.1]? = H[q.1]? := fun k q hq => o1 q.1 ((h1 k q hq).lt)
  refine ⟨eup E n x, ?_, by omega, ⟨Nat.le_trans h3.1 (by omega), fun q a b => (o1 q (Nat.lt_of_lt_of_le a h3.1)).trans (h3.2.1 q a b), h3.2.2⟩, ?_, fun q hq => ?_, fun i hi hn => ?_⟩
  · rw [← ewo_push]
    refine (h1.kept hk).app (fun k q hq => ?_)
    have hz : k < 1 := (List.getElem?_eq_some_iff.mp hq).1
    rw [show k = 0 by omega] at hq
    cases hq
    exact hx
  · refine List.nodup_cons.mpr ⟨fun hm => ?_, h4⟩
    obtain ⟨q, hq, e⟩ := List.mem_map.mp hm
    have := (h5 q hq).1
    omega
  · rcases List.mem_cons.mp hq with rfl | hq
    · exact ⟨Nat.lt_succ_self _, eup_self⟩
    · have := h5 q hq
      exact ⟨by omega, by rw [eup_ne (by omega)]; exact this.2⟩
  · have : i ≠ n := fun e => hn _ List.mem_cons_self e.symm
    rw [eup_ne this]
    exact h6 i (by omega) (fun q hq => hn q (List.mem_cons_of_mem _ hq))
theorem k_get (hc : Cxz p s m meth c args cc own nL Z) (hw : Kw Z τ o ex n s H locs) {j ci k idx N : Nat} {C : String} {T : u_T} {fs : List Value} {v : Value} (hm : (j, .inr (ci, fs)) ∈ ex) (hcl : wdcl[ci]? = some (C, T, N)) (hin : ∀ w ∈ u_ws C T N, w ∈ TB) (hk : k < N) (hv : fs[k]? = some v)
    (hl : Cond.fieldLink own idx (T k).1 (T k).2.1 (T k).2.2.1 ∈ TB) (hdg : decode cc pc = .ok (.getfield idx, 3)) (kk : W p l e R s m args below meth c H locs cells slots Q (F0 m (pc + 3) ls (v :: rest))) : W p l e R s m args below meth c H locs cells slots Q (F0 m pc ls (.ref (Z.1 + o + j) :: rest)) := by
  obtain ⟨E, h1, h2, h3, h4, h5, h6⟩ := hw
  obtain ⟨hj, he⟩ := h5 _ hm
  have he' : (ewo (Z.1 + o) E n)[j]? = some (Z.1 + o + j, .inr (ci, fs)) := by rw [ewo_get hj]; exact congrArg some (congrArg (Prod.mk _) he)
  exact va_get hc.hx hc.hb hc.ht hin hc.ho hc.hk h1 j he' hcl k hk (hc.ht _ hl) (fun _ h => h) hv hdg kk
theorem k_put (hc : Cxz p s m meth c args cc own nL Z) (hnm0 : meth.name = "<init>") {j ci k idx N : Nat} {C : String} {T : u_T} {ty0 : Nat → FieldType} {fs : List Value} {v : Value} (hw : Kw Z τ o ((j, .inr (ci, fs)) :: ex) n s H locs) (hcl : wdcl[ci]? = some (C, T, N)) (hin : ∀ w ∈ u_ws C T N, w ∈ TB) (hty : ∀ k, k < N → parseFieldDescriptor (T k).2.2.1 = some (ty0 k)) (hnm : ∀ a, a < N → ∀ b, b < N → a ≠ b → (T a).2.1 ≠ (T b).2.1) (hk : k < N) (hdecl : (T k).1 = own) (hlen0 : fs.length = N)
    (hl : Cond.fieldLink own idx (T k).1 (T k).2.1 (T k).2.2.1 ∈ TB) {ty : FieldType} (hpd : parseFieldDescriptor (T k).2.2.1 = some ty) (hn : narrow ty v = v) (hfit : fits ty v = true) (hdg : decode cc pc = .ok (.putfield idx, 3))
    (kk : ∀ (H1 : Heap) (locs1 : List Loc), Kw Z τ o ((j, .inr (ci, fs.set k v)) :: ex) n s H1 locs1 → (fs.set k v).length = N → W p l e R s m args below meth c H1 locs1 cells slots Q (F0 m (pc + 3) ls rest)) : W p l e R s m args below meth c H locs cells slots Q (F0 m pc ls (v :: .ref (Z.1 + o + j) :: rest)) := by
  have hlen : k < fs.length := by omega
  obtain ⟨E, h1, h2, h3, h4, h5, h6⟩ := hw
  obtain ⟨hj, he⟩ := h5 _ List.mem_cons_self
  have he' : (ewo (Z.1 + o) E n)[j]? = some (Z.1 + o + j, .inr (ci, fs)) := by rw [ewo_get hj]; exact congrArg some (congrArg (Prod.mk _) he)
  have hsz : ∀ (H1 : Heap) (locs1 : List Loc), va_P Z.2.1 wdcl ((ewo (Z.1 + o) E n).set j (Z.1 + o + j, .inr (ci, fs.set k v))) H1 → va_S (fun q => Z.1 + o ≤ q) s.heap H1 locs1 → H1.size = H.size → W p l e R s m args below meth c H1 locs1 cells slots Q (F0 m (pc + 3) ls rest) := fun H1 locs1 a b z => kk H1 locs1 (Kw.upd he (z.trans h2) h4 h5 h6 a b) (by rw [List.length_set]; exact hlen0)
  have hKn := hc.hk.1 ci _ hcl
  obtain ⟨r, h1', cell, q1, q2, q3, q4⟩ := h1 j _ he'
  have hr : r = (C, T, N) := Option.some.inj (h1'.symm.trans hcl)
  subst hr
  have hap := va_apart (own := own) hc.ht hin ty0 hty hnm hc.hk hcl
  obtain ⟨hS, hfc, kC, hkC, hkind⟩ := hKn
  obtain ⟨cf, kf, fi, f, hi, hsl⟩ := hS k hk
  have hst := (u_facts hfc hkC (u_lays hc.ht hin hk) hi).1
  have hlay := hc.ht _ (hin _ (u_in_lay hk))
  unfold u_lay at hlay
  by_cases hfin : (T k).2.2.2 = true
  · rw [if_pos hfin] at hlay
    have hcf : m.cls = cf := by
      obtain ⟨_, _, c', _, _, _, -, -, hf', -, -, -, hown2, -⟩ := Cond.laysFinal_spec hlay
      have e1 : c' = cf := by have := hi.symm.trans hf'; simp at this; exact this.1.symm
      rw [hdecl] at hown2
      have := hc.ho.symm.trans hown2
      rw [← e1]
      exact Option.some.inj this
    have h6' := u_fits hfc hkC hkind (Or.inr hlay) hi hpd hn hfit
    refine W.putFinK hc.hx hc.hb hc.ho (hc.ht _ hl) hi hst hcf hnm0 (by rw [q2]; exact h6') q1 q3 (by rw [hsl]; exact k2_hasslot (q4 k hk)) rfl rfl hdg fun H' e1 e2 e3 => ?_
    rw [hsl] at e1 ⊢
    exact hsz H' _ (h1.set ewo_D he' ⟨_, hcl, t_OB.to (V := updV (vp_V fs) k v) ⟨_, e1, q2, q3, t_set q4 hap hk v⟩ (fun j _ => vp_updV_set hlen v j)⟩ e3) (h3.put e2 e3 (Nat.le_add_right _ _)) e2
  · rw [if_neg hfin] at hlay
    have h6' := u_store hfc hkC hkind hlay hi hpd hn hfit
    refine W.putK hc.hx hc.hb (f := f) ⟨hc.ho, hc.ht _ hl, ⟨_, _, _, hi⟩, hst⟩ (by rw [q2]; exact h6') q1 q3 (by rw [hsl]; exact k2_hasslot (q4 k hk)) rfl rfl hdg fun H' e1 e2 e3 => ?_
    rw [hsl] at e1 ⊢
    exact hsz H' _ (h1.set ewo_D he' ⟨_, hcl, t_OB.to (V := updV (vp_V fs) k v) ⟨_, e1, q2, q3, t_set q4 hap hk v⟩ (fun j _ => vp_updV_set hlen v j)⟩ e3) (h3.put e2 e3 (Nat.le_add_right _ _)) e2
theorem k_new (hc : Cxz p s m meth c args cc own nL Z) (hw : Kw Z τ o ex n s H locs) {ci idx N : Nat} {C : String} {T : u_T} {ty0 : Nat → FieldType} {fs : List Value} (hcl : wdcl[ci]? = some (C, T, N)) (hin : ∀ w ∈ u_ws C T N, w ∈ TB) (hty : ∀ k, k < N → parseFieldDescriptor (T k).2.2.1 = some (ty0 k)) (hfs : ∀ j, j < N → defaultValue (ty0 j) = vp_V fs j)
    (hl : Cond.classLink own idx C ∈ TB) (hi1 : Cond.instantiable C N ∈ TB) (hi2 : Cond.initialized C ∈ TB) (hcells : cells + 1 ≤ R.cells) (hslots : slots + N ≤ R.slots) (hdg : decode cc pc = .ok (.new idx, 3))
    (kk : ∀ (H1 : Heap), Kw Z τ o ((n, .inr (ci, fs)) :: ex) (n + 1) s H1 locs → W p l e R s m args below meth c H1 locs (cells + 1) (slots + N) Q (F0 m (pc + 3) ls (.ref (Z.1 + o + n) :: rest))) : W p l e R s m args below meth c H locs cells slots Q (F0 m pc ls rest) := by
  have hKn := hc.hk.1 ci _ hcl
  have hs := hw.size
  refine W.newcK hc.hx hc.hb hc.ho (hc.ht _ hl) (hc.ht _ hi1) (hc.ht _ hi2) rfl hdg hcells hslots hKn.2.1 hs fun H1 kC hkC e1 z1 o1 => ?_
  exact kk H1 (hw.push ⟨_, hcl, (u_born ty0 hc.ht hin hKn hkC e1 hty).to hfs⟩ (by omega) (fun q hq => o1 q (by omega)))
theorem k_newa (hc : Cxz p s m meth c args cc own nL Z) (hw : Kw Z τ o ex n s H locs) {atype : ArrayType} {ty : FieldType} {t N' : Nat} {i : Int32} {cA : ClassId} {a0 : vp_A} (hty : newarray.typeOf atype = ty) (hw2 : Cond.arrayClass ty ∈ TB) (ht : (wtys Z)[t]? = some (cA, ty)) (hra : va_RA s cA ty = (s.vm.findClass ("[" ++ ty.toString) = some cA)) (ha : ∀ cA : ClassId, vp_cell cA a0 = arrV cA N' (fun _ => defaultValue ty)) (hn : ¬ i < 0) (hN : i.toNatClampNeg = N') (hbytes : N' * componentBytes ty ≤ 536870912)
    (hcells : cells + 1 ≤ R.cells) (hslots : slots + N' ≤ R.slots) (hdg : decode cc pc = .ok (.newarray atype, 2))
    (kk : ∀ (H1 : Heap), Kw Z τ o ((n, .inl (cA, a0)) :: ex) (n + 1) s H1 locs → W p l e R s m args below meth c H1 locs (cells + 1) (slots + N') Q (F0 m (pc + 2) ls (.ref (Z.1 + o + n) :: rest))) : W p l e R s m args below meth c H locs cells slots Q (F0 m pc ls (.int i :: rest)) := by
  subst hty
  have hs := hw.size
  refine va_newaK hc.hx hc.hb (hc.ht _ hw2) (g := F0 m pc ls (.int i :: rest)) rfl hdg rfl hn hN hbytes hcells hslots hs fun H1 cB e1 z1 o1 hAr hNm => ?_
  have h9 := (hc.hk.2 t _ ht).2
  rw [hra] at h9
  obtain rfl : cA = cB := Option.some.inj (h9.symm.trans hNm)
  refine kk H1 (hw.push ?_ (by omega) (fun q hq => o1 q (by omega)))
  show H1[_]? = some (vp_cell _ _)
  rw [ha]
  exact e1
theorem k_anew (hc : Cxz p s m meth c args cc own nL Z) (hw : Kw Z τ o ex n s H locs) {C : String} {t N' idx : Nat} {i : Int32} {cA : ClassId} (hl : Cond.classLink own idx C ∈ TB) (hao : va_AO C s) (ht : (wtys Z)[t]? = some (cA, .object C)) (hn : ¬ i < 0) (hN : i.toNatClampNeg = N') (hbytes : N' * 4 ≤ 536870912)
    (hcells : cells + 1 ≤ R.cells) (hslots : slots + N' ≤ R.slots) (hdg : decode cc pc = .ok (.anewarray idx, 3))
    (kk : ∀ (H1 : Heap), Kw Z τ o ((n, .inl (cA, N', .inr (.inr (.inr (.inr (fun _ => none)))))) :: ex) (n + 1) s H1 locs → W p l e R s m args below meth c H1 locs (cells + 1) (slots + N') Q (F0 m (pc + 3) ls (.ref (Z.1 + o + n) :: rest))) : W p l e R s m args below meth c H locs cells slots Q (F0 m pc ls (.int i :: rest)) := by
  subst hN
  have hs := hw.size
  refine W.anew hc.hx hc.hb hc.ho (hc.ht _ hl) (va_AO.use hao) (g := F0 m pc ls (.int i :: rest)) rfl hdg rfl hn hbytes hcells hslots fun cB kA comp f1 f2 f3 f4 => ?_
  obtain ⟨-, kB, cp, -, -, -, h9⟩ := hc.hk.2 t _ ht
  obtain rfl : cA = cB := Option.some.inj (h9.symm.trans f1)
  rw [hs]
  refine kk _ (hw.push ?_ (by rw [Array.size_push]) (fun q hq => by rw [Array.getElem?_push, if_neg (Nat.ne_of_lt hq)]))
  show (Array.push H _)[Z.1 + o + n]? = some (vp_cell _ _)
  rw [← hs, Array.getElem?_push_size, vp_cell_q]
  exact congrArg some (arrV_new _ _ _)
theorem k_ast (hc : Cxz p s m meth c args cc own nL Z) {j t N' : Nat} {i x : Int32} {cA : ClassId} {f : Nat → Int32} (hw : Kw Z τ o ((j, .inl (cA, N', .inl f)) :: ex) n s H locs) (ht : (wtys Z)[t]? = some (cA, .int)) (hin : vp_in i N') (hdg : decode cc pc = .ok (.iastore, 1))
    (kk : ∀ (H1 : Heap) (locs1 : List Loc), Kw Z τ o ((j, .inl (cA, N', .inl (upd f i.toNatClampNeg x))) :: ex) n s H1 locs1 → W p l e R s m args below meth c H1 locs1 cells slots Q (F0 m (pc + 1) ls rest)) : W p l e R s m args below meth c H locs cells slots Q (F0 m pc ls (.int x :: .int i :: .ref (Z.1 + o + j) :: rest)) := by
  obtain ⟨E, h1, h2, h3, h4, h5, h6⟩ := hw
  obtain ⟨hj, he⟩ := h5 _ List.mem_cons_self
  have he' : (ewo (Z.1 + o) E n)[j]? = some (Z.1 + o + j, .inl (cA, N', .inl f)) := by rw [ewo_get hj]; exact congrArg some (congrArg (Prod.mk _) he)
  refine W.iast hc.hx hc.hb (h1 j _ he') ((hc.hk.2 t _ ht).1 N' (fun j => .int (f j))) (fun q => by cases q) (by show ¬ (i < 0 ∨ (arrV _ _ _).slots.size ≤ _); rw [arrV_size]; exact hin) rfl rfl hdg fun H1 e z oq => ?_
  refine kk H1 _ (Kw.upd he (z.trans h2) h4 h5 h6 (h1.set ewo_D he' ?_ oq) (h3.put z oq (Nat.le_add_right _ _)))
  show H1[Z.1 + o + j]? = some (vp_cell _ _)
  rw [e]
  rw [vp_cell_i, vp_cell_i, arrV_store]
  congr 2
  funext q
  by_cases hq : q = i.toNatClampNeg
  · subst hq
    simp [updV, upd]
  · simp [updV, upd, hq]
theorem k_aast (hc : Cxz p s m meth c args cc own nL Z) {j t N' v : Nat} {i : Int32} {cA : ClassId} {E0 : String} {f : Nat → Option Nat} (hw : Kw Z τ o ((j, .inl (cA, N', .inr (.inr (.inr (.inr f))))) :: ex) n s H locs) (ht : (wtys Z)[t]? = some (cA, .object E0)) (hr : va_Any E0 s H v) (hin : vp_in i N') (hdg : decode cc pc = .ok (.aastore, 1))
    (kk : ∀ (H1 : Heap) (locs1 : List Loc), Kw Z τ o ((j, .inl (cA, N', .inr (.inr (.inr (.inr (va_up f i.toNatClampNeg (some v))))))) :: ex) n s H1 locs1 → W p l e R s m args below meth c H1 locs1 cells slots Q (F0 m (pc + 1) ls rest)) : W p l e R s m args below meth c H locs cells slots Q (F0 m pc ls (.ref v :: .int i :: .ref (Z.1 + o + j) :: rest)) := by
  obtain ⟨E, h1, h2, h3, h4, h5, h6⟩ := hw
  obtain ⟨hj, he⟩ := h5 _ List.mem_cons_self
  have he' : (ewo (Z.1 + o) E n)[j]? = some (Z.1 + o + j, .inl (cA, N', .inr (.inr (.inr (.inr f))))) := by rw [ewo_get hj]; exact congrArg some (congrArg (Prod.mk _) he)
  have hlt : i.toNatClampNeg < N' := Nat.not_le.mp fun q => hin (Or.inr q)
  have h0 : ¬ i < 0 := fun q => hin (Or.inl q)
  obtain ⟨cellV, g1, g3, ⟨kC, hkC⟩, hasg⟩ := hr
  obtain ⟨kA, comp, k1, k2, k3, -⟩ := (hc.hk.2 t _ ht).2
  obtain ⟨kE, hkE, -⟩ := Vm.findClass_spec k3
  refine W.aast hc.hx hc.hb (h1 j _ he') (fun q h => by cases h) (fun h => by cases h) k1 k2 rfl hkE ⟨h0, by show _ < (arrV _ _ _).slots.size; rw [arrV_size]; exact hlt⟩ g1 (fun q h => by rw [h] at g3; cases g3) hkC (hasg _ k3) rfl rfl hdg fun H1 e z oq => ?_
  refine kk H1 _ (Kw.upd he (z.trans h2) h4 h5 h6 (h1.set ewo_D he' ?_ oq) (h3.put z oq (Nat.le_add_right _ _)))
  show H1[Z.1 + o + j]? = some (vp_cell _ _)
  rw [e]
  rw [vp_cell_q, vp_cell_q, arrV_store]
  congr 2
  funext q
  by_cases hq : q = i.toNatClampNeg
  · subst hq
    simp [updV, va_up, va_rf]
  · simp [updV, va_up, hq]
theorem Kw.any (hc : Cxz p s m meth c args cc own nL Z) (hw : Kw Z τ o ex n s H locs) {j ci N : Nat} {C : String} {T : u_T} {sl : List sD} (hj : j < n) (hne : ∀ q ∈ ex, q.1 ≠ j) (hd : wdesc (o + j) = .inl (ci, sl)) (hcl : wdcl[ci]? = some (C, T, N)) : va_Any C s H (Z.1 + o + j) := by
  obtain ⟨E, h1, h2, h3, h4, h5, h6⟩ := hw
  refine va_rAny hc.hk h1 (q0 := j) (ci := ci) (fs := sl.map (svz Z τ)) (r := (C, T, N)) ?_ hcl vb_asgS
  rw [ewo_get hj, h6 j hj hne, hd]
  rfl
theorem k_anyS (hc : Cxz p s m meth c args cc own nL Z) (hw : Kw Z τ o ex n s H locs) {k : Nat} (hk : k < 34) : va_Any "java/lang/String" s H (Z.2.2.2 k) := by
  obtain ⟨cell, h1, h2, h3, h4⟩ := (hc.2.2.2.a1.1 k hk).1
  have hS := hw.S
  obtain ⟨kC, hkC, -⟩ := Vm.findClass_spec h3
  have h4' : ¬ Z.1 ≤ Z.2.2.2 k := h4
  refine ⟨cell, by rw [hS.2.1 _ (Array.getElem?_eq_some_iff.mp h1).1 (by omega)]; exact h1, h2, ⟨kC, hkC⟩, fun comp h => ?_⟩
  rw [Option.some.inj (h.symm.trans h3)]
  exact va_asg _ _
theorem k_mna (hc : Cxz p s m meth c args cc own nL Z) (hw : Kw Z τ o ex n s H locs) {idx : Nat} {i k : Int32} {N' K' : Nat} {cA cB : ClassId} (hl : Cond.classLink own idx "[[I" ∈ TB) (hao : (Cond.arrayOver (.array .int)).before args s = true) (hac : Cond.arrayClass .int ∈ TB) (ht : (wtys Z)[6]? = some (cA, .array .int)) (ht0 : (wtys Z)[0]? = some (cB, .int)) (hn : ¬ i < 0) (hk : ¬ k < 0) (hN : i.toNatClampNeg = N') (hM : k.toNatClampNeg = K')
    (hb1 : N' * 4 ≤ 536870912) (hb2 : K' * 4 ≤ 536870912) (hcells : cells + (1 + N') ≤ R.cells) (hslots : slots + (N' + N' * K') ≤ R.slots) (hdg : decode cc pc = .ok (.multianewarray idx 2, 4))
    (hd0 : we Z τ (wdesc (o + n)) = .inl (cA, N', .inr (.inr (.inr (.inr (fun j => some (Z.1 + o + n + 1 + j))))))) (hd1 : ∀ j, j < N' → we Z τ (wdesc (o + (n + 1 + j))) = .inl (cB, K', .inl (fun _ => 0)))
    (kk : ∀ (H1 : Heap), Kw Z τ o ex (n + 1 + N') s H1 locs → W p l e R s m args below meth c H1 locs (cells + 1 + N') (slots + N' + N' * K') Q (F0 m (pc + 4) ls (.ref (Z.1 + o + n) :: rest))) : W p l e R s m args below meth c H locs cells slots Q (F0 m pc ls (.int k :: .int i :: rest)) := by
  have hs := hw.size
  refine mn_row hc.hx hc.hb (ty := .int) hc.ho (hc.ht _ hl) hao (hc.ht _ hac) hs hn hk hN hM hb1 hb2 (by omega) rfl rfl hcells hslots hdg fun cA' cy H1 fA fC z1 o1 e1 e2 => ?_
  have hA : cA = cA' := Option.some.inj ((hc.hk.2 6 _ ht).2.symm.trans fA)
  have hB : cB = cy := Option.some.inj ((hc.hk.2 0 _ ht0).2.symm.trans fC)
  subst hA
  subst hB
  refine kk H1 ?_
  obtain ⟨E, h1, h2, h3, h4, h5, h6⟩ := hw
  refine ⟨fun j => if j < n then E j else we Z τ (wdesc (o + j)), ?_, by omega, ⟨Nat.le_trans h3.1 (by omega), fun q a b => (o1 q (by have := h3.1; omega)).trans (h3.2.1 q a b), h3.2.2⟩, h4, fun q hq => ?_, fun j hj hne => ?_⟩
  · intro j q hq
    obtain ⟨hj, rfl⟩ := ewo_of hq
    by_cases hjn : j < n
    · rw [if_pos hjn]
      have hx := h1 j _ (ewo_get hjn)
      exact (show va_P Z.2.1 wdcl (ewo (Z.1 + o) E n) H1 from h1.kept (fun k x hx => by
        obtain ⟨hk, rfl⟩ := ewo_of hx
        exact o1 _ (by show Z.1 + o + k < Z.1 + o + n; omega))) j _ (ewo_get hjn)
    · rw [if_neg hjn]
      by_cases e : j = n
      · subst e
        rw [hd0]
        show H1[Z.1 + o + j]? = some (vp_cell _ _)
        rw [e1, vp_cell_q]
        congr 1
        unfold arrV
        congr 1
        apply Array.ext
        · simp
        · intro q h1 h2
          simp only [Array.getElem_ofFn]
          rw [if_pos (by simpa using h1)]
      · have hj2 : j - (n + 1) < N' := by omega
        have e3 : j = n + 1 + (j - (n + 1)) := by omega
        rw [e3, hd1 _ hj2]
        show H1[Z.1 + o + (n + 1 + (j - (n + 1)))]? = some (vp_cell _ _)
        rw [show Z.1 + o + (n + 1 + (j - (n + 1))) = Z.1 + o + n + 1 + (j - (n + 1)) by omega, e2 _ hj2, vp_cell_i]
        rfl
  · have := h5 q hq
    refine ⟨by omega, ?_⟩
    dsimp only
    rw [if_pos this.1]
    exact this.2
  · show (if j < n then E j else we Z τ (wdesc (o + j))) = _
    by_cases hjn : j < n
    · rw [if_pos hjn]
      exact h6 j hjn hne
    · rw [if_neg hjn]
theorem ao_moved {u U : State} (hvm : u.vm.Alike U.vm) (h : (Cond.arrayOver (.array .int)).before #[] u = true) : (Cond.arrayOver (.array .int)).before #[] U = true := by
  obtain ⟨comp, c, k, h1, h2, h3, h4, h5⟩ := arrayOverA_spec h
  obtain ⟨k', hk', he⟩ := hvm.2.2 _ _ h3
  have e1 := va_idx_bare U.vm comp
  have e2 := va_idx_bare u.vm comp
  rw [hvm.bare_eq] at e1
  have hi := e1.symm.trans (e2.trans h2)
  have hkind : k'.kind = .array comp (.array .int) := by rw [he]; exact h4
  have f1 : U.vm.findClass (FieldType.array .int).toString = some comp := by rw [hvm.findClass]; exact h1
  have f2 : U.vm.findClass ("[" ++ (FieldType.array .int).toString) = some c := by rw [hvm.findClass]; exact h5
  unfold Cond.before Cond.holds
  simp only [Cond.value]
  rw [f1, Option.bind_some]
  refine (congrArg (fun o : Option Nat => (o.bind (fun c => (U.vm.classes[c]?).map fun (k : Class) => match k.kind with | .array _ ty => decide (ty = FieldType.array .int) && decide (U.vm.findClass ("[" ++ (FieldType.array .int).toString) = some c) | _ => false) == some true)) hi).trans ?_
  simp [hk', hkind, f2]
/-- what the constructors' links stand on besides -/
def NX (s : State) : Prop := va_AO "LabourExchange$Act" s ∧ va_AO "LabourExchange$Life" s ∧ va_AO "java/lang/String" s ∧ (Cond.arrayOver (.array .int)).before #[] s = true ∧
  va_Nw (.methodLinkNest "LabourExchange" 9 ⟨"LabourExchange$Reader", "<init>", "()V"⟩ "LabourExchange") s ∧ va_Nw (.methodLinkNest "LabourExchange" 18 ⟨"LabourExchange$Land", "<init>", "()V"⟩ "LabourExchange") s ∧ va_Nw (.methodLinkNest "LabourExchange" 25 ⟨"LabourExchange$Books", "<init>", "()V"⟩ "LabourExchange") s ∧ va_Nw (.methodLinkNest "LabourExchange" 32 ⟨"LabourExchange$Events", "<init>", "()V"⟩ "LabourExchange") s ∧ va_Nw (.methodLinkNest "LabourExchange" 79 ⟨"LabourExchange$Act", "<init>", "()V"⟩ "LabourExchange") s
theorem NX.go {U : State} (h : NX s) (hW : s.WarmedH U.vm) : NX U := by
  obtain ⟨h1, h2, h3, h4, h5, h6, h7, h8, h9⟩ := h
  have hvm := hW.alike
  exact ⟨va_AO.moved hvm h1, va_AO.moved hvm h2, va_AO.moved hvm h3, ao_moved hvm h4, va_Nw.warmM hW h5, va_Nw.warmM hW h6, va_Nw.warmM hW h7, va_Nw.warmM hW h8, va_Nw.warmM hW h9⟩
theorem NX.call {U : State} {g : JFrame} {mk : MethodId} {a : Array Value} (h : NX U) : NX (U.calling g mk a) := by
  obtain ⟨h1, h2, h3, h4, h5, h6, h7, h8, h9⟩ := h
  have hvm : U.vm.Alike (U.calling g mk a).vm := Vm.Alike.refl U.vm
  exact ⟨va_AO.moved hvm h1, va_AO.moved hvm h2, va_AO.moved hvm h3, ao_moved hvm h4, va_Nw.same rfl rfl h5, va_Nw.same rfl rfl h6, va_Nw.same rfl rfl h7, va_Nw.same rfl rfl h8, va_Nw.same rfl rfl h9⟩
def Ws0 (Z : ZT) (o ci : Nat) (fs : List Value) (U : State) : Prop := va_P Z.2.1 wdcl [(Z.1 + o, .inr (ci, fs))] U.heap ∧ U.heap.size = Z.1 + o + 1 ∧ va_K Z.2.1 wdcl (wtys Z) U ∧ WXz Z U U.heap ∧ NX U
def Qk (Z : ZT) (τ : St) (o n : Nat) : Array Value → State → Outcome → State → Prop := fun _ st oc t => oc = .returned none ∧ va_P Z.2.1 wdcl (ewo (Z.1 + o) (fun j => we Z τ (wdesc (o + j))) n) t.heap ∧ t.heap.size = Z.1 + o + n ∧ va_F (fun q => Z.1 + o ≤ q) st t
def Ck (l : Launch) (Z : ZT) (y : MethodName) (cd : ByteArray) (nL : Nat) (rm : Room) (av : List Value) (τ : St) (o ci : Nat) (fs : List Value) (n : Nat) : Prop :=
  Met l y (wsm y cd nL none) rm (va_Pc (.ref (Z.1 + o) :: av) (Ws0 Z o ci fs)) (Qk Z τ o n) rm.cells rm.slots (fun q => Z.1 + o ≤ q)
theorem Ws0.blind {av : List Value} {ci : Nat} {fs : List Value} : FrameBlind (va_Pc av (Ws0 Z o ci fs)) := fun a U g mk q => ⟨q.1, q.2.1, q.2.2.1, va_K.moved (u := U) (U := U.calling g mk a) (Vm.Alike.refl U.vm) q.2.2.2.1, WXz.call q.2.2.2.2.1, NX.call q.2.2.2.2.2⟩
theorem k_met {y : MethodName} {cd : ByteArray} {rm : Room} {av : List Value} {ci : Nat} {fs : List Value} (hy : plainName y.cls = true) (hy2 : y.name = "<init>") (hn : (lg_sl (.ref (Z.1 + o) :: av)).length ≤ nL)
    (body : ∀ (p : Program) (e : Env) (s : State) (m : MethodId) (args : Array Value) (below : List Frame) (meth : Method) (c : Code) (ls : Array Slot), Cxz p s m meth c args cd y.cls nL Z → NX s → meth.name = "<init>" → meth.sig.returnType = none → Kw Z τ o [(0, .inr (ci, fs))] 1 s s.heap [] → lv_has ls nL (lv_args 0 (.ref (Z.1 + o) :: av)) →
      W p l e rm s m args below meth c s.heap [] 0 0 (MQ below (Qk Z τ o n) args s rm.cells rm.slots (fun q => Z.1 + o ≤ q)) (F0 m 0 ls [])) : Ck l Z y cd nL rm av τ o ci fs n := by
  refine Met.ofW (cc := cd) (maxL := nL) (ret := none) hy rfl ?_
  intro p e s m args below meth c s₁ B hml hv
  obtain ⟨rfl, hP, hz, hK, hX, hN⟩ := hv
  have hts := atoms_spec (ws := wsm y cd nL none) B.pre
  have hown : s.vm.findClass y.cls = some m.cls := findClass_of_methodNamed B.named
  have hl := lv_entry (.ref (Z.1 + o) :: av) hn
  rw [lg_entry_eq]
  refine body p e s m _ below meth c _ ⟨⟨B.exec, B.bytes, hml, hown, fun w h => hts w (List.mem_cons_of_mem _ h)⟩, hK, B.notSynchronized, hX⟩ hN ((name_of_methodNamed B.named B.method).1.trans hy2) B.returns ⟨fun _ => .inr (ci, fs), ?_, hz, va_S.rf, by simp, fun q hq => ?_, fun j hj hne => ?_⟩ hl
  · exact hP
  · rw [List.mem_singleton.mp hq]
    exact ⟨Nat.zero_lt_one, rfl⟩
  · exact absurd (show (0, Sum.inr (ci, fs)).1 = j by show 0 = j; omega) (hne _ List.mem_cons_self)
/-- the end of a constructor -/
theorem k_end (hc : Cxz p s m meth c args cc own nL Z) (hw : Kw Z τ o [] n s H locs) (hr : meth.sig.returnType = none) (hdg : decode cc pc = .ok (.return_, 1)) : W p l e R s m args below meth c H locs cells slots (MQ below (Qk Z τ o n) args s cells slots (fun q => Z.1 + o ≤ q)) (F0 m pc ls []) := by
  have hS := hw.S
  obtain ⟨E, h1, h2, h3, h4, h5, h6⟩ := hw
  refine W.vret hc.hx hc.hb hr (fun t ht _ => ⟨rfl, ?_, by rw [ht]; exact h2, hS.F ht⟩) hS.2.2 hdg hc.2.2.1
  rw [ht]
  intro k q hq
  obtain ⟨hk, rfl⟩ := ewo_of hq
  rw [← h6 k hk (fun q hq => by cases hq)]
  exact h1 k _ (ewo_get hk)
/-- an object's constructor, run over a cell just made -/
theorem k_run {mc ms j ci n' : Nat} {fs : List Value} {a : Array Value} {st0 : List Value} (hw : Kw Z τ o ((j, .inr (ci, fs)) :: ex) n s H locs) (hj : j + 1 = n) (hr : va_Run p l e R s m args below meth c H locs cells slots mc ms (F0 m pc ls st0) rest (Qk Z τ (o + j) n' a) (fun q => Z.1 + (o + j) ≤ q))
    (kk : ∀ (H1 : Heap) (locs1 : List Loc), Kw Z τ o ex (j + n') s H1 locs1 → W p l e R s m args below meth c H1 locs1 (cells + mc) (slots + ms) Q (F0 m (pc + 3) ls rest)) : W p l e R s m args below meth c H locs cells slots Q (F0 m pc ls st0) := by
  intro T hT X
  obtain ⟨v', st₀, t, T', L, h0, X', hL, e1, e2, ⟨hv, hp, hz, hz1, hk⟩, st⟩ := hr T hT X
  cases hv
  rw [h0] at hz1 hk
  subst hj
  obtain ⟨E, h1, h2, h3, h4, h5, h6⟩ := hw
  have hsz : j < j + n' := by
    have h9 : Z.1 + (o + j) < t.heap.size := by omega
    omega
  obtain ⟨t2, a1, b1⟩ := kk T'.heap (locs ++ L) ⟨fun i => if i < j then E i else we Z τ (wdesc (o + i)), by
      rw [e1]
      intro i q hq
      obtain ⟨hi, rfl⟩ := ewo_of hq
      by_cases hij : i < j
      · rw [if_pos hij]
        exact (show va_P Z.2.1 wdcl [(Z.1 + o + i, E i)] t.heap from va_P.kept (H := H) (fun k x hx => by
          have hz : k < 1 := (List.getElem?_eq_some_iff.mp hx).1
          rw [show k = 0 by omega] at hx
          cases hx
          exact h1 i _ (ewo_get (by omega))) (fun k x hx => by
          have hz : k < 1 := (List.getElem?_eq_some_iff.mp hx).1
          rw [show k = 0 by omega] at hx
          cases hx
          exact hk _ (by show Z.1 + o + i < H.size; omega) (by show ¬ Z.1 + (o + j) ≤ Z.1 + o + i; omega))) 0 _ rfl
      · rw [if_neg hij]
        have h9 := hp (i - j) _ (ewo_get (by omega))
        rw [show Z.1 + (o + j) + (i - j) = Z.1 + o + i by omega, show o + j + (i - j) = o + i by omega] at h9
        exact h9, by rw [e1]; omega, ⟨Nat.le_trans h3.1 (by rw [e1]; exact hz1), fun q g1 g2 => by rw [e1, hk q (Nat.lt_of_lt_of_le g1 h3.1) (fun g => g2 (Nat.le_trans (by omega) g))]; exact h3.2.1 q g1 g2, fun q hq => by
      rcases List.mem_append.mp hq with h | h
      · exact h3.2.2 q h
      · exact Nat.le_trans (by omega) (hL q h)⟩, (List.nodup_cons.mp h4).2, fun q hq => by
      have h9 := h5 q (List.mem_cons_of_mem _ hq)
      have h8 : q.1 ≠ j := fun e => (List.nodup_cons.mp h4).1 (List.mem_map.mpr ⟨q, hq, e⟩)
      have h7 : q.1 < j := by omega
      refine ⟨by omega, ?_⟩
      show (if q.1 < j then E q.1 else _) = _
      rw [if_pos h7]
      exact h9.2, fun i hi hne => by
      show (if i < j then E i else _) = _
      by_cases hij : i < j
      · rw [if_pos hij]
        exact h6 i (by omega) (fun q hq => by
          rcases List.mem_cons.mp hq with rfl | hq
          · show j ≠ i
            omega
          · exact hne q hq)
      · rw [if_neg hij]⟩ T' rfl X'
  exact ⟨t2, st t2 a1, b1⟩
/-- a constructor's facts -/
abbrev Yk (y : MethodName) (cd : ByteArray) (nL n : Nat) : Prop := (Cond.instanceMethod y ∈ TB ∧ Cond.initialized y.cls ∈ TB ∧ Cond.code y cd nL none ∈ TB) ∧ y.name = "<init>" ∧ y.cls ≠ "java/lang/invoke/MethodHandle" ∧ y.cls ≠ "java/lang/invoke/VarHandle" ∧ (parseMethodDescriptor y.desc).map (fun d => d.parameters.length) = some n
theorem Ws0.of (hc : Cxz p s m meth c args cc own nL Z) (hN : NX s) {j ci : Nat} {fs : List Value} (hw : Kw Z τ o ((j, .inr (ci, fs)) :: ex) n s H locs) (hj : j + 1 = n) : ∀ U : State, U.heap = H → s.WarmedH U.vm → Ws0 Z (o + j) ci fs U := fun U hU hW => by
  have hS := hw.S
  obtain ⟨E, h1, h2, h3, h4, h5, h6⟩ := hw
  obtain ⟨hj', he⟩ := h5 _ List.mem_cons_self
  refine ⟨fun k x hx => ?_, by rw [hU]; omega, va_K.moved hW.alike hc.hk, by rw [hU]; exact WXz.go hc.2.2.2 ⟨hS.1, fun q g1 g2 => hS.2.1 q g1 (fun g => g2 (Nat.le_trans (by omega) g)), fun q hq => Nat.le_trans (by omega) (hS.2.2 q hq)⟩ hW, NX.go hN hW⟩
  have hz : k < 1 := (List.getElem?_eq_some_iff.mp hx).1
  rw [show k = 0 by omega] at hx
  cases hx
  have h9 := h1 j _ (ewo_get hj')
  have he' : E j = .inr (ci, fs) := he
  rw [he'] at h9
  rw [hU, show Z.1 + (o + j) = Z.1 + o + j by omega]
  exact h9
theorem k_call {y : MethodName} {cd : ByteArray} {nL' k idx j ci n' : Nat} {rm : Room} {As : List Value} {fs : List Value} (hc : Cxz p s m meth c args cc own nL Z) (hN : NX s) (hw : Kw Z τ o ((j, .inr (ci, fs)) :: ex) n s H locs) (hj : j + 1 = n) (hM : Ck l Z y cd nL' rm As τ (o + j) ci fs n') (hy : Yk y cd nL' k)
    (hl : Cond.methodLink own idx y ∈ TB) (hR : rm.frames + 1 ≤ R.frames ∧ 8 + (nL' + 11) + rm.locals ≤ R.locals) (hf : cells + rm.cells ≤ R.cells ∧ slots + rm.slots ≤ R.slots) (hn : As.length = k) (hls : ls.size = nL) (hst : (rest.map fun v => v.category).sum ≤ 8) (hdg : decode cc pc = .ok (.invokespecial idx, 3)) {st0 : List Value} (hst0 : st0 = As.reverse ++ .ref (Z.1 + o + j) :: rest)
    (kk : ∀ (H1 : Heap) (locs1 : List Loc), Kw Z τ o ex (j + n') s H1 locs1 → W p l e R s m args below meth c H1 locs1 (cells + rm.cells) (slots + rm.slots) Q (F0 m (pc + 3) ls rest)) : W p l e R s m args below meth c H locs cells slots Q (F0 m pc ls st0) := by
  obtain ⟨⟨y1, y3, y4⟩, y0, y5, y6, y7⟩ := hy
  have hG : GoodIn TB (wsm y cd nL' none) := by
    intro w hw
    rcases List.mem_cons.mp hw with rfl | h
    · exact tb_in y4
    · exact tb_in h
  have e1 : Z.1 + (o + j) = Z.1 + o + j := by omega
  exact k_run hw hj (va_runI (As := As) (rest := rest) hc.1 hM (cwI k hc.ht hG rfl rfl rfl (hc.ht _ y3) (hc.ht _ hl) (hc.ht _ y1) y0 ⟨y5, y6, y7⟩ hR) ⟨Ws0.blind, fun U hU hW => ⟨rfl, Ws0.of hc hN hw hj U hU hW⟩⟩ rfl hn hls (by rw [hst0, e1]) (lv_room hst) hdg hf) kk
theorem k_callN {y : MethodName} {cd : ByteArray} {nL' k idx j ci n' : Nat} {host : String} {rm : Room} {As : List Value} {fs : List Value} (hc : Cxz p s m meth c args cc own nL Z) (hN : NX s) (hw : Kw Z τ o ((j, .inr (ci, fs)) :: ex) n s H locs) (hj : j + 1 = n) (hM : Ck l Z y cd nL' rm As τ (o + j) ci fs n') (hy : Yk y cd nL' k)
    (hl : va_Nw (.methodLinkNest own idx y host) s) (hR : rm.frames + 1 ≤ R.frames ∧ 8 + (nL' + 11) + rm.locals ≤ R.locals) (hf : cells + rm.cells ≤ R.cells ∧ slots + rm.slots ≤ R.slots) (hn : As.length = k) (hls : ls.size = nL) (hst : (rest.map fun v => v.category).sum ≤ 8) (hdg : decode cc pc = .ok (.invokespecial idx, 3)) {st0 : List Value} (hst0 : st0 = As.reverse ++ .ref (Z.1 + o + j) :: rest)
    (kk : ∀ (H1 : Heap) (locs1 : List Loc), Kw Z τ o ex (j + n') s H1 locs1 → W p l e R s m args below meth c H1 locs1 (cells + rm.cells) (slots + rm.slots) Q (F0 m (pc + 3) ls rest)) : W p l e R s m args below meth c H locs cells slots Q (F0 m pc ls st0) := by
  obtain ⟨⟨y1, y3, y4⟩, y0, y5, y6, y7⟩ := hy
  have hG : GoodIn TB (wsm y cd nL' none) := by
    intro w hw
    rcases List.mem_cons.mp hw with rfl | h
    · exact tb_in y4
    · exact tb_in h
  have e1 : Z.1 + (o + j) = Z.1 + o + j := by omega
  exact k_run hw hj (va_runIN (As := As) (rest := rest) hc.1 hM ⟨va_cnB k hc.ht hG rfl rfl rfl hl (hc.ht _ y3) ⟨y5, y6, y7⟩ hR, y0, hc.ht _ y1⟩ ⟨Ws0.blind, fun U hU hW => ⟨rfl, Ws0.of hc hN hw hj U hU hW⟩⟩ rfl hn hls (by rw [hst0, e1]) (lv_room hst) hdg hf) kk
end CTOR
section CTOR2
variable {p : Program} {l : Launch} {e : Env} {R : Room} {s : State} {m : MethodId} {args : Array Value} {below : List Frame} {meth : Method} {c : Code} {H : Heap} {locs : List Loc} {cells slots : Nat} {Q : State → Prop}
variable {cc : ByteArray} {own : String} {nL : Nat} {Z : ZT} {τ : St} {pc : Nat} {ls : Array Slot} {rest : List Value} {o n : Nat} {ex : List (Nat × va_E)}
theorem k_alen (hc : Cxz p s m meth c args cc own nL Z) (hw : Kw Z τ o ex n s H locs) {j t : Nat} {cA : ClassId} {x : vp_A} {ty : FieldType} (hm : (j, .inl (cA, x)) ∈ ex) (ht : (wtys Z)[t]? = some (cA, ty)) {v : Int32} (hv : Int32.ofNat x.1 = v) (hdg : decode cc pc = .ok (.arraylength, 1))
    (kk : W p l e R s m args below meth c H locs cells slots Q (F0 m (pc + 1) ls (.int v :: rest))) : W p l e R s m args below meth c H locs cells slots Q (F0 m pc ls (.ref (Z.1 + o + j) :: rest)) := by
  obtain ⟨E, h1, h2, h3, h4, h5, h6⟩ := hw
  obtain ⟨hj, he⟩ := h5 _ hm
  have he' : (ewo (Z.1 + o) E n)[j]? = some (Z.1 + o + j, .inl (cA, x)) := by rw [ewo_get hj]; exact congrArg some (congrArg (Prod.mk _) he)
  exact va_alen hc.hx hc.hb hc.hk h1 j t he' ht hv hdg kk
end CTOR2
