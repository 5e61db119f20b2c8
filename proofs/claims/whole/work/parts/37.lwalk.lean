section LWALK
variable {p : Program} {l : Launch} {e : Env} {R : Room} {s : State} {m : MethodId} {args : Array Value} {below : List Frame} {meth : Method} {c : Code} {H : Heap} {locs : List Loc} {cells slots : Nat} {Q : State → Prop}
variable {Z : ZT} {σ μ : St}
set_option maxRecDepth 10000 in
theorem w_law_0 {N b L k : Nat} {xs : Nat → Int32} {Inv : St → St → Prop} (hLO : LawOk N Inv) (hst : l.stackTraces = false) (hc : Cxz p s m meth c #[Value.ref b] code "LabourExchangeLaw" 8 Z) (hX : va_X b L xs s s.heap) (hbl : b < s.heap.size) (hbZ : b < Z.1) (hL : L ≤ 3072) (hk : 6 * k + 6 ≤ L) (hI : Inv σ μ) (hcl0 : cells + 3 ≤ 601024 ∧ slots + 18 ≤ 7293034) {ls : Array Slot} (hw : Wd Z (cmb σ μ) s H locs) (hl : lv_has ls 8 [(4, .int (nI (6 * k))), (0, .ref b), (1, .ref (Z.1 + 0)), (2, .ref (Z.1 + 566)), (3, .ref (Z.1 + 674))])
    (kk : ∀ (σ1 μ1 : St) (H1 : Heap) (locs1 : List Loc) (ls1 : Array Slot), Inv σ1 μ1 → Wd Z (cmb σ1 μ1) s H1 locs1 → lv_has ls1 8 [(4, .int (nI (6 * k))), (0, .ref b), (1, .ref (Z.1 + 0)), (2, .ref (Z.1 + 566)), (3, .ref (Z.1 + 674))] → W p l e room_1 s m #[Value.ref b] below meth c H1 locs1 (cells + 3) (slots + 18) Q (F0 m 2404 ls1 [])) : W p l e room_1 s m #[Value.ref b] below meth c H locs cells slots Q (F0 m 196 ls []) := by
  have hx := hc.hx
  have hb := hc.hb
  obtain ⟨h1, h2⟩ := hcl0
  obtain ⟨a1, ha1⟩ : ∃ a, xs (6 * k + 1) = a := ⟨_, rfl⟩
  obtain ⟨a2, ha2⟩ : ∃ a, xs (6 * k + 2) = a := ⟨_, rfl⟩
  obtain ⟨r, σ', μ', hfx, hfm, hI'⟩ := (hLO.2.1 σ μ a1 a2 hI)
  refine lv_aload_n hx hb (dq tk_LW_0 25 rfl) rfl (lv_at hl 2 rfl) ?_
  refine lv_aload_n hx hb (dq tk_LW_0 26 rfl) rfl (lv_at hl 1 rfl) ?_
  refine lv_iload hx hb (dq tk_LW_0 27 rfl) (lv_at hl 0 rfl) ?_
  refine lv_iconst (v := 1) hx hb (dq tk_LW_0 28 rfl) (by decide) ?_
  refine lv_iadd hx hb (dq tk_LW_0 29 rfl) ?_
  refine l_sld hc hw hX hbl hbZ (k := 6 * k + 1) (a := a1) (nI_add (6 * k) 1) (by omega) hL ha1 (dq tk_LW_0 30 rfl) ?_
  refine lv_aload_n hx hb (dq tk_LW_0 31 rfl) rfl (lv_at hl 1 rfl) ?_
  refine lv_iload hx hb (dq tk_LW_0 32 rfl) (lv_at hl 0 rfl) ?_
  refine lv_iconst (v := 2) hx hb (dq tk_LW_0 33 rfl) (by decide) ?_
  refine lv_iadd hx hb (dq tk_LW_0 34 rfl) ?_
  refine l_sld hc hw hX hbl hbZ (k := 6 * k + 2) (a := a2) (nI_add (6 * k) 2) (by omega) hL ha2 (dq tk_LW_0 35 rfl) ?_
  refine K_X_office hc hw lk_697 hfx ⟨Nat.le_of_ble_eq_true rfl, Nat.le_of_ble_eq_true rfl⟩ ⟨by show cells ≤ 601024; omega, by show slots ≤ 7293034; omega⟩ hl.1 (Nat.le_of_ble_eq_true rfl) (dq tk_LW_0 36 rfl) (fun H locs hw _ => ?_)
  refine lv_aload_n hx hb (dq tk_LW_0 37 rfl) rfl (lv_at hl 3 rfl) ?_
  refine lv_aload_n hx hb (dq tk_LW_0 38 rfl) rfl (lv_at hl 1 rfl) ?_
  refine lv_iload hx hb (dq tk_LW_0 39 rfl) (lv_at hl 0 rfl) ?_
  refine lv_iconst (v := 1) hx hb (dq tk_LW_0 40 rfl) (by decide) ?_
  refine lv_iadd hx hb (dq tk_LW_0 41 rfl) ?_
  refine l_sld hc hw hX hbl hbZ (k := 6 * k + 1) (a := a1) (nI_add (6 * k) 1) (by omega) hL ha1 (dq tk_LW_0 42 rfl) ?_
  refine lv_aload_n hx hb (dq tk_LW_0 43 rfl) rfl (lv_at hl 1 rfl) ?_
  refine lv_iload hx hb (dq tk_LW_0 44 rfl) (lv_at hl 0 rfl) ?_
  refine lv_iconst (v := 2) hx hb (dq tk_LW_0 45 rfl) (by decide) ?_
  refine lv_iadd hx hb (dq tk_LW_0 46 rfl) ?_
  refine l_sld hc hw hX hbl hbZ (k := 6 * k + 2) (a := a2) (nI_add (6 * k) 2) (by omega) hL ha2 (dq tk_LW_0 47 rfl) ?_
  refine K_M_office hc hw lk_2089 hfm ⟨Nat.le_of_ble_eq_true rfl, Nat.le_of_ble_eq_true rfl⟩ ⟨by show cells ≤ 601024; omega, by show slots ≤ 7293034; omega⟩ hl.1 (Nat.le_of_ble_eq_true rfl) (dq tk_LW_0 48 rfl) (fun H locs hw _ => ?_)
  refine lv_icmp_eq (tgt := 2404) hx hb (dq tk_LW_0 49 rfl) (by decide) (fun _ => ?_) (fun g => absurd rfl g)
  refine W.widen (k := cells + 3) (n := slots + 18) (by omega) (by omega) ?_
  exact kk _ _ _ _ _ hI' hw (lv_sub hl [0, 1, 2, 3, 4] rfl)
set_option maxRecDepth 10000 in
theorem w_law_1 {N b L k : Nat} {xs : Nat → Int32} {Inv : St → St → Prop} (hLO : LawOk N Inv) (hst : l.stackTraces = false) (hc : Cxz p s m meth c #[Value.ref b] code "LabourExchangeLaw" 8 Z) (hX : va_X b L xs s s.heap) (hbl : b < s.heap.size) (hbZ : b < Z.1) (hL : L ≤ 3072) (hk : 6 * k + 6 ≤ L) (hI : Inv σ μ) (hcl0 : cells + 3 ≤ 601024 ∧ slots + 18 ≤ 7293034) {ls : Array Slot} (hw : Wd Z (cmb σ μ) s H locs) (hl : lv_has ls 8 [(4, .int (nI (6 * k))), (0, .ref b), (1, .ref (Z.1 + 0)), (2, .ref (Z.1 + 566)), (3, .ref (Z.1 + 674))])
    (kk : ∀ (σ1 μ1 : St) (H1 : Heap) (locs1 : List Loc) (ls1 : Array Slot), Inv σ1 μ1 → Wd Z (cmb σ1 μ1) s H1 locs1 → lv_has ls1 8 [(4, .int (nI (6 * k))), (0, .ref b), (1, .ref (Z.1 + 0)), (2, .ref (Z.1 + 566)), (3, .ref (Z.1 + 674))] → W p l e room_1 s m #[Value.ref b] below meth c H1 locs1 (cells + 3) (slots + 18) Q (F0 m 2404 ls1 [])) : W p l e room_1 s m #[Value.ref b] below meth c H locs cells slots Q (F0 m 233 ls []) := by
  have hx := hc.hx
  have hb := hc.hb
  obtain ⟨h1, h2⟩ := hcl0
  obtain ⟨a1, ha1⟩ : ∃ a, xs (6 * k + 1) = a := ⟨_, rfl⟩
  obtain ⟨a2, ha2⟩ : ∃ a, xs (6 * k + 2) = a := ⟨_, rfl⟩
  obtain ⟨a3, ha3⟩ : ∃ a, xs (6 * k + 3) = a := ⟨_, rfl⟩
  obtain ⟨a4, ha4⟩ : ∃ a, xs (6 * k + 4) = a := ⟨_, rfl⟩
  obtain ⟨a5, ha5⟩ : ∃ a, xs (6 * k + 5) = a := ⟨_, rfl⟩
  obtain ⟨r, σ', μ', hfx, hfm, hI'⟩ := (hLO.2.2.1 σ μ a1 a2 a3 a4 a5 hI)
  refine lv_aload_n hx hb (dq tk_LW_0 52 rfl) rfl (lv_at hl 2 rfl) ?_
  refine lv_aload_n hx hb (dq tk_LW_0 53 rfl) rfl (lv_at hl 1 rfl) ?_
  refine lv_iload hx hb (dq tk_LW_0 54 rfl) (lv_at hl 0 rfl) ?_
  refine lv_iconst (v := 1) hx hb (dq tk_LW_0 55 rfl) (by decide) ?_
  refine lv_iadd hx hb (dq tk_LW_0 56 rfl) ?_
  refine l_sld hc hw hX hbl hbZ (k := 6 * k + 1) (a := a1) (nI_add (6 * k) 1) (by omega) hL ha1 (dq tk_LW_0 57 rfl) ?_
  refine lv_aload_n hx hb (dq tk_LW_0 58 rfl) rfl (lv_at hl 1 rfl) ?_
  refine lv_iload hx hb (dq tk_LW_0 59 rfl) (lv_at hl 0 rfl) ?_
  refine lv_iconst (v := 2) hx hb (dq tk_LW_1 0 rfl) (by decide) ?_
  refine lv_iadd hx hb (dq tk_LW_1 1 rfl) ?_
  refine l_sld hc hw hX hbl hbZ (k := 6 * k + 2) (a := a2) (nI_add (6 * k) 2) (by omega) hL ha2 (dq tk_LW_1 2 rfl) ?_
  refine lv_aload_n hx hb (dq tk_LW_1 3 rfl) rfl (lv_at hl 1 rfl) ?_
  refine lv_iload hx hb (dq tk_LW_1 4 rfl) (lv_at hl 0 rfl) ?_
  refine lv_iconst (v := 3) hx hb (dq tk_LW_1 5 rfl) (by decide) ?_
  refine lv_iadd hx hb (dq tk_LW_1 6 rfl) ?_
  refine l_sld hc hw hX hbl hbZ (k := 6 * k + 3) (a := a3) (nI_add (6 * k) 3) (by omega) hL ha3 (dq tk_LW_1 7 rfl) ?_
  refine lv_aload_n hx hb (dq tk_LW_1 8 rfl) rfl (lv_at hl 1 rfl) ?_
  refine lv_iload hx hb (dq tk_LW_1 9 rfl) (lv_at hl 0 rfl) ?_
  refine lv_iconst (v := 4) hx hb (dq tk_LW_1 10 rfl) (by decide) ?_
  refine lv_iadd hx hb (dq tk_LW_1 11 rfl) ?_
  refine l_sld hc hw hX hbl hbZ (k := 6 * k + 4) (a := a4) (nI_add (6 * k) 4) (by omega) hL ha4 (dq tk_LW_1 12 rfl) ?_
  refine lv_aload_n hx hb (dq tk_LW_1 13 rfl) rfl (lv_at hl 1 rfl) ?_
  refine lv_iload hx hb (dq tk_LW_1 14 rfl) (lv_at hl 0 rfl) ?_
  refine lv_iconst (v := 5) hx hb (dq tk_LW_1 15 rfl) (by decide) ?_
  refine lv_iadd hx hb (dq tk_LW_1 16 rfl) ?_
  refine l_sld hc hw hX hbl hbZ (k := 6 * k + 5) (a := a5) (nI_add (6 * k) 5) (by omega) hL ha5 (dq tk_LW_1 17 rfl) ?_
  refine K_X_person hc hw lk_708 hfx ⟨Nat.le_of_ble_eq_true rfl, Nat.le_of_ble_eq_true rfl⟩ ⟨by show cells ≤ 601024; omega, by show slots ≤ 7293034; omega⟩ hl.1 (Nat.le_of_ble_eq_true rfl) (dq tk_LW_1 18 rfl) (fun H locs hw _ => ?_)
  refine lv_aload_n hx hb (dq tk_LW_1 19 rfl) rfl (lv_at hl 3 rfl) ?_
  refine lv_aload_n hx hb (dq tk_LW_1 20 rfl) rfl (lv_at hl 1 rfl) ?_
  refine lv_iload hx hb (dq tk_LW_1 21 rfl) (lv_at hl 0 rfl) ?_
  refine lv_iconst (v := 1) hx hb (dq tk_LW_1 22 rfl) (by decide) ?_
  refine lv_iadd hx hb (dq tk_LW_1 23 rfl) ?_
  refine l_sld hc hw hX hbl hbZ (k := 6 * k + 1) (a := a1) (nI_add (6 * k) 1) (by omega) hL ha1 (dq tk_LW_1 24 rfl) ?_
  refine lv_aload_n hx hb (dq tk_LW_1 25 rfl) rfl (lv_at hl 1 rfl) ?_
  refine lv_iload hx hb (dq tk_LW_1 26 rfl) (lv_at hl 0 rfl) ?_
  refine lv_iconst (v := 2) hx hb (dq tk_LW_1 27 rfl) (by decide) ?_
  refine lv_iadd hx hb (dq tk_LW_1 28 rfl) ?_
  refine l_sld hc hw hX hbl hbZ (k := 6 * k + 2) (a := a2) (nI_add (6 * k) 2) (by omega) hL ha2 (dq tk_LW_1 29 rfl) ?_
  refine lv_aload_n hx hb (dq tk_LW_1 30 rfl) rfl (lv_at hl 1 rfl) ?_
  refine lv_iload hx hb (dq tk_LW_1 31 rfl) (lv_at hl 0 rfl) ?_
  refine lv_iconst (v := 3) hx hb (dq tk_LW_1 32 rfl) (by decide) ?_
  refine lv_iadd hx hb (dq tk_LW_1 33 rfl) ?_
  refine l_sld hc hw hX hbl hbZ (k := 6 * k + 3) (a := a3) (nI_add (6 * k) 3) (by omega) hL ha3 (dq tk_LW_1 34 rfl) ?_
  refine lv_aload_n hx hb (dq tk_LW_1 35 rfl) rfl (lv_at hl 1 rfl) ?_
  refine lv_iload hx hb (dq tk_LW_1 36 rfl) (lv_at hl 0 rfl) ?_
  refine lv_iconst (v := 4) hx hb (dq tk_LW_1 37 rfl) (by decide) ?_
  refine lv_iadd hx hb (dq tk_LW_1 38 rfl) ?_
  refine l_sld hc hw hX hbl hbZ (k := 6 * k + 4) (a := a4) (nI_add (6 * k) 4) (by omega) hL ha4 (dq tk_LW_1 39 rfl) ?_
  refine lv_aload_n hx hb (dq tk_LW_1 40 rfl) rfl (lv_at hl 1 rfl) ?_
  refine lv_iload hx hb (dq tk_LW_1 41 rfl) (lv_at hl 0 rfl) ?_
  refine lv_iconst (v := 5) hx hb (dq tk_LW_1 42 rfl) (by decide) ?_
  refine lv_iadd hx hb (dq tk_LW_1 43 rfl) ?_
  refine l_sld hc hw hX hbl hbZ (k := 6 * k + 5) (a := a5) (nI_add (6 * k) 5) (by omega) hL ha5 (dq tk_LW_1 44 rfl) ?_
  refine K_M_person hc hw lk_2093 hfm ⟨Nat.le_of_ble_eq_true rfl, Nat.le_of_ble_eq_true rfl⟩ ⟨by show cells ≤ 601024; omega, by show slots ≤ 7293034; omega⟩ hl.1 (Nat.le_of_ble_eq_true rfl) (dq tk_LW_1 45 rfl) (fun H locs hw _ => ?_)
  refine lv_icmp_eq (tgt := 2404) hx hb (dq tk_LW_1 46 rfl) (by decide) (fun _ => ?_) (fun g => absurd rfl g)
  refine W.widen (k := cells + 3) (n := slots + 18) (by omega) (by omega) ?_
  exact kk _ _ _ _ _ hI' hw (lv_sub hl [0, 1, 2, 3, 4] rfl)
set_option maxRecDepth 10000 in
theorem w_law_2 {N b L k : Nat} {xs : Nat → Int32} {Inv : St → St → Prop} (hLO : LawOk N Inv) (hst : l.stackTraces = false) (hc : Cxz p s m meth c #[Value.ref b] code "LabourExchangeLaw" 8 Z) (hX : va_X b L xs s s.heap) (hbl : b < s.heap.size) (hbZ : b < Z.1) (hL : L ≤ 3072) (hk : 6 * k + 6 ≤ L) (hI : Inv σ μ) (hcl0 : cells + 3 ≤ 601024 ∧ slots + 18 ≤ 7293034) {ls : Array Slot} (hw : Wd Z (cmb σ μ) s H locs) (hl : lv_has ls 8 [(4, .int (nI (6 * k))), (0, .ref b), (1, .ref (Z.1 + 0)), (2, .ref (Z.1 + 566)), (3, .ref (Z.1 + 674))])
    (kk : ∀ (σ1 μ1 : St) (H1 : Heap) (locs1 : List Loc) (ls1 : Array Slot), Inv σ1 μ1 → Wd Z (cmb σ1 μ1) s H1 locs1 → lv_has ls1 8 [(4, .int (nI (6 * k))), (0, .ref b), (1, .ref (Z.1 + 0)), (2, .ref (Z.1 + 566)), (3, .ref (Z.1 + 674))] → W p l e room_1 s m #[Value.ref b] below meth c H1 locs1 (cells + 3) (slots + 18) Q (F0 m 2404 ls1 [])) : W p l e room_1 s m #[Value.ref b] below meth c H locs cells slots Q (F0 m 306 ls []) := by
  have hx := hc.hx
  have hb := hc.hb
  obtain ⟨h1, h2⟩ := hcl0
  obtain ⟨a1, ha1⟩ : ∃ a, xs (6 * k + 1) = a := ⟨_, rfl⟩
  obtain ⟨a2, ha2⟩ : ∃ a, xs (6 * k + 2) = a := ⟨_, rfl⟩
  obtain ⟨a3, ha3⟩ : ∃ a, xs (6 * k + 3) = a := ⟨_, rfl⟩
  obtain ⟨a4, ha4⟩ : ∃ a, xs (6 * k + 4) = a := ⟨_, rfl⟩
  obtain ⟨a5, ha5⟩ : ∃ a, xs (6 * k + 5) = a := ⟨_, rfl⟩
  obtain ⟨r, σ', μ', hfx, hfm, hI'⟩ := (hLO.2.2.2.1 σ μ a1 a2 a3 a4 a5 hI)
  refine lv_aload_n hx hb (dq tk_LW_1 49 rfl) rfl (lv_at hl 2 rfl) ?_
  refine lv_aload_n hx hb (dq tk_LW_1 50 rfl) rfl (lv_at hl 1 rfl) ?_
  refine lv_iload hx hb (dq tk_LW_1 51 rfl) (lv_at hl 0 rfl) ?_
  refine lv_iconst (v := 1) hx hb (dq tk_LW_1 52 rfl) (by decide) ?_
  refine lv_iadd hx hb (dq tk_LW_1 53 rfl) ?_
  refine l_sld hc hw hX hbl hbZ (k := 6 * k + 1) (a := a1) (nI_add (6 * k) 1) (by omega) hL ha1 (dq tk_LW_1 54 rfl) ?_
  refine lv_aload_n hx hb (dq tk_LW_1 55 rfl) rfl (lv_at hl 1 rfl) ?_
  refine lv_iload hx hb (dq tk_LW_1 56 rfl) (lv_at hl 0 rfl) ?_
  refine lv_iconst (v := 2) hx hb (dq tk_LW_1 57 rfl) (by decide) ?_
  refine lv_iadd hx hb (dq tk_LW_1 58 rfl) ?_
  refine l_sld hc hw hX hbl hbZ (k := 6 * k + 2) (a := a2) (nI_add (6 * k) 2) (by omega) hL ha2 (dq tk_LW_1 59 rfl) ?_
  refine lv_aload_n hx hb (dq tk_LW_2 0 rfl) rfl (lv_at hl 1 rfl) ?_
  refine lv_iload hx hb (dq tk_LW_2 1 rfl) (lv_at hl 0 rfl) ?_
  refine lv_iconst (v := 3) hx hb (dq tk_LW_2 2 rfl) (by decide) ?_
  refine lv_iadd hx hb (dq tk_LW_2 3 rfl) ?_
  refine l_sld hc hw hX hbl hbZ (k := 6 * k + 3) (a := a3) (nI_add (6 * k) 3) (by omega) hL ha3 (dq tk_LW_2 4 rfl) ?_
  refine lv_aload_n hx hb (dq tk_LW_2 5 rfl) rfl (lv_at hl 1 rfl) ?_
  refine lv_iload hx hb (dq tk_LW_2 6 rfl) (lv_at hl 0 rfl) ?_
  refine lv_iconst (v := 4) hx hb (dq tk_LW_2 7 rfl) (by decide) ?_
  refine lv_iadd hx hb (dq tk_LW_2 8 rfl) ?_
  refine l_sld hc hw hX hbl hbZ (k := 6 * k + 4) (a := a4) (nI_add (6 * k) 4) (by omega) hL ha4 (dq tk_LW_2 9 rfl) ?_
  refine lv_aload_n hx hb (dq tk_LW_2 10 rfl) rfl (lv_at hl 1 rfl) ?_
  refine lv_iload hx hb (dq tk_LW_2 11 rfl) (lv_at hl 0 rfl) ?_
  refine lv_iconst (v := 5) hx hb (dq tk_LW_2 12 rfl) (by decide) ?_
  refine lv_iadd hx hb (dq tk_LW_2 13 rfl) ?_
  refine l_sld hc hw hX hbl hbZ (k := 6 * k + 5) (a := a5) (nI_add (6 * k) 5) (by omega) hL ha5 (dq tk_LW_2 14 rfl) ?_
  refine K_X_feed hc hw lk_716 hfx ⟨Nat.le_of_ble_eq_true rfl, Nat.le_of_ble_eq_true rfl⟩ ⟨by show cells ≤ 601024; omega, by show slots ≤ 7293034; omega⟩ hl.1 (Nat.le_of_ble_eq_true rfl) (dq tk_LW_2 15 rfl) (fun H locs hw _ => ?_)
  refine lv_aload_n hx hb (dq tk_LW_2 16 rfl) rfl (lv_at hl 3 rfl) ?_
  refine lv_aload_n hx hb (dq tk_LW_2 17 rfl) rfl (lv_at hl 1 rfl) ?_
  refine lv_iload hx hb (dq tk_LW_2 18 rfl) (lv_at hl 0 rfl) ?_
  refine lv_iconst (v := 1) hx hb (dq tk_LW_2 19 rfl) (by decide) ?_
  refine lv_iadd hx hb (dq tk_LW_2 20 rfl) ?_
  refine l_sld hc hw hX hbl hbZ (k := 6 * k + 1) (a := a1) (nI_add (6 * k) 1) (by omega) hL ha1 (dq tk_LW_2 21 rfl) ?_
  refine lv_aload_n hx hb (dq tk_LW_2 22 rfl) rfl (lv_at hl 1 rfl) ?_
  refine lv_iload hx hb (dq tk_LW_2 23 rfl) (lv_at hl 0 rfl) ?_
  refine lv_iconst (v := 2) hx hb (dq tk_LW_2 24 rfl) (by decide) ?_
  refine lv_iadd hx hb (dq tk_LW_2 25 rfl) ?_
  refine l_sld hc hw hX hbl hbZ (k := 6 * k + 2) (a := a2) (nI_add (6 * k) 2) (by omega) hL ha2 (dq tk_LW_2 26 rfl) ?_
  refine lv_aload_n hx hb (dq tk_LW_2 27 rfl) rfl (lv_at hl 1 rfl) ?_
  refine lv_iload hx hb (dq tk_LW_2 28 rfl) (lv_at hl 0 rfl) ?_
  refine lv_iconst (v := 3) hx hb (dq tk_LW_2 29 rfl) (by decide) ?_
  refine lv_iadd hx hb (dq tk_LW_2 30 rfl) ?_
  refine l_sld hc hw hX hbl hbZ (k := 6 * k + 3) (a := a3) (nI_add (6 * k) 3) (by omega) hL ha3 (dq tk_LW_2 31 rfl) ?_
  refine lv_aload_n hx hb (dq tk_LW_2 32 rfl) rfl (lv_at hl 1 rfl) ?_
  refine lv_iload hx hb (dq tk_LW_2 33 rfl) (lv_at hl 0 rfl) ?_
  refine lv_iconst (v := 4) hx hb (dq tk_LW_2 34 rfl) (by decide) ?_
  refine lv_iadd hx hb (dq tk_LW_2 35 rfl) ?_
  refine l_sld hc hw hX hbl hbZ (k := 6 * k + 4) (a := a4) (nI_add (6 * k) 4) (by omega) hL ha4 (dq tk_LW_2 36 rfl) ?_
  refine lv_aload_n hx hb (dq tk_LW_2 37 rfl) rfl (lv_at hl 1 rfl) ?_
  refine lv_iload hx hb (dq tk_LW_2 38 rfl) (lv_at hl 0 rfl) ?_
  refine lv_iconst (v := 5) hx hb (dq tk_LW_2 39 rfl) (by decide) ?_
  refine lv_iadd hx hb (dq tk_LW_2 40 rfl) ?_
  refine l_sld hc hw hX hbl hbZ (k := 6 * k + 5) (a := a5) (nI_add (6 * k) 5) (by omega) hL ha5 (dq tk_LW_2 41 rfl) ?_
  refine K_M_feed hc hw lk_2097 hfm ⟨Nat.le_of_ble_eq_true rfl, Nat.le_of_ble_eq_true rfl⟩ ⟨by show cells ≤ 601024; omega, by show slots ≤ 7293034; omega⟩ hl.1 (Nat.le_of_ble_eq_true rfl) (dq tk_LW_2 42 rfl) (fun H locs hw _ => ?_)
  refine lv_icmp_eq (tgt := 2404) hx hb (dq tk_LW_2 43 rfl) (by decide) (fun _ => ?_) (fun g => absurd rfl g)
  refine W.widen (k := cells + 3) (n := slots + 18) (by omega) (by omega) ?_
  exact kk _ _ _ _ _ hI' hw (lv_sub hl [0, 1, 2, 3, 4] rfl)
set_option maxRecDepth 10000 in
theorem w_law_3 {N b L k : Nat} {xs : Nat → Int32} {Inv : St → St → Prop} (hLO : LawOk N Inv) (hst : l.stackTraces = false) (hc : Cxz p s m meth c #[Value.ref b] code "LabourExchangeLaw" 8 Z) (hX : va_X b L xs s s.heap) (hbl : b < s.heap.size) (hbZ : b < Z.1) (hL : L ≤ 3072) (hk : 6 * k + 6 ≤ L) (hI : Inv σ μ) (hcl0 : cells + 3 ≤ 601024 ∧ slots + 18 ≤ 7293034) {ls : Array Slot} (hw : Wd Z (cmb σ μ) s H locs) (hl : lv_has ls 8 [(4, .int (nI (6 * k))), (0, .ref b), (1, .ref (Z.1 + 0)), (2, .ref (Z.1 + 566)), (3, .ref (Z.1 + 674))])
    (kk : ∀ (σ1 μ1 : St) (H1 : Heap) (locs1 : List Loc) (ls1 : Array Slot), Inv σ1 μ1 → Wd Z (cmb σ1 μ1) s H1 locs1 → lv_has ls1 8 [(4, .int (nI (6 * k))), (0, .ref b), (1, .ref (Z.1 + 0)), (2, .ref (Z.1 + 566)), (3, .ref (Z.1 + 674))] → W p l e room_1 s m #[Value.ref b] below meth c H1 locs1 (cells + 3) (slots + 18) Q (F0 m 2404 ls1 [])) : W p l e room_1 s m #[Value.ref b] below meth c H locs cells slots Q (F0 m 379 ls []) := by
  have hx := hc.hx
  have hb := hc.hb
  obtain ⟨h1, h2⟩ := hcl0
  obtain ⟨a1, ha1⟩ : ∃ a, xs (6 * k + 1) = a := ⟨_, rfl⟩
  obtain ⟨a2, ha2⟩ : ∃ a, xs (6 * k + 2) = a := ⟨_, rfl⟩
  obtain ⟨a3, ha3⟩ : ∃ a, xs (6 * k + 3) = a := ⟨_, rfl⟩
  obtain ⟨q, σ', b0, μ', hfx, hfm, hft, hq, hI'⟩ := (hLO.2.2.2.2.1 σ μ a1 a2 a3 hI)
  cases q with
  | none =>
    replace hft : fM_thrown N μ' = some 1 := hft
    refine lv_aload_n hx hb (dq tk_LW_2 46 rfl) rfl (lv_at hl 2 rfl) ?_
    refine lv_aload_n hx hb (dq tk_LW_2 47 rfl) rfl (lv_at hl 1 rfl) ?_
    refine lv_iload hx hb (dq tk_LW_2 48 rfl) (lv_at hl 0 rfl) ?_
    refine lv_iconst (v := 1) hx hb (dq tk_LW_2 49 rfl) (by decide) ?_
    refine lv_iadd hx hb (dq tk_LW_2 50 rfl) ?_
    refine l_sld hc hw hX hbl hbZ (k := 6 * k + 1) (a := a1) (nI_add (6 * k) 1) (by omega) hL ha1 (dq tk_LW_2 51 rfl) ?_
    refine lv_aload_n hx hb (dq tk_LW_2 52 rfl) rfl (lv_at hl 1 rfl) ?_
    refine lv_iload hx hb (dq tk_LW_2 53 rfl) (lv_at hl 0 rfl) ?_
    refine lv_iconst (v := 2) hx hb (dq tk_LW_2 54 rfl) (by decide) ?_
    refine lv_iadd hx hb (dq tk_LW_2 55 rfl) ?_
    refine l_sld hc hw hX hbl hbZ (k := 6 * k + 2) (a := a2) (nI_add (6 * k) 2) (by omega) hL ha2 (dq tk_LW_2 56 rfl) ?_
    refine lv_aload_n hx hb (dq tk_LW_2 57 rfl) rfl (lv_at hl 1 rfl) ?_
    refine lv_iload hx hb (dq tk_LW_2 58 rfl) (lv_at hl 0 rfl) ?_
    refine lv_iconst (v := 3) hx hb (dq tk_LW_2 59 rfl) (by decide) ?_
    refine lv_iadd hx hb (dq tk_LW_3 0 rfl) ?_
    refine l_sld hc hw hX hbl hbZ (k := 6 * k + 3) (a := a3) (nI_add (6 * k) 3) (by omega) hL ha3 (dq tk_LW_3 1 rfl) ?_
    refine lv_aload_n hx hb (dq tk_LW_3 2 rfl) rfl (lv_at hl 4 rfl) ?_
    refine KL_book_n hst hc hw lk_1020 hfx ⟨Nat.le_of_ble_eq_true rfl, Nat.le_of_ble_eq_true rfl⟩ ⟨by show cells + 1 ≤ 601024; omega, by show slots + 6 ≤ 7293034; omega⟩ hl.1 (Nat.le_of_ble_eq_true rfl) (dq tk_LW_3 3 rfl) (fun H locs hw => ?_)
    refine lv_istore (lv' := [(5, .int 1), (4, .int (nI (6 * k))), (0, .ref b), (1, .ref (Z.1 + 0)), (2, .ref (Z.1 + 566)), (3, .ref (Z.1 + 674))]) hx hb (dq tk_LW_3 4 rfl) hl (by decide) rfl (fun ls hl => ?_)
    refine lv_aload_n hx hb (dq tk_LW_3 5 rfl) rfl (lv_at hl 4 rfl) ?_
    refine lv_aload_n hx hb (dq tk_LW_3 6 rfl) rfl (lv_at hl 2 rfl) ?_
    refine lv_iload hx hb (dq tk_LW_3 7 rfl) (lv_at hl 1 rfl) ?_
    refine lv_iconst (v := 1) hx hb (dq tk_LW_3 8 rfl) (by decide) ?_
    refine lv_iadd hx hb (dq tk_LW_3 9 rfl) ?_
    refine l_sld hc hw hX hbl hbZ (k := 6 * k + 1) (a := a1) (nI_add (6 * k) 1) (by omega) hL ha1 (dq tk_LW_3 10 rfl) ?_
    refine lv_aload_n hx hb (dq tk_LW_3 11 rfl) rfl (lv_at hl 2 rfl) ?_
    refine lv_iload hx hb (dq tk_LW_3 12 rfl) (lv_at hl 1 rfl) ?_
    refine lv_iconst (v := 2) hx hb (dq tk_LW_3 13 rfl) (by decide) ?_
    refine lv_iadd hx hb (dq tk_LW_3 14 rfl) ?_
    refine l_sld hc hw hX hbl hbZ (k := 6 * k + 2) (a := a2) (nI_add (6 * k) 2) (by omega) hL ha2 (dq tk_LW_3 15 rfl) ?_
    refine lv_aload_n hx hb (dq tk_LW_3 16 rfl) rfl (lv_at hl 2 rfl) ?_
    refine lv_iload hx hb (dq tk_LW_3 17 rfl) (lv_at hl 1 rfl) ?_
    refine lv_iconst (v := 3) hx hb (dq tk_LW_3 18 rfl) (by decide) ?_
    refine lv_iadd hx hb (dq tk_LW_3 19 rfl) ?_
    refine l_sld hc hw hX hbl hbZ (k := 6 * k + 3) (a := a3) (nI_add (6 * k) 3) (by omega) hL ha3 (dq tk_LW_3 20 rfl) ?_
    refine K_M_book hc hw lk_2101 hfm ⟨Nat.le_of_ble_eq_true rfl, Nat.le_of_ble_eq_true rfl⟩ ⟨by show cells + 1 ≤ 601024; omega, by show slots + 6 ≤ 7293034; omega⟩ hl.1 (Nat.le_of_ble_eq_true rfl) (dq tk_LW_3 21 rfl) (fun H locs hw _ => ?_)
    refine lv_istore (lv' := [(6, .int b0), (5, .int 1), (4, .int (nI (6 * k))), (0, .ref b), (1, .ref (Z.1 + 0)), (2, .ref (Z.1 + 566)), (3, .ref (Z.1 + 674))]) hx hb (dq tk_LW_3 22 rfl) hl (by decide) rfl (fun ls hl => ?_)
    refine lv_aload_n hx hb (dq tk_LW_3 23 rfl) rfl (lv_at hl 5 rfl) ?_
    refine K_M_thrown hc hw lk_2085 hft ⟨Nat.le_of_ble_eq_true rfl, Nat.le_of_ble_eq_true rfl⟩ ⟨by show cells + 1 ≤ 601024; omega, by show slots + 6 ≤ 7293034; omega⟩ hl.1 (Nat.le_of_ble_eq_true rfl) (dq tk_LW_3 24 rfl) (fun H locs hw _ => ?_)
    refine lv_iload hx hb (dq tk_LW_3 25 rfl) (lv_at hl 1 rfl) ?_
    refine lv_icmp_eq (tgt := 439) hx hb (dq tk_LW_3 26 rfl) (by decide) (fun _ => ?_) (fun g => absurd rfl g)
    refine lv_iload hx hb (dq tk_LW_3 29 rfl) (lv_at hl 1 rfl) ?_
    refine lv_if_ne (tgt := 463) hx hb (dq tk_LW_3 30 rfl) (by decide) (fun _ => ?_) (fun g => absurd g (by decide))
    refine lv_goto (tgt := 2404) hx hb (dq tk_LW_3 43 rfl) (by decide) ?_
    refine W.widen (k := cells + 3) (n := slots + 18) (by omega) (by omega) ?_
    exact kk _ _ _ _ _ hI' hw (lv_sub hl [2, 3, 4, 5, 6] rfl)
  | some r =>
    replace hft : fM_thrown N μ' = some 0 := hft
    obtain rfl : r = b0 := hq r rfl
    by_cases hr0 : r = 0
    · skip
      refine lv_aload_n hx hb (dq tk_LW_2 46 rfl) rfl (lv_at hl 2 rfl) ?_
      refine lv_aload_n hx hb (dq tk_LW_2 47 rfl) rfl (lv_at hl 1 rfl) ?_
      refine lv_iload hx hb (dq tk_LW_2 48 rfl) (lv_at hl 0 rfl) ?_
      refine lv_iconst (v := 1) hx hb (dq tk_LW_2 49 rfl) (by decide) ?_
      refine lv_iadd hx hb (dq tk_LW_2 50 rfl) ?_
      refine l_sld hc hw hX hbl hbZ (k := 6 * k + 1) (a := a1) (nI_add (6 * k) 1) (by omega) hL ha1 (dq tk_LW_2 51 rfl) ?_
      refine lv_aload_n hx hb (dq tk_LW_2 52 rfl) rfl (lv_at hl 1 rfl) ?_
      refine lv_iload hx hb (dq tk_LW_2 53 rfl) (lv_at hl 0 rfl) ?_
      refine lv_iconst (v := 2) hx hb (dq tk_LW_2 54 rfl) (by decide) ?_
      refine lv_iadd hx hb (dq tk_LW_2 55 rfl) ?_
      refine l_sld hc hw hX hbl hbZ (k := 6 * k + 2) (a := a2) (nI_add (6 * k) 2) (by omega) hL ha2 (dq tk_LW_2 56 rfl) ?_
      refine lv_aload_n hx hb (dq tk_LW_2 57 rfl) rfl (lv_at hl 1 rfl) ?_
      refine lv_iload hx hb (dq tk_LW_2 58 rfl) (lv_at hl 0 rfl) ?_
      refine lv_iconst (v := 3) hx hb (dq tk_LW_2 59 rfl) (by decide) ?_
      refine lv_iadd hx hb (dq tk_LW_3 0 rfl) ?_
      refine l_sld hc hw hX hbl hbZ (k := 6 * k + 3) (a := a3) (nI_add (6 * k) 3) (by omega) hL ha3 (dq tk_LW_3 1 rfl) ?_
      refine lv_aload_n hx hb (dq tk_LW_3 2 rfl) rfl (lv_at hl 4 rfl) ?_
      refine KL_book_s hst hc hw lk_1020 hfx ⟨Nat.le_of_ble_eq_true rfl, Nat.le_of_ble_eq_true rfl⟩ ⟨by show cells + 1 ≤ 601024; omega, by show slots + 6 ≤ 7293034; omega⟩ hl.1 (Nat.le_of_ble_eq_true rfl) (dq tk_LW_3 3 rfl) (fun H locs hw => ?_)
      refine lv_istore (lv' := [(5, .int 0), (4, .int (nI (6 * k))), (0, .ref b), (1, .ref (Z.1 + 0)), (2, .ref (Z.1 + 566)), (3, .ref (Z.1 + 674))]) hx hb (dq tk_LW_3 4 rfl) hl (by decide) rfl (fun ls hl => ?_)
      refine lv_aload_n hx hb (dq tk_LW_3 5 rfl) rfl (lv_at hl 4 rfl) ?_
      refine lv_aload_n hx hb (dq tk_LW_3 6 rfl) rfl (lv_at hl 2 rfl) ?_
      refine lv_iload hx hb (dq tk_LW_3 7 rfl) (lv_at hl 1 rfl) ?_
      refine lv_iconst (v := 1) hx hb (dq tk_LW_3 8 rfl) (by decide) ?_
      refine lv_iadd hx hb (dq tk_LW_3 9 rfl) ?_
      refine l_sld hc hw hX hbl hbZ (k := 6 * k + 1) (a := a1) (nI_add (6 * k) 1) (by omega) hL ha1 (dq tk_LW_3 10 rfl) ?_
      refine lv_aload_n hx hb (dq tk_LW_3 11 rfl) rfl (lv_at hl 2 rfl) ?_
      refine lv_iload hx hb (dq tk_LW_3 12 rfl) (lv_at hl 1 rfl) ?_
      refine lv_iconst (v := 2) hx hb (dq tk_LW_3 13 rfl) (by decide) ?_
      refine lv_iadd hx hb (dq tk_LW_3 14 rfl) ?_
      refine l_sld hc hw hX hbl hbZ (k := 6 * k + 2) (a := a2) (nI_add (6 * k) 2) (by omega) hL ha2 (dq tk_LW_3 15 rfl) ?_
      refine lv_aload_n hx hb (dq tk_LW_3 16 rfl) rfl (lv_at hl 2 rfl) ?_
      refine lv_iload hx hb (dq tk_LW_3 17 rfl) (lv_at hl 1 rfl) ?_
      refine lv_iconst (v := 3) hx hb (dq tk_LW_3 18 rfl) (by decide) ?_
      refine lv_iadd hx hb (dq tk_LW_3 19 rfl) ?_
      refine l_sld hc hw hX hbl hbZ (k := 6 * k + 3) (a := a3) (nI_add (6 * k) 3) (by omega) hL ha3 (dq tk_LW_3 20 rfl) ?_
      refine K_M_book hc hw lk_2101 hfm ⟨Nat.le_of_ble_eq_true rfl, Nat.le_of_ble_eq_true rfl⟩ ⟨by show cells + 1 ≤ 601024; omega, by show slots + 6 ≤ 7293034; omega⟩ hl.1 (Nat.le_of_ble_eq_true rfl) (dq tk_LW_3 21 rfl) (fun H locs hw _ => ?_)
      refine lv_istore (lv' := [(6, .int r), (5, .int 0), (4, .int (nI (6 * k))), (0, .ref b), (1, .ref (Z.1 + 0)), (2, .ref (Z.1 + 566)), (3, .ref (Z.1 + 674))]) hx hb (dq tk_LW_3 22 rfl) hl (by decide) rfl (fun ls hl => ?_)
      refine lv_aload_n hx hb (dq tk_LW_3 23 rfl) rfl (lv_at hl 5 rfl) ?_
      refine K_M_thrown hc hw lk_2085 hft ⟨Nat.le_of_ble_eq_true rfl, Nat.le_of_ble_eq_true rfl⟩ ⟨by show cells + 1 ≤ 601024; omega, by show slots + 6 ≤ 7293034; omega⟩ hl.1 (Nat.le_of_ble_eq_true rfl) (dq tk_LW_3 24 rfl) (fun H locs hw _ => ?_)
      refine lv_iload hx hb (dq tk_LW_3 25 rfl) (lv_at hl 1 rfl) ?_
      refine lv_icmp_eq (tgt := 439) hx hb (dq tk_LW_3 26 rfl) (by decide) (fun _ => ?_) (fun g => absurd rfl g)
      refine lv_iload hx hb (dq tk_LW_3 29 rfl) (lv_at hl 1 rfl) ?_
      refine lv_if_ne (tgt := 463) hx hb (dq tk_LW_3 30 rfl) (by decide) (fun g => absurd rfl g) (fun _ => ?_)
      refine lv_aload_n hx hb (dq tk_LW_3 31 rfl) rfl (lv_at hl 6 rfl) ?_
      refine lv_iconst (v := 0) hx hb (dq tk_LW_3 32 rfl) (by decide) ?_
      refine l_lald hc hw (v := 0) (sJ_at.trans (if_pos hr0)) (dq tk_LW_3 33 rfl) ?_
      refine lv_iload hx hb (dq tk_LW_3 34 rfl) (lv_at hl 0 rfl) ?_
      refine lv_if_eq (tgt := 456) hx hb (dq tk_LW_3 35 rfl) (by decide) (fun _ => ?_) (fun g => absurd hr0 g)
      refine lv_lconst (v := 0) hx hb (dq tk_LW_3 38 rfl) (by decide) ?_
      refine W.lcmp hx hb (dq tk_LW_3 39 rfl) ?_
      refine tst (congrArg Value.int lg_cmp_self) ?_
      refine lv_if_eq (tgt := 463) hx hb (dq tk_LW_3 40 rfl) (by decide) (fun _ => ?_) (fun g => absurd rfl g)
      refine lv_goto (tgt := 2404) hx hb (dq tk_LW_3 43 rfl) (by decide) ?_
      refine W.widen (k := cells + 3) (n := slots + 18) (by omega) (by omega) ?_
      exact kk _ _ _ _ _ (hLO.1 _ _ _ hI') hw (lv_sub hl [2, 3, 4, 5, 6] rfl)
    · skip
      refine lv_aload_n hx hb (dq tk_LW_2 46 rfl) rfl (lv_at hl 2 rfl) ?_
      refine lv_aload_n hx hb (dq tk_LW_2 47 rfl) rfl (lv_at hl 1 rfl) ?_
      refine lv_iload hx hb (dq tk_LW_2 48 rfl) (lv_at hl 0 rfl) ?_
      refine lv_iconst (v := 1) hx hb (dq tk_LW_2 49 rfl) (by decide) ?_
      refine lv_iadd hx hb (dq tk_LW_2 50 rfl) ?_
      refine l_sld hc hw hX hbl hbZ (k := 6 * k + 1) (a := a1) (nI_add (6 * k) 1) (by omega) hL ha1 (dq tk_LW_2 51 rfl) ?_
      refine lv_aload_n hx hb (dq tk_LW_2 52 rfl) rfl (lv_at hl 1 rfl) ?_
      refine lv_iload hx hb (dq tk_LW_2 53 rfl) (lv_at hl 0 rfl) ?_
      refine lv_iconst (v := 2) hx hb (dq tk_LW_2 54 rfl) (by decide) ?_
      refine lv_iadd hx hb (dq tk_LW_2 55 rfl) ?_
      refine l_sld hc hw hX hbl hbZ (k := 6 * k + 2) (a := a2) (nI_add (6 * k) 2) (by omega) hL ha2 (dq tk_LW_2 56 rfl) ?_
      refine lv_aload_n hx hb (dq tk_LW_2 57 rfl) rfl (lv_at hl 1 rfl) ?_
      refine lv_iload hx hb (dq tk_LW_2 58 rfl) (lv_at hl 0 rfl) ?_
      refine lv_iconst (v := 3) hx hb (dq tk_LW_2 59 rfl) (by decide) ?_
      refine lv_iadd hx hb (dq tk_LW_3 0 rfl) ?_
      refine l_sld hc hw hX hbl hbZ (k := 6 * k + 3) (a := a3) (nI_add (6 * k) 3) (by omega) hL ha3 (dq tk_LW_3 1 rfl) ?_
      refine lv_aload_n hx hb (dq tk_LW_3 2 rfl) rfl (lv_at hl 4 rfl) ?_
      refine KL_book_s hst hc hw lk_1020 hfx ⟨Nat.le_of_ble_eq_true rfl, Nat.le_of_ble_eq_true rfl⟩ ⟨by show cells + 1 ≤ 601024; omega, by show slots + 6 ≤ 7293034; omega⟩ hl.1 (Nat.le_of_ble_eq_true rfl) (dq tk_LW_3 3 rfl) (fun H locs hw => ?_)
      refine lv_istore (lv' := [(5, .int 0), (4, .int (nI (6 * k))), (0, .ref b), (1, .ref (Z.1 + 0)), (2, .ref (Z.1 + 566)), (3, .ref (Z.1 + 674))]) hx hb (dq tk_LW_3 4 rfl) hl (by decide) rfl (fun ls hl => ?_)
      refine lv_aload_n hx hb (dq tk_LW_3 5 rfl) rfl (lv_at hl 4 rfl) ?_
      refine lv_aload_n hx hb (dq tk_LW_3 6 rfl) rfl (lv_at hl 2 rfl) ?_
      refine lv_iload hx hb (dq tk_LW_3 7 rfl) (lv_at hl 1 rfl) ?_
      refine lv_iconst (v := 1) hx hb (dq tk_LW_3 8 rfl) (by decide) ?_
      refine lv_iadd hx hb (dq tk_LW_3 9 rfl) ?_
      refine l_sld hc hw hX hbl hbZ (k := 6 * k + 1) (a := a1) (nI_add (6 * k) 1) (by omega) hL ha1 (dq tk_LW_3 10 rfl) ?_
      refine lv_aload_n hx hb (dq tk_LW_3 11 rfl) rfl (lv_at hl 2 rfl) ?_
      refine lv_iload hx hb (dq tk_LW_3 12 rfl) (lv_at hl 1 rfl) ?_
      refine lv_iconst (v := 2) hx hb (dq tk_LW_3 13 rfl) (by decide) ?_
      refine lv_iadd hx hb (dq tk_LW_3 14 rfl) ?_
      refine l_sld hc hw hX hbl hbZ (k := 6 * k + 2) (a := a2) (nI_add (6 * k) 2) (by omega) hL ha2 (dq tk_LW_3 15 rfl) ?_
      refine lv_aload_n hx hb (dq tk_LW_3 16 rfl) rfl (lv_at hl 2 rfl) ?_
      refine lv_iload hx hb (dq tk_LW_3 17 rfl) (lv_at hl 1 rfl) ?_
      refine lv_iconst (v := 3) hx hb (dq tk_LW_3 18 rfl) (by decide) ?_
      refine lv_iadd hx hb (dq tk_LW_3 19 rfl) ?_
      refine l_sld hc hw hX hbl hbZ (k := 6 * k + 3) (a := a3) (nI_add (6 * k) 3) (by omega) hL ha3 (dq tk_LW_3 20 rfl) ?_
      refine K_M_book hc hw lk_2101 hfm ⟨Nat.le_of_ble_eq_true rfl, Nat.le_of_ble_eq_true rfl⟩ ⟨by show cells + 1 ≤ 601024; omega, by show slots + 6 ≤ 7293034; omega⟩ hl.1 (Nat.le_of_ble_eq_true rfl) (dq tk_LW_3 21 rfl) (fun H locs hw _ => ?_)
      refine lv_istore (lv' := [(6, .int r), (5, .int 0), (4, .int (nI (6 * k))), (0, .ref b), (1, .ref (Z.1 + 0)), (2, .ref (Z.1 + 566)), (3, .ref (Z.1 + 674))]) hx hb (dq tk_LW_3 22 rfl) hl (by decide) rfl (fun ls hl => ?_)
      refine lv_aload_n hx hb (dq tk_LW_3 23 rfl) rfl (lv_at hl 5 rfl) ?_
      refine K_M_thrown hc hw lk_2085 hft ⟨Nat.le_of_ble_eq_true rfl, Nat.le_of_ble_eq_true rfl⟩ ⟨by show cells + 1 ≤ 601024; omega, by show slots + 6 ≤ 7293034; omega⟩ hl.1 (Nat.le_of_ble_eq_true rfl) (dq tk_LW_3 24 rfl) (fun H locs hw _ => ?_)
      refine lv_iload hx hb (dq tk_LW_3 25 rfl) (lv_at hl 1 rfl) ?_
      refine lv_icmp_eq (tgt := 439) hx hb (dq tk_LW_3 26 rfl) (by decide) (fun _ => ?_) (fun g => absurd rfl g)
      refine lv_iload hx hb (dq tk_LW_3 29 rfl) (lv_at hl 1 rfl) ?_
      refine lv_if_ne (tgt := 463) hx hb (dq tk_LW_3 30 rfl) (by decide) (fun g => absurd rfl g) (fun _ => ?_)
      refine lv_aload_n hx hb (dq tk_LW_3 31 rfl) rfl (lv_at hl 6 rfl) ?_
      refine lv_iconst (v := 0) hx hb (dq tk_LW_3 32 rfl) (by decide) ?_
      refine l_lald hc hw (v := 1) (sJ_at.trans (if_neg hr0)) (dq tk_LW_3 33 rfl) ?_
      refine lv_iload hx hb (dq tk_LW_3 34 rfl) (lv_at hl 0 rfl) ?_
      refine lv_if_eq (tgt := 456) hx hb (dq tk_LW_3 35 rfl) (by decide) (fun g => absurd g hr0) (fun _ => ?_)
      refine lv_lconst (v := 1) hx hb (dq tk_LW_3 36 rfl) (by decide) ?_
      refine lv_goto (tgt := 457) hx hb (dq tk_LW_3 37 rfl) (by decide) ?_
      refine W.lcmp hx hb (dq tk_LW_3 39 rfl) ?_
      refine tst (congrArg Value.int lg_cmp_self) ?_
      refine lv_if_eq (tgt := 463) hx hb (dq tk_LW_3 40 rfl) (by decide) (fun _ => ?_) (fun g => absurd rfl g)
      refine lv_goto (tgt := 2404) hx hb (dq tk_LW_3 43 rfl) (by decide) ?_
      refine W.widen (k := cells + 3) (n := slots + 18) (by omega) (by omega) ?_
      exact kk _ _ _ _ _ (hLO.1 _ _ _ hI') hw (lv_sub hl [2, 3, 4, 5, 6] rfl)
set_option maxRecDepth 10000 in
theorem w_law_4 {N b L k : Nat} {xs : Nat → Int32} {Inv : St → St → Prop} (hLO : LawOk N Inv) (hst : l.stackTraces = false) (hc : Cxz p s m meth c #[Value.ref b] code "LabourExchangeLaw" 8 Z) (hX : va_X b L xs s s.heap) (hbl : b < s.heap.size) (hbZ : b < Z.1) (hL : L ≤ 3072) (hk : 6 * k + 6 ≤ L) (hI : Inv σ μ) (hcl0 : cells + 3 ≤ 601024 ∧ slots + 18 ≤ 7293034) {ls : Array Slot} (hw : Wd Z (cmb σ μ) s H locs) (hl : lv_has ls 8 [(4, .int (nI (6 * k))), (0, .ref b), (1, .ref (Z.1 + 0)), (2, .ref (Z.1 + 566)), (3, .ref (Z.1 + 674))])
    (kk : ∀ (σ1 μ1 : St) (H1 : Heap) (locs1 : List Loc) (ls1 : Array Slot), Inv σ1 μ1 → Wd Z (cmb σ1 μ1) s H1 locs1 → lv_has ls1 8 [(4, .int (nI (6 * k))), (0, .ref b), (1, .ref (Z.1 + 0)), (2, .ref (Z.1 + 566)), (3, .ref (Z.1 + 674))] → W p l e room_1 s m #[Value.ref b] below meth c H1 locs1 (cells + 3) (slots + 18) Q (F0 m 2404 ls1 [])) : W p l e room_1 s m #[Value.ref b] below meth c H locs cells slots Q (F0 m 466 ls []) := by
  have hx := hc.hx
  have hb := hc.hb
  obtain ⟨h1, h2⟩ := hcl0
  obtain ⟨a1, ha1⟩ : ∃ a, xs (6 * k + 1) = a := ⟨_, rfl⟩
  obtain ⟨a2, ha2⟩ : ∃ a, xs (6 * k + 2) = a := ⟨_, rfl⟩
  obtain ⟨a3, ha3⟩ : ∃ a, xs (6 * k + 3) = a := ⟨_, rfl⟩
  obtain ⟨q, σ', b0, μ', hfx, hfm, hft, hq, hI'⟩ := (hLO.2.2.2.2.2.1 σ μ a1 a2 a3 hI)
  cases q with
  | none =>
    replace hft : fM_thrown N μ' = some 1 := hft
    refine lv_aload_n hx hb (dq tk_LW_3 44 rfl) rfl (lv_at hl 2 rfl) ?_
    refine lv_aload_n hx hb (dq tk_LW_3 45 rfl) rfl (lv_at hl 1 rfl) ?_
    refine lv_iload hx hb (dq tk_LW_3 46 rfl) (lv_at hl 0 rfl) ?_
    refine lv_iconst (v := 1) hx hb (dq tk_LW_3 47 rfl) (by decide) ?_
    refine lv_iadd hx hb (dq tk_LW_3 48 rfl) ?_
    refine l_sld hc hw hX hbl hbZ (k := 6 * k + 1) (a := a1) (nI_add (6 * k) 1) (by omega) hL ha1 (dq tk_LW_3 49 rfl) ?_
    refine lv_aload_n hx hb (dq tk_LW_3 50 rfl) rfl (lv_at hl 1 rfl) ?_
    refine lv_iload hx hb (dq tk_LW_3 51 rfl) (lv_at hl 0 rfl) ?_
    refine lv_iconst (v := 2) hx hb (dq tk_LW_3 52 rfl) (by decide) ?_
    refine lv_iadd hx hb (dq tk_LW_3 53 rfl) ?_
    refine l_sld hc hw hX hbl hbZ (k := 6 * k + 2) (a := a2) (nI_add (6 * k) 2) (by omega) hL ha2 (dq tk_LW_3 54 rfl) ?_
    refine lv_aload_n hx hb (dq tk_LW_3 55 rfl) rfl (lv_at hl 1 rfl) ?_
    refine lv_iload hx hb (dq tk_LW_3 56 rfl) (lv_at hl 0 rfl) ?_
    refine lv_iconst (v := 3) hx hb (dq tk_LW_3 57 rfl) (by decide) ?_
    refine lv_iadd hx hb (dq tk_LW_3 58 rfl) ?_
    refine l_sld hc hw hX hbl hbZ (k := 6 * k + 3) (a := a3) (nI_add (6 * k) 3) (by omega) hL ha3 (dq tk_LW_3 59 rfl) ?_
    refine lv_aload_n hx hb (dq tk_LW_4 0 rfl) rfl (lv_at hl 4 rfl) ?_
    refine KL_returns_n hst hc hw lk_1111 hfx ⟨Nat.le_of_ble_eq_true rfl, Nat.le_of_ble_eq_true rfl⟩ ⟨by show cells + 1 ≤ 601024; omega, by show slots + 6 ≤ 7293034; omega⟩ hl.1 (Nat.le_of_ble_eq_true rfl) (dq tk_LW_4 1 rfl) (fun H locs hw => ?_)
    refine lv_istore (lv' := [(5, .int 1), (4, .int (nI (6 * k))), (0, .ref b), (1, .ref (Z.1 + 0)), (2, .ref (Z.1 + 566)), (3, .ref (Z.1 + 674))]) hx hb (dq tk_LW_4 2 rfl) hl (by decide) rfl (fun ls hl => ?_)
    refine lv_aload_n hx hb (dq tk_LW_4 3 rfl) rfl (lv_at hl 4 rfl) ?_
    refine lv_aload_n hx hb (dq tk_LW_4 4 rfl) rfl (lv_at hl 2 rfl) ?_
    refine lv_iload hx hb (dq tk_LW_4 5 rfl) (lv_at hl 1 rfl) ?_
    refine lv_iconst (v := 1) hx hb (dq tk_LW_4 6 rfl) (by decide) ?_
    refine lv_iadd hx hb (dq tk_LW_4 7 rfl) ?_
    refine l_sld hc hw hX hbl hbZ (k := 6 * k + 1) (a := a1) (nI_add (6 * k) 1) (by omega) hL ha1 (dq tk_LW_4 8 rfl) ?_
    refine lv_aload_n hx hb (dq tk_LW_4 9 rfl) rfl (lv_at hl 2 rfl) ?_
    refine lv_iload hx hb (dq tk_LW_4 10 rfl) (lv_at hl 1 rfl) ?_
    refine lv_iconst (v := 2) hx hb (dq tk_LW_4 11 rfl) (by decide) ?_
    refine lv_iadd hx hb (dq tk_LW_4 12 rfl) ?_
    refine l_sld hc hw hX hbl hbZ (k := 6 * k + 2) (a := a2) (nI_add (6 * k) 2) (by omega) hL ha2 (dq tk_LW_4 13 rfl) ?_
    refine lv_aload_n hx hb (dq tk_LW_4 14 rfl) rfl (lv_at hl 2 rfl) ?_
    refine lv_iload hx hb (dq tk_LW_4 15 rfl) (lv_at hl 1 rfl) ?_
    refine lv_iconst (v := 3) hx hb (dq tk_LW_4 16 rfl) (by decide) ?_
    refine lv_iadd hx hb (dq tk_LW_4 17 rfl) ?_
    refine l_sld hc hw hX hbl hbZ (k := 6 * k + 3) (a := a3) (nI_add (6 * k) 3) (by omega) hL ha3 (dq tk_LW_4 18 rfl) ?_
    refine K_M_returns hc hw lk_2114 hfm ⟨Nat.le_of_ble_eq_true rfl, Nat.le_of_ble_eq_true rfl⟩ ⟨by show cells + 1 ≤ 601024; omega, by show slots + 6 ≤ 7293034; omega⟩ hl.1 (Nat.le_of_ble_eq_true rfl) (dq tk_LW_4 19 rfl) (fun H locs hw _ => ?_)
    refine lv_istore (lv' := [(6, .int b0), (5, .int 1), (4, .int (nI (6 * k))), (0, .ref b), (1, .ref (Z.1 + 0)), (2, .ref (Z.1 + 566)), (3, .ref (Z.1 + 674))]) hx hb (dq tk_LW_4 20 rfl) hl (by decide) rfl (fun ls hl => ?_)
    refine lv_aload_n hx hb (dq tk_LW_4 21 rfl) rfl (lv_at hl 5 rfl) ?_
    refine K_M_thrown hc hw lk_2085 hft ⟨Nat.le_of_ble_eq_true rfl, Nat.le_of_ble_eq_true rfl⟩ ⟨by show cells + 1 ≤ 601024; omega, by show slots + 6 ≤ 7293034; omega⟩ hl.1 (Nat.le_of_ble_eq_true rfl) (dq tk_LW_4 22 rfl) (fun H locs hw _ => ?_)
    refine lv_iload hx hb (dq tk_LW_4 23 rfl) (lv_at hl 1 rfl) ?_
    refine lv_icmp_eq (tgt := 526) hx hb (dq tk_LW_4 24 rfl) (by decide) (fun _ => ?_) (fun g => absurd rfl g)
    refine lv_iload hx hb (dq tk_LW_4 27 rfl) (lv_at hl 1 rfl) ?_
    refine lv_if_ne (tgt := 550) hx hb (dq tk_LW_4 28 rfl) (by decide) (fun _ => ?_) (fun g => absurd g (by decide))
    refine lv_goto (tgt := 2404) hx hb (dq tk_LW_4 41 rfl) (by decide) ?_
    refine W.widen (k := cells + 3) (n := slots + 18) (by omega) (by omega) ?_
    exact kk _ _ _ _ _ hI' hw (lv_sub hl [2, 3, 4, 5, 6] rfl)
  | some r =>
    replace hft : fM_thrown N μ' = some 0 := hft
    obtain rfl : r = b0 := hq r rfl
    by_cases hr0 : r = 0
    · skip
      refine lv_aload_n hx hb (dq tk_LW_3 44 rfl) rfl (lv_at hl 2 rfl) ?_
      refine lv_aload_n hx hb (dq tk_LW_3 45 rfl) rfl (lv_at hl 1 rfl) ?_
      refine lv_iload hx hb (dq tk_LW_3 46 rfl) (lv_at hl 0 rfl) ?_
      refine lv_iconst (v := 1) hx hb (dq tk_LW_3 47 rfl) (by decide) ?_
      refine lv_iadd hx hb (dq tk_LW_3 48 rfl) ?_
      refine l_sld hc hw hX hbl hbZ (k := 6 * k + 1) (a := a1) (nI_add (6 * k) 1) (by omega) hL ha1 (dq tk_LW_3 49 rfl) ?_
      refine lv_aload_n hx hb (dq tk_LW_3 50 rfl) rfl (lv_at hl 1 rfl) ?_
      refine lv_iload hx hb (dq tk_LW_3 51 rfl) (lv_at hl 0 rfl) ?_
      refine lv_iconst (v := 2) hx hb (dq tk_LW_3 52 rfl) (by decide) ?_
      refine lv_iadd hx hb (dq tk_LW_3 53 rfl) ?_
      refine l_sld hc hw hX hbl hbZ (k := 6 * k + 2) (a := a2) (nI_add (6 * k) 2) (by omega) hL ha2 (dq tk_LW_3 54 rfl) ?_
      refine lv_aload_n hx hb (dq tk_LW_3 55 rfl) rfl (lv_at hl 1 rfl) ?_
      refine lv_iload hx hb (dq tk_LW_3 56 rfl) (lv_at hl 0 rfl) ?_
      refine lv_iconst (v := 3) hx hb (dq tk_LW_3 57 rfl) (by decide) ?_
      refine lv_iadd hx hb (dq tk_LW_3 58 rfl) ?_
      refine l_sld hc hw hX hbl hbZ (k := 6 * k + 3) (a := a3) (nI_add (6 * k) 3) (by omega) hL ha3 (dq tk_LW_3 59 rfl) ?_
      refine lv_aload_n hx hb (dq tk_LW_4 0 rfl) rfl (lv_at hl 4 rfl) ?_
      refine KL_returns_s hst hc hw lk_1111 hfx ⟨Nat.le_of_ble_eq_true rfl, Nat.le_of_ble_eq_true rfl⟩ ⟨by show cells + 1 ≤ 601024; omega, by show slots + 6 ≤ 7293034; omega⟩ hl.1 (Nat.le_of_ble_eq_true rfl) (dq tk_LW_4 1 rfl) (fun H locs hw => ?_)
      refine lv_istore (lv' := [(5, .int 0), (4, .int (nI (6 * k))), (0, .ref b), (1, .ref (Z.1 + 0)), (2, .ref (Z.1 + 566)), (3, .ref (Z.1 + 674))]) hx hb (dq tk_LW_4 2 rfl) hl (by decide) rfl (fun ls hl => ?_)
      refine lv_aload_n hx hb (dq tk_LW_4 3 rfl) rfl (lv_at hl 4 rfl) ?_
      refine lv_aload_n hx hb (dq tk_LW_4 4 rfl) rfl (lv_at hl 2 rfl) ?_
      refine lv_iload hx hb (dq tk_LW_4 5 rfl) (lv_at hl 1 rfl) ?_
      refine lv_iconst (v := 1) hx hb (dq tk_LW_4 6 rfl) (by decide) ?_
      refine lv_iadd hx hb (dq tk_LW_4 7 rfl) ?_
      refine l_sld hc hw hX hbl hbZ (k := 6 * k + 1) (a := a1) (nI_add (6 * k) 1) (by omega) hL ha1 (dq tk_LW_4 8 rfl) ?_
      refine lv_aload_n hx hb (dq tk_LW_4 9 rfl) rfl (lv_at hl 2 rfl) ?_
      refine lv_iload hx hb (dq tk_LW_4 10 rfl) (lv_at hl 1 rfl) ?_
      refine lv_iconst (v := 2) hx hb (dq tk_LW_4 11 rfl) (by decide) ?_
      refine lv_iadd hx hb (dq tk_LW_4 12 rfl) ?_
      refine l_sld hc hw hX hbl hbZ (k := 6 * k + 2) (a := a2) (nI_add (6 * k) 2) (by omega) hL ha2 (dq tk_LW_4 13 rfl) ?_
      refine lv_aload_n hx hb (dq tk_LW_4 14 rfl) rfl (lv_at hl 2 rfl) ?_
      refine lv_iload hx hb (dq tk_LW_4 15 rfl) (lv_at hl 1 rfl) ?_
      refine lv_iconst (v := 3) hx hb (dq tk_LW_4 16 rfl) (by decide) ?_
      refine lv_iadd hx hb (dq tk_LW_4 17 rfl) ?_
      refine l_sld hc hw hX hbl hbZ (k := 6 * k + 3) (a := a3) (nI_add (6 * k) 3) (by omega) hL ha3 (dq tk_LW_4 18 rfl) ?_
      refine K_M_returns hc hw lk_2114 hfm ⟨Nat.le_of_ble_eq_true rfl, Nat.le_of_ble_eq_true rfl⟩ ⟨by show cells + 1 ≤ 601024; omega, by show slots + 6 ≤ 7293034; omega⟩ hl.1 (Nat.le_of_ble_eq_true rfl) (dq tk_LW_4 19 rfl) (fun H locs hw _ => ?_)
      refine lv_istore (lv' := [(6, .int r), (5, .int 0), (4, .int (nI (6 * k))), (0, .ref b), (1, .ref (Z.1 + 0)), (2, .ref (Z.1 + 566)), (3, .ref (Z.1 + 674))]) hx hb (dq tk_LW_4 20 rfl) hl (by decide) rfl (fun ls hl => ?_)
      refine lv_aload_n hx hb (dq tk_LW_4 21 rfl) rfl (lv_at hl 5 rfl) ?_
      refine K_M_thrown hc hw lk_2085 hft ⟨Nat.le_of_ble_eq_true rfl, Nat.le_of_ble_eq_true rfl⟩ ⟨by show cells + 1 ≤ 601024; omega, by show slots + 6 ≤ 7293034; omega⟩ hl.1 (Nat.le_of_ble_eq_true rfl) (dq tk_LW_4 22 rfl) (fun H locs hw _ => ?_)
      refine lv_iload hx hb (dq tk_LW_4 23 rfl) (lv_at hl 1 rfl) ?_
      refine lv_icmp_eq (tgt := 526) hx hb (dq tk_LW_4 24 rfl) (by decide) (fun _ => ?_) (fun g => absurd rfl g)
      refine lv_iload hx hb (dq tk_LW_4 27 rfl) (lv_at hl 1 rfl) ?_
      refine lv_if_ne (tgt := 550) hx hb (dq tk_LW_4 28 rfl) (by decide) (fun g => absurd rfl g) (fun _ => ?_)
      refine lv_aload_n hx hb (dq tk_LW_4 29 rfl) rfl (lv_at hl 6 rfl) ?_
      refine lv_iconst (v := 0) hx hb (dq tk_LW_4 30 rfl) (by decide) ?_
      refine l_lald hc hw (v := 0) (sJ_at.trans (if_pos hr0)) (dq tk_LW_4 31 rfl) ?_
      refine lv_iload hx hb (dq tk_LW_4 32 rfl) (lv_at hl 0 rfl) ?_
      refine lv_if_eq (tgt := 543) hx hb (dq tk_LW_4 33 rfl) (by decide) (fun _ => ?_) (fun g => absurd hr0 g)
      refine lv_lconst (v := 0) hx hb (dq tk_LW_4 36 rfl) (by decide) ?_
      refine W.lcmp hx hb (dq tk_LW_4 37 rfl) ?_
      refine tst (congrArg Value.int lg_cmp_self) ?_
      refine lv_if_eq (tgt := 550) hx hb (dq tk_LW_4 38 rfl) (by decide) (fun _ => ?_) (fun g => absurd rfl g)
      refine lv_goto (tgt := 2404) hx hb (dq tk_LW_4 41 rfl) (by decide) ?_
      refine W.widen (k := cells + 3) (n := slots + 18) (by omega) (by omega) ?_
      exact kk _ _ _ _ _ (hLO.1 _ _ _ hI') hw (lv_sub hl [2, 3, 4, 5, 6] rfl)
    · skip
      refine lv_aload_n hx hb (dq tk_LW_3 44 rfl) rfl (lv_at hl 2 rfl) ?_
      refine lv_aload_n hx hb (dq tk_LW_3 45 rfl) rfl (lv_at hl 1 rfl) ?_
      refine lv_iload hx hb (dq tk_LW_3 46 rfl) (lv_at hl 0 rfl) ?_
      refine lv_iconst (v := 1) hx hb (dq tk_LW_3 47 rfl) (by decide) ?_
      refine lv_iadd hx hb (dq tk_LW_3 48 rfl) ?_
      refine l_sld hc hw hX hbl hbZ (k := 6 * k + 1) (a := a1) (nI_add (6 * k) 1) (by omega) hL ha1 (dq tk_LW_3 49 rfl) ?_
      refine lv_aload_n hx hb (dq tk_LW_3 50 rfl) rfl (lv_at hl 1 rfl) ?_
      refine lv_iload hx hb (dq tk_LW_3 51 rfl) (lv_at hl 0 rfl) ?_
      refine lv_iconst (v := 2) hx hb (dq tk_LW_3 52 rfl) (by decide) ?_
      refine lv_iadd hx hb (dq tk_LW_3 53 rfl) ?_
      refine l_sld hc hw hX hbl hbZ (k := 6 * k + 2) (a := a2) (nI_add (6 * k) 2) (by omega) hL ha2 (dq tk_LW_3 54 rfl) ?_
      refine lv_aload_n hx hb (dq tk_LW_3 55 rfl) rfl (lv_at hl 1 rfl) ?_
      refine lv_iload hx hb (dq tk_LW_3 56 rfl) (lv_at hl 0 rfl) ?_
      refine lv_iconst (v := 3) hx hb (dq tk_LW_3 57 rfl) (by decide) ?_
      refine lv_iadd hx hb (dq tk_LW_3 58 rfl) ?_
      refine l_sld hc hw hX hbl hbZ (k := 6 * k + 3) (a := a3) (nI_add (6 * k) 3) (by omega) hL ha3 (dq tk_LW_3 59 rfl) ?_
      refine lv_aload_n hx hb (dq tk_LW_4 0 rfl) rfl (lv_at hl 4 rfl) ?_
      refine KL_returns_s hst hc hw lk_1111 hfx ⟨Nat.le_of_ble_eq_true rfl, Nat.le_of_ble_eq_true rfl⟩ ⟨by show cells + 1 ≤ 601024; omega, by show slots + 6 ≤ 7293034; omega⟩ hl.1 (Nat.le_of_ble_eq_true rfl) (dq tk_LW_4 1 rfl) (fun H locs hw => ?_)
      refine lv_istore (lv' := [(5, .int 0), (4, .int (nI (6 * k))), (0, .ref b), (1, .ref (Z.1 + 0)), (2, .ref (Z.1 + 566)), (3, .ref (Z.1 + 674))]) hx hb (dq tk_LW_4 2 rfl) hl (by decide) rfl (fun ls hl => ?_)
      refine lv_aload_n hx hb (dq tk_LW_4 3 rfl) rfl (lv_at hl 4 rfl) ?_
      refine lv_aload_n hx hb (dq tk_LW_4 4 rfl) rfl (lv_at hl 2 rfl) ?_
      refine lv_iload hx hb (dq tk_LW_4 5 rfl) (lv_at hl 1 rfl) ?_
      refine lv_iconst (v := 1) hx hb (dq tk_LW_4 6 rfl) (by decide) ?_
      refine lv_iadd hx hb (dq tk_LW_4 7 rfl) ?_
      refine l_sld hc hw hX hbl hbZ (k := 6 * k + 1) (a := a1) (nI_add (6 * k) 1) (by omega) hL ha1 (dq tk_LW_4 8 rfl) ?_
      refine lv_aload_n hx hb (dq tk_LW_4 9 rfl) rfl (lv_at hl 2 rfl) ?_
      refine lv_iload hx hb (dq tk_LW_4 10 rfl) (lv_at hl 1 rfl) ?_
      refine lv_iconst (v := 2) hx hb (dq tk_LW_4 11 rfl) (by decide) ?_
      refine lv_iadd hx hb (dq tk_LW_4 12 rfl) ?_
      refine l_sld hc hw hX hbl hbZ (k := 6 * k + 2) (a := a2) (nI_add (6 * k) 2) (by omega) hL ha2 (dq tk_LW_4 13 rfl) ?_
      refine lv_aload_n hx hb (dq tk_LW_4 14 rfl) rfl (lv_at hl 2 rfl) ?_
      refine lv_iload hx hb (dq tk_LW_4 15 rfl) (lv_at hl 1 rfl) ?_
      refine lv_iconst (v := 3) hx hb (dq tk_LW_4 16 rfl) (by decide) ?_
      refine lv_iadd hx hb (dq tk_LW_4 17 rfl) ?_
      refine l_sld hc hw hX hbl hbZ (k := 6 * k + 3) (a := a3) (nI_add (6 * k) 3) (by omega) hL ha3 (dq tk_LW_4 18 rfl) ?_
      refine K_M_returns hc hw lk_2114 hfm ⟨Nat.le_of_ble_eq_true rfl, Nat.le_of_ble_eq_true rfl⟩ ⟨by show cells + 1 ≤ 601024; omega, by show slots + 6 ≤ 7293034; omega⟩ hl.1 (Nat.le_of_ble_eq_true rfl) (dq tk_LW_4 19 rfl) (fun H locs hw _ => ?_)
      refine lv_istore (lv' := [(6, .int r), (5, .int 0), (4, .int (nI (6 * k))), (0, .ref b), (1, .ref (Z.1 + 0)), (2, .ref (Z.1 + 566)), (3, .ref (Z.1 + 674))]) hx hb (dq tk_LW_4 20 rfl) hl (by decide) rfl (fun ls hl => ?_)
      refine lv_aload_n hx hb (dq tk_LW_4 21 rfl) rfl (lv_at hl 5 rfl) ?_
      refine K_M_thrown hc hw lk_2085 hft ⟨Nat.le_of_ble_eq_true rfl, Nat.le_of_ble_eq_true rfl⟩ ⟨by show cells + 1 ≤ 601024; omega, by show slots + 6 ≤ 7293034; omega⟩ hl.1 (Nat.le_of_ble_eq_true rfl) (dq tk_LW_4 22 rfl) (fun H locs hw _ => ?_)
      refine lv_iload hx hb (dq tk_LW_4 23 rfl) (lv_at hl 1 rfl) ?_
      refine lv_icmp_eq (tgt := 526) hx hb (dq tk_LW_4 24 rfl) (by decide) (fun _ => ?_) (fun g => absurd rfl g)
      refine lv_iload hx hb (dq tk_LW_4 27 rfl) (lv_at hl 1 rfl) ?_
      refine lv_if_ne (tgt := 550) hx hb (dq tk_LW_4 28 rfl) (by decide) (fun g => absurd rfl g) (fun _ => ?_)
      refine lv_aload_n hx hb (dq tk_LW_4 29 rfl) rfl (lv_at hl 6 rfl) ?_
      refine lv_iconst (v := 0) hx hb (dq tk_LW_4 30 rfl) (by decide) ?_
      refine l_lald hc hw (v := 1) (sJ_at.trans (if_neg hr0)) (dq tk_LW_4 31 rfl) ?_
      refine lv_iload hx hb (dq tk_LW_4 32 rfl) (lv_at hl 0 rfl) ?_
      refine lv_if_eq (tgt := 543) hx hb (dq tk_LW_4 33 rfl) (by decide) (fun g => absurd g hr0) (fun _ => ?_)
      refine lv_lconst (v := 1) hx hb (dq tk_LW_4 34 rfl) (by decide) ?_
      refine lv_goto (tgt := 544) hx hb (dq tk_LW_4 35 rfl) (by decide) ?_
      refine W.lcmp hx hb (dq tk_LW_4 37 rfl) ?_
      refine tst (congrArg Value.int lg_cmp_self) ?_
      refine lv_if_eq (tgt := 550) hx hb (dq tk_LW_4 38 rfl) (by decide) (fun _ => ?_) (fun g => absurd rfl g)
      refine lv_goto (tgt := 2404) hx hb (dq tk_LW_4 41 rfl) (by decide) ?_
      refine W.widen (k := cells + 3) (n := slots + 18) (by omega) (by omega) ?_
      exact kk _ _ _ _ _ (hLO.1 _ _ _ hI') hw (lv_sub hl [2, 3, 4, 5, 6] rfl)
set_option maxRecDepth 10000 in
theorem w_law_5 {N b L k : Nat} {xs : Nat → Int32} {Inv : St → St → Prop} (hLO : LawOk N Inv) (hst : l.stackTraces = false) (hc : Cxz p s m meth c #[Value.ref b] code "LabourExchangeLaw" 8 Z) (hX : va_X b L xs s s.heap) (hbl : b < s.heap.size) (hbZ : b < Z.1) (hL : L ≤ 3072) (hk : 6 * k + 6 ≤ L) (hI : Inv σ μ) (hcl0 : cells + 3 ≤ 601024 ∧ slots + 18 ≤ 7293034) {ls : Array Slot} (hw : Wd Z (cmb σ μ) s H locs) (hl : lv_has ls 8 [(4, .int (nI (6 * k))), (0, .ref b), (1, .ref (Z.1 + 0)), (2, .ref (Z.1 + 566)), (3, .ref (Z.1 + 674))])
    (kk : ∀ (σ1 μ1 : St) (H1 : Heap) (locs1 : List Loc) (ls1 : Array Slot), Inv σ1 μ1 → Wd Z (cmb σ1 μ1) s H1 locs1 → lv_has ls1 8 [(4, .int (nI (6 * k))), (0, .ref b), (1, .ref (Z.1 + 0)), (2, .ref (Z.1 + 566)), (3, .ref (Z.1 + 674))] → W p l e room_1 s m #[Value.ref b] below meth c H1 locs1 (cells + 3) (slots + 18) Q (F0 m 2404 ls1 [])) : W p l e room_1 s m #[Value.ref b] below meth c H locs cells slots Q (F0 m 553 ls []) := by
  have hx := hc.hx
  have hb := hc.hb
  obtain ⟨h1, h2⟩ := hcl0
  obtain ⟨a1, ha1⟩ : ∃ a, xs (6 * k + 1) = a := ⟨_, rfl⟩
  obtain ⟨a2, ha2⟩ : ∃ a, xs (6 * k + 2) = a := ⟨_, rfl⟩
  obtain ⟨q, b0, μ', hfx, hfm, hft, hq, hI'⟩ := (hLO.2.2.2.2.2.2.1 σ μ a1 a2 hI)
  cases q with
  | none =>
    replace hft : fM_thrown N μ' = some 1 := hft
    refine lv_aload_n hx hb (dq tk_LW_4 42 rfl) rfl (lv_at hl 2 rfl) ?_
    refine lv_aload_n hx hb (dq tk_LW_4 43 rfl) rfl (lv_at hl 1 rfl) ?_
    refine lv_iload hx hb (dq tk_LW_4 44 rfl) (lv_at hl 0 rfl) ?_
    refine lv_iconst (v := 1) hx hb (dq tk_LW_4 45 rfl) (by decide) ?_
    refine lv_iadd hx hb (dq tk_LW_4 46 rfl) ?_
    refine l_sld hc hw hX hbl hbZ (k := 6 * k + 1) (a := a1) (nI_add (6 * k) 1) (by omega) hL ha1 (dq tk_LW_4 47 rfl) ?_
    refine lv_aload_n hx hb (dq tk_LW_4 48 rfl) rfl (lv_at hl 1 rfl) ?_
    refine lv_iload hx hb (dq tk_LW_4 49 rfl) (lv_at hl 0 rfl) ?_
    refine lv_iconst (v := 2) hx hb (dq tk_LW_4 50 rfl) (by decide) ?_
    refine lv_iadd hx hb (dq tk_LW_4 51 rfl) ?_
    refine l_sld hc hw hX hbl hbZ (k := 6 * k + 2) (a := a2) (nI_add (6 * k) 2) (by omega) hL ha2 (dq tk_LW_4 52 rfl) ?_
    refine lv_aload_n hx hb (dq tk_LW_4 53 rfl) rfl (lv_at hl 4 rfl) ?_
    refine KL_stamps_n hst hc hw lk_1122 hfx ⟨Nat.le_of_ble_eq_true rfl, Nat.le_of_ble_eq_true rfl⟩ ⟨by show cells + 2 ≤ 601024; omega, by show slots + 12 ≤ 7293034; omega⟩ hl.1 (Nat.le_of_ble_eq_true rfl) (dq tk_LW_4 54 rfl) (fun H locs hw => ?_)
    refine lv_istore (lv' := [(5, .int 1), (4, .int (nI (6 * k))), (0, .ref b), (1, .ref (Z.1 + 0)), (2, .ref (Z.1 + 566)), (3, .ref (Z.1 + 674))]) hx hb (dq tk_LW_4 55 rfl) hl (by decide) rfl (fun ls hl => ?_)
    refine lv_aload_n hx hb (dq tk_LW_4 56 rfl) rfl (lv_at hl 4 rfl) ?_
    refine lv_aload_n hx hb (dq tk_LW_4 57 rfl) rfl (lv_at hl 2 rfl) ?_
    refine lv_iload hx hb (dq tk_LW_4 58 rfl) (lv_at hl 1 rfl) ?_
    refine lv_iconst (v := 1) hx hb (dq tk_LW_4 59 rfl) (by decide) ?_
    refine lv_iadd hx hb (dq tk_LW_5 0 rfl) ?_
    refine l_sld hc hw hX hbl hbZ (k := 6 * k + 1) (a := a1) (nI_add (6 * k) 1) (by omega) hL ha1 (dq tk_LW_5 1 rfl) ?_
    refine lv_aload_n hx hb (dq tk_LW_5 2 rfl) rfl (lv_at hl 2 rfl) ?_
    refine lv_iload hx hb (dq tk_LW_5 3 rfl) (lv_at hl 1 rfl) ?_
    refine lv_iconst (v := 2) hx hb (dq tk_LW_5 4 rfl) (by decide) ?_
    refine lv_iadd hx hb (dq tk_LW_5 5 rfl) ?_
    refine l_sld hc hw hX hbl hbZ (k := 6 * k + 2) (a := a2) (nI_add (6 * k) 2) (by omega) hL ha2 (dq tk_LW_5 6 rfl) ?_
    refine K_M_stamps hc hw lk_2118 hfm ⟨Nat.le_of_ble_eq_true rfl, Nat.le_of_ble_eq_true rfl⟩ ⟨by show cells + 2 ≤ 601024; omega, by show slots + 12 ≤ 7293034; omega⟩ hl.1 (Nat.le_of_ble_eq_true rfl) (dq tk_LW_5 7 rfl) (fun H locs hw _ => ?_)
    refine lv_istore (lv' := [(6, .int b0), (5, .int 1), (4, .int (nI (6 * k))), (0, .ref b), (1, .ref (Z.1 + 0)), (2, .ref (Z.1 + 566)), (3, .ref (Z.1 + 674))]) hx hb (dq tk_LW_5 8 rfl) hl (by decide) rfl (fun ls hl => ?_)
    refine lv_aload_n hx hb (dq tk_LW_5 9 rfl) rfl (lv_at hl 5 rfl) ?_
    refine K_M_thrown hc hw lk_2085 hft ⟨Nat.le_of_ble_eq_true rfl, Nat.le_of_ble_eq_true rfl⟩ ⟨by show cells + 2 ≤ 601024; omega, by show slots + 12 ≤ 7293034; omega⟩ hl.1 (Nat.le_of_ble_eq_true rfl) (dq tk_LW_5 10 rfl) (fun H locs hw _ => ?_)
    refine lv_iload hx hb (dq tk_LW_5 11 rfl) (lv_at hl 1 rfl) ?_
    refine lv_icmp_eq (tgt := 601) hx hb (dq tk_LW_5 12 rfl) (by decide) (fun _ => ?_) (fun g => absurd rfl g)
    refine lv_iload hx hb (dq tk_LW_5 15 rfl) (lv_at hl 1 rfl) ?_
    refine lv_if_ne (tgt := 618) hx hb (dq tk_LW_5 16 rfl) (by decide) (fun _ => ?_) (fun g => absurd g (by decide))
    refine lv_goto (tgt := 2404) hx hb (dq tk_LW_5 26 rfl) (by decide) ?_
    refine W.widen (k := cells + 3) (n := slots + 18) (by omega) (by omega) ?_
    exact kk _ _ _ _ _ hI' hw (lv_sub hl [2, 3, 4, 5, 6] rfl)
  | some r =>
    replace hft : fM_thrown N μ' = some 0 := hft
    obtain rfl : r = b0 := hq r rfl
    refine lv_aload_n hx hb (dq tk_LW_4 42 rfl) rfl (lv_at hl 2 rfl) ?_
    refine lv_aload_n hx hb (dq tk_LW_4 43 rfl) rfl (lv_at hl 1 rfl) ?_
    refine lv_iload hx hb (dq tk_LW_4 44 rfl) (lv_at hl 0 rfl) ?_
    refine lv_iconst (v := 1) hx hb (dq tk_LW_4 45 rfl) (by decide) ?_
    refine lv_iadd hx hb (dq tk_LW_4 46 rfl) ?_
    refine l_sld hc hw hX hbl hbZ (k := 6 * k + 1) (a := a1) (nI_add (6 * k) 1) (by omega) hL ha1 (dq tk_LW_4 47 rfl) ?_
    refine lv_aload_n hx hb (dq tk_LW_4 48 rfl) rfl (lv_at hl 1 rfl) ?_
    refine lv_iload hx hb (dq tk_LW_4 49 rfl) (lv_at hl 0 rfl) ?_
    refine lv_iconst (v := 2) hx hb (dq tk_LW_4 50 rfl) (by decide) ?_
    refine lv_iadd hx hb (dq tk_LW_4 51 rfl) ?_
    refine l_sld hc hw hX hbl hbZ (k := 6 * k + 2) (a := a2) (nI_add (6 * k) 2) (by omega) hL ha2 (dq tk_LW_4 52 rfl) ?_
    refine lv_aload_n hx hb (dq tk_LW_4 53 rfl) rfl (lv_at hl 4 rfl) ?_
    refine KL_stamps_s hst hc hw lk_1122 hfx ⟨Nat.le_of_ble_eq_true rfl, Nat.le_of_ble_eq_true rfl⟩ ⟨by show cells + 2 ≤ 601024; omega, by show slots + 12 ≤ 7293034; omega⟩ hl.1 (Nat.le_of_ble_eq_true rfl) (dq tk_LW_4 54 rfl) (fun H locs hw => ?_)
    refine lv_istore (lv' := [(5, .int 0), (4, .int (nI (6 * k))), (0, .ref b), (1, .ref (Z.1 + 0)), (2, .ref (Z.1 + 566)), (3, .ref (Z.1 + 674))]) hx hb (dq tk_LW_4 55 rfl) hl (by decide) rfl (fun ls hl => ?_)
    refine lv_aload_n hx hb (dq tk_LW_4 56 rfl) rfl (lv_at hl 4 rfl) ?_
    refine lv_aload_n hx hb (dq tk_LW_4 57 rfl) rfl (lv_at hl 2 rfl) ?_
    refine lv_iload hx hb (dq tk_LW_4 58 rfl) (lv_at hl 1 rfl) ?_
    refine lv_iconst (v := 1) hx hb (dq tk_LW_4 59 rfl) (by decide) ?_
    refine lv_iadd hx hb (dq tk_LW_5 0 rfl) ?_
    refine l_sld hc hw hX hbl hbZ (k := 6 * k + 1) (a := a1) (nI_add (6 * k) 1) (by omega) hL ha1 (dq tk_LW_5 1 rfl) ?_
    refine lv_aload_n hx hb (dq tk_LW_5 2 rfl) rfl (lv_at hl 2 rfl) ?_
    refine lv_iload hx hb (dq tk_LW_5 3 rfl) (lv_at hl 1 rfl) ?_
    refine lv_iconst (v := 2) hx hb (dq tk_LW_5 4 rfl) (by decide) ?_
    refine lv_iadd hx hb (dq tk_LW_5 5 rfl) ?_
    refine l_sld hc hw hX hbl hbZ (k := 6 * k + 2) (a := a2) (nI_add (6 * k) 2) (by omega) hL ha2 (dq tk_LW_5 6 rfl) ?_
    refine K_M_stamps hc hw lk_2118 hfm ⟨Nat.le_of_ble_eq_true rfl, Nat.le_of_ble_eq_true rfl⟩ ⟨by show cells + 2 ≤ 601024; omega, by show slots + 12 ≤ 7293034; omega⟩ hl.1 (Nat.le_of_ble_eq_true rfl) (dq tk_LW_5 7 rfl) (fun H locs hw _ => ?_)
    refine lv_istore (lv' := [(6, .int r), (5, .int 0), (4, .int (nI (6 * k))), (0, .ref b), (1, .ref (Z.1 + 0)), (2, .ref (Z.1 + 566)), (3, .ref (Z.1 + 674))]) hx hb (dq tk_LW_5 8 rfl) hl (by decide) rfl (fun ls hl => ?_)
    refine lv_aload_n hx hb (dq tk_LW_5 9 rfl) rfl (lv_at hl 5 rfl) ?_
    refine K_M_thrown hc hw lk_2085 hft ⟨Nat.le_of_ble_eq_true rfl, Nat.le_of_ble_eq_true rfl⟩ ⟨by show cells + 2 ≤ 601024; omega, by show slots + 12 ≤ 7293034; omega⟩ hl.1 (Nat.le_of_ble_eq_true rfl) (dq tk_LW_5 10 rfl) (fun H locs hw _ => ?_)
    refine lv_iload hx hb (dq tk_LW_5 11 rfl) (lv_at hl 1 rfl) ?_
    refine lv_icmp_eq (tgt := 601) hx hb (dq tk_LW_5 12 rfl) (by decide) (fun _ => ?_) (fun g => absurd rfl g)
    refine lv_iload hx hb (dq tk_LW_5 15 rfl) (lv_at hl 1 rfl) ?_
    refine lv_if_ne (tgt := 618) hx hb (dq tk_LW_5 16 rfl) (by decide) (fun g => absurd rfl g) (fun _ => ?_)
    refine lv_aload_n hx hb (dq tk_LW_5 17 rfl) rfl (lv_at hl 6 rfl) ?_
    refine lv_iconst (v := 0) hx hb (dq tk_LW_5 18 rfl) (by decide) ?_
    refine l_lald hc hw (v := r.toInt64) sJ_at (dq tk_LW_5 19 rfl) ?_
    refine lv_iload hx hb (dq tk_LW_5 20 rfl) (lv_at hl 0 rfl) ?_
    refine lv_i2l hx hb (dq tk_LW_5 21 rfl) rfl ?_
    refine W.lcmp hx hb (dq tk_LW_5 22 rfl) ?_
    refine tst (congrArg Value.int lg_cmp_self) ?_
    refine lv_if_eq (tgt := 618) hx hb (dq tk_LW_5 23 rfl) (by decide) (fun _ => ?_) (fun g => absurd rfl g)
    refine lv_goto (tgt := 2404) hx hb (dq tk_LW_5 26 rfl) (by decide) ?_
    refine W.widen (k := cells + 3) (n := slots + 18) (by omega) (by omega) ?_
    exact kk _ _ _ _ _ (hLO.1 _ _ _ hI') hw (lv_sub hl [2, 3, 4, 5, 6] rfl)
set_option maxRecDepth 10000 in
theorem w_law_6 {N b L k : Nat} {xs : Nat → Int32} {Inv : St → St → Prop} (hLO : LawOk N Inv) (hst : l.stackTraces = false) (hc : Cxz p s m meth c #[Value.ref b] code "LabourExchangeLaw" 8 Z) (hX : va_X b L xs s s.heap) (hbl : b < s.heap.size) (hbZ : b < Z.1) (hL : L ≤ 3072) (hk : 6 * k + 6 ≤ L) (hI : Inv σ μ) (hcl0 : cells + 3 ≤ 601024 ∧ slots + 18 ≤ 7293034) {ls : Array Slot} (hw : Wd Z (cmb σ μ) s H locs) (hl : lv_has ls 8 [(4, .int (nI (6 * k))), (0, .ref b), (1, .ref (Z.1 + 0)), (2, .ref (Z.1 + 566)), (3, .ref (Z.1 + 674))])
    (kk : ∀ (σ1 μ1 : St) (H1 : Heap) (locs1 : List Loc) (ls1 : Array Slot), Inv σ1 μ1 → Wd Z (cmb σ1 μ1) s H1 locs1 → lv_has ls1 8 [(4, .int (nI (6 * k))), (0, .ref b), (1, .ref (Z.1 + 0)), (2, .ref (Z.1 + 566)), (3, .ref (Z.1 + 674))] → W p l e room_1 s m #[Value.ref b] below meth c H1 locs1 (cells + 3) (slots + 18) Q (F0 m 2404 ls1 [])) : W p l e room_1 s m #[Value.ref b] below meth c H locs cells slots Q (F0 m 621 ls []) := by
  have hx := hc.hx
  have hb := hc.hb
  obtain ⟨h1, h2⟩ := hcl0
  obtain ⟨a1, ha1⟩ : ∃ a, xs (6 * k + 1) = a := ⟨_, rfl⟩
  obtain ⟨a2, ha2⟩ : ∃ a, xs (6 * k + 2) = a := ⟨_, rfl⟩
  obtain ⟨a3, ha3⟩ : ∃ a, xs (6 * k + 3) = a := ⟨_, rfl⟩
  obtain ⟨q, σ', b0, μ', hfx, hfm, hft, hq, hI'⟩ := (hLO.2.2.2.2.2.2.2.1 σ μ a1 a2 a3 hI)
  cases q with
  | none =>
    replace hft : fM_thrown N μ' = some 1 := hft
    refine lv_aload_n hx hb (dq tk_LW_5 27 rfl) rfl (lv_at hl 2 rfl) ?_
    refine lv_aload_n hx hb (dq tk_LW_5 28 rfl) rfl (lv_at hl 1 rfl) ?_
    refine lv_iload hx hb (dq tk_LW_5 29 rfl) (lv_at hl 0 rfl) ?_
    refine lv_iconst (v := 1) hx hb (dq tk_LW_5 30 rfl) (by decide) ?_
    refine lv_iadd hx hb (dq tk_LW_5 31 rfl) ?_
    refine l_sld hc hw hX hbl hbZ (k := 6 * k + 1) (a := a1) (nI_add (6 * k) 1) (by omega) hL ha1 (dq tk_LW_5 32 rfl) ?_
    refine lv_aload_n hx hb (dq tk_LW_5 33 rfl) rfl (lv_at hl 1 rfl) ?_
    refine lv_iload hx hb (dq tk_LW_5 34 rfl) (lv_at hl 0 rfl) ?_
    refine lv_iconst (v := 2) hx hb (dq tk_LW_5 35 rfl) (by decide) ?_
    refine lv_iadd hx hb (dq tk_LW_5 36 rfl) ?_
    refine l_sld hc hw hX hbl hbZ (k := 6 * k + 2) (a := a2) (nI_add (6 * k) 2) (by omega) hL ha2 (dq tk_LW_5 37 rfl) ?_
    refine lv_aload_n hx hb (dq tk_LW_5 38 rfl) rfl (lv_at hl 1 rfl) ?_
    refine lv_iload hx hb (dq tk_LW_5 39 rfl) (lv_at hl 0 rfl) ?_
    refine lv_iconst (v := 3) hx hb (dq tk_LW_5 40 rfl) (by decide) ?_
    refine lv_iadd hx hb (dq tk_LW_5 41 rfl) ?_
    refine l_sld hc hw hX hbl hbZ (k := 6 * k + 3) (a := a3) (nI_add (6 * k) 3) (by omega) hL ha3 (dq tk_LW_5 42 rfl) ?_
    refine lv_aload_n hx hb (dq tk_LW_5 43 rfl) rfl (lv_at hl 4 rfl) ?_
    refine KL_text_n hst hc hw lk_1141 hfx ⟨Nat.le_of_ble_eq_true rfl, Nat.le_of_ble_eq_true rfl⟩ ⟨by show cells + 1 ≤ 601024; omega, by show slots + 6 ≤ 7293034; omega⟩ hl.1 (Nat.le_of_ble_eq_true rfl) (dq tk_LW_5 44 rfl) (fun H locs hw => ?_)
    refine lv_istore (lv' := [(5, .int 1), (4, .int (nI (6 * k))), (0, .ref b), (1, .ref (Z.1 + 0)), (2, .ref (Z.1 + 566)), (3, .ref (Z.1 + 674))]) hx hb (dq tk_LW_5 45 rfl) hl (by decide) rfl (fun ls hl => ?_)
    refine lv_aload_n hx hb (dq tk_LW_5 46 rfl) rfl (lv_at hl 4 rfl) ?_
    refine lv_aload_n hx hb (dq tk_LW_5 47 rfl) rfl (lv_at hl 2 rfl) ?_
    refine lv_iload hx hb (dq tk_LW_5 48 rfl) (lv_at hl 1 rfl) ?_
    refine lv_iconst (v := 1) hx hb (dq tk_LW_5 49 rfl) (by decide) ?_
    refine lv_iadd hx hb (dq tk_LW_5 50 rfl) ?_
    refine l_sld hc hw hX hbl hbZ (k := 6 * k + 1) (a := a1) (nI_add (6 * k) 1) (by omega) hL ha1 (dq tk_LW_5 51 rfl) ?_
    refine lv_aload_n hx hb (dq tk_LW_5 52 rfl) rfl (lv_at hl 2 rfl) ?_
    refine lv_iload hx hb (dq tk_LW_5 53 rfl) (lv_at hl 1 rfl) ?_
    refine lv_iconst (v := 2) hx hb (dq tk_LW_5 54 rfl) (by decide) ?_
    refine lv_iadd hx hb (dq tk_LW_5 55 rfl) ?_
    refine l_sld hc hw hX hbl hbZ (k := 6 * k + 2) (a := a2) (nI_add (6 * k) 2) (by omega) hL ha2 (dq tk_LW_5 56 rfl) ?_
    refine lv_aload_n hx hb (dq tk_LW_5 57 rfl) rfl (lv_at hl 2 rfl) ?_
    refine lv_iload hx hb (dq tk_LW_5 58 rfl) (lv_at hl 1 rfl) ?_
    refine lv_iconst (v := 3) hx hb (dq tk_LW_5 59 rfl) (by decide) ?_
    refine lv_iadd hx hb (dq tk_LW_6 0 rfl) ?_
    refine l_sld hc hw hX hbl hbZ (k := 6 * k + 3) (a := a3) (nI_add (6 * k) 3) (by omega) hL ha3 (dq tk_LW_6 1 rfl) ?_
    refine K_M_text hc hw lk_2134 hfm ⟨Nat.le_of_ble_eq_true rfl, Nat.le_of_ble_eq_true rfl⟩ ⟨by show cells + 1 ≤ 601024; omega, by show slots + 6 ≤ 7293034; omega⟩ hl.1 (Nat.le_of_ble_eq_true rfl) (dq tk_LW_6 2 rfl) (fun H locs hw _ => ?_)
    refine lv_istore (lv' := [(6, .int b0), (5, .int 1), (4, .int (nI (6 * k))), (0, .ref b), (1, .ref (Z.1 + 0)), (2, .ref (Z.1 + 566)), (3, .ref (Z.1 + 674))]) hx hb (dq tk_LW_6 3 rfl) hl (by decide) rfl (fun ls hl => ?_)
    refine lv_aload_n hx hb (dq tk_LW_6 4 rfl) rfl (lv_at hl 5 rfl) ?_
    refine K_M_thrown hc hw lk_2085 hft ⟨Nat.le_of_ble_eq_true rfl, Nat.le_of_ble_eq_true rfl⟩ ⟨by show cells + 1 ≤ 601024; omega, by show slots + 6 ≤ 7293034; omega⟩ hl.1 (Nat.le_of_ble_eq_true rfl) (dq tk_LW_6 5 rfl) (fun H locs hw _ => ?_)
    refine lv_iload hx hb (dq tk_LW_6 6 rfl) (lv_at hl 1 rfl) ?_
    refine lv_icmp_eq (tgt := 681) hx hb (dq tk_LW_6 7 rfl) (by decide) (fun _ => ?_) (fun g => absurd rfl g)
    refine lv_iload hx hb (dq tk_LW_6 10 rfl) (lv_at hl 1 rfl) ?_
    refine lv_if_ne (tgt := 698) hx hb (dq tk_LW_6 11 rfl) (by decide) (fun _ => ?_) (fun g => absurd g (by decide))
    refine lv_goto (tgt := 2404) hx hb (dq tk_LW_6 21 rfl) (by decide) ?_
    refine W.widen (k := cells + 3) (n := slots + 18) (by omega) (by omega) ?_
    exact kk _ _ _ _ _ hI' hw (lv_sub hl [2, 3, 4, 5, 6] rfl)
  | some r =>
    replace hft : fM_thrown N μ' = some 0 := hft
    obtain rfl : r = b0 := hq r rfl
    refine lv_aload_n hx hb (dq tk_LW_5 27 rfl) rfl (lv_at hl 2 rfl) ?_
    refine lv_aload_n hx hb (dq tk_LW_5 28 rfl) rfl (lv_at hl 1 rfl) ?_
    refine lv_iload hx hb (dq tk_LW_5 29 rfl) (lv_at hl 0 rfl) ?_
    refine lv_iconst (v := 1) hx hb (dq tk_LW_5 30 rfl) (by decide) ?_
    refine lv_iadd hx hb (dq tk_LW_5 31 rfl) ?_
    refine l_sld hc hw hX hbl hbZ (k := 6 * k + 1) (a := a1) (nI_add (6 * k) 1) (by omega) hL ha1 (dq tk_LW_5 32 rfl) ?_
    refine lv_aload_n hx hb (dq tk_LW_5 33 rfl) rfl (lv_at hl 1 rfl) ?_
    refine lv_iload hx hb (dq tk_LW_5 34 rfl) (lv_at hl 0 rfl) ?_
    refine lv_iconst (v := 2) hx hb (dq tk_LW_5 35 rfl) (by decide) ?_
    refine lv_iadd hx hb (dq tk_LW_5 36 rfl) ?_
    refine l_sld hc hw hX hbl hbZ (k := 6 * k + 2) (a := a2) (nI_add (6 * k) 2) (by omega) hL ha2 (dq tk_LW_5 37 rfl) ?_
    refine lv_aload_n hx hb (dq tk_LW_5 38 rfl) rfl (lv_at hl 1 rfl) ?_
    refine lv_iload hx hb (dq tk_LW_5 39 rfl) (lv_at hl 0 rfl) ?_
    refine lv_iconst (v := 3) hx hb (dq tk_LW_5 40 rfl) (by decide) ?_
    refine lv_iadd hx hb (dq tk_LW_5 41 rfl) ?_
    refine l_sld hc hw hX hbl hbZ (k := 6 * k + 3) (a := a3) (nI_add (6 * k) 3) (by omega) hL ha3 (dq tk_LW_5 42 rfl) ?_
    refine lv_aload_n hx hb (dq tk_LW_5 43 rfl) rfl (lv_at hl 4 rfl) ?_
    refine KL_text_s hst hc hw lk_1141 hfx ⟨Nat.le_of_ble_eq_true rfl, Nat.le_of_ble_eq_true rfl⟩ ⟨by show cells + 1 ≤ 601024; omega, by show slots + 6 ≤ 7293034; omega⟩ hl.1 (Nat.le_of_ble_eq_true rfl) (dq tk_LW_5 44 rfl) (fun H locs hw => ?_)
    refine lv_istore (lv' := [(5, .int 0), (4, .int (nI (6 * k))), (0, .ref b), (1, .ref (Z.1 + 0)), (2, .ref (Z.1 + 566)), (3, .ref (Z.1 + 674))]) hx hb (dq tk_LW_5 45 rfl) hl (by decide) rfl (fun ls hl => ?_)
    refine lv_aload_n hx hb (dq tk_LW_5 46 rfl) rfl (lv_at hl 4 rfl) ?_
    refine lv_aload_n hx hb (dq tk_LW_5 47 rfl) rfl (lv_at hl 2 rfl) ?_
    refine lv_iload hx hb (dq tk_LW_5 48 rfl) (lv_at hl 1 rfl) ?_
    refine lv_iconst (v := 1) hx hb (dq tk_LW_5 49 rfl) (by decide) ?_
    refine lv_iadd hx hb (dq tk_LW_5 50 rfl) ?_
    refine l_sld hc hw hX hbl hbZ (k := 6 * k + 1) (a := a1) (nI_add (6 * k) 1) (by omega) hL ha1 (dq tk_LW_5 51 rfl) ?_
    refine lv_aload_n hx hb (dq tk_LW_5 52 rfl) rfl (lv_at hl 2 rfl) ?_
    refine lv_iload hx hb (dq tk_LW_5 53 rfl) (lv_at hl 1 rfl) ?_
    refine lv_iconst (v := 2) hx hb (dq tk_LW_5 54 rfl) (by decide) ?_
    refine lv_iadd hx hb (dq tk_LW_5 55 rfl) ?_
    refine l_sld hc hw hX hbl hbZ (k := 6 * k + 2) (a := a2) (nI_add (6 * k) 2) (by omega) hL ha2 (dq tk_LW_5 56 rfl) ?_
    refine lv_aload_n hx hb (dq tk_LW_5 57 rfl) rfl (lv_at hl 2 rfl) ?_
    refine lv_iload hx hb (dq tk_LW_5 58 rfl) (lv_at hl 1 rfl) ?_
    refine lv_iconst (v := 3) hx hb (dq tk_LW_5 59 rfl) (by decide) ?_
    refine lv_iadd hx hb (dq tk_LW_6 0 rfl) ?_
    refine l_sld hc hw hX hbl hbZ (k := 6 * k + 3) (a := a3) (nI_add (6 * k) 3) (by omega) hL ha3 (dq tk_LW_6 1 rfl) ?_
    refine K_M_text hc hw lk_2134 hfm ⟨Nat.le_of_ble_eq_true rfl, Nat.le_of_ble_eq_true rfl⟩ ⟨by show cells + 1 ≤ 601024; omega, by show slots + 6 ≤ 7293034; omega⟩ hl.1 (Nat.le_of_ble_eq_true rfl) (dq tk_LW_6 2 rfl) (fun H locs hw _ => ?_)
    refine lv_istore (lv' := [(6, .int r), (5, .int 0), (4, .int (nI (6 * k))), (0, .ref b), (1, .ref (Z.1 + 0)), (2, .ref (Z.1 + 566)), (3, .ref (Z.1 + 674))]) hx hb (dq tk_LW_6 3 rfl) hl (by decide) rfl (fun ls hl => ?_)
    refine lv_aload_n hx hb (dq tk_LW_6 4 rfl) rfl (lv_at hl 5 rfl) ?_
    refine K_M_thrown hc hw lk_2085 hft ⟨Nat.le_of_ble_eq_true rfl, Nat.le_of_ble_eq_true rfl⟩ ⟨by show cells + 1 ≤ 601024; omega, by show slots + 6 ≤ 7293034; omega⟩ hl.1 (Nat.le_of_ble_eq_true rfl) (dq tk_LW_6 5 rfl) (fun H locs hw _ => ?_)
    refine lv_iload hx hb (dq tk_LW_6 6 rfl) (lv_at hl 1 rfl) ?_
    refine lv_icmp_eq (tgt := 681) hx hb (dq tk_LW_6 7 rfl) (by decide) (fun _ => ?_) (fun g => absurd rfl g)
    refine lv_iload hx hb (dq tk_LW_6 10 rfl) (lv_at hl 1 rfl) ?_
    refine lv_if_ne (tgt := 698) hx hb (dq tk_LW_6 11 rfl) (by decide) (fun g => absurd rfl g) (fun _ => ?_)
    refine lv_aload_n hx hb (dq tk_LW_6 12 rfl) rfl (lv_at hl 6 rfl) ?_
    refine lv_iconst (v := 0) hx hb (dq tk_LW_6 13 rfl) (by decide) ?_
    refine l_lald hc hw (v := r.toInt64) sJ_at (dq tk_LW_6 14 rfl) ?_
    refine lv_iload hx hb (dq tk_LW_6 15 rfl) (lv_at hl 0 rfl) ?_
    refine lv_i2l hx hb (dq tk_LW_6 16 rfl) rfl ?_
    refine W.lcmp hx hb (dq tk_LW_6 17 rfl) ?_
    refine tst (congrArg Value.int lg_cmp_self) ?_
    refine lv_if_eq (tgt := 698) hx hb (dq tk_LW_6 18 rfl) (by decide) (fun _ => ?_) (fun g => absurd rfl g)
    refine lv_goto (tgt := 2404) hx hb (dq tk_LW_6 21 rfl) (by decide) ?_
    refine W.widen (k := cells + 3) (n := slots + 18) (by omega) (by omega) ?_
    exact kk _ _ _ _ _ (hLO.1 _ _ _ hI') hw (lv_sub hl [2, 3, 4, 5, 6] rfl)
set_option maxRecDepth 10000 in
theorem w_law_7 {N b L k : Nat} {xs : Nat → Int32} {Inv : St → St → Prop} (hLO : LawOk N Inv) (hst : l.stackTraces = false) (hc : Cxz p s m meth c #[Value.ref b] code "LabourExchangeLaw" 8 Z) (hX : va_X b L xs s s.heap) (hbl : b < s.heap.size) (hbZ : b < Z.1) (hL : L ≤ 3072) (hk : 6 * k + 6 ≤ L) (hI : Inv σ μ) (hcl0 : cells + 3 ≤ 601024 ∧ slots + 18 ≤ 7293034) {ls : Array Slot} (hw : Wd Z (cmb σ μ) s H locs) (hl : lv_has ls 8 [(4, .int (nI (6 * k))), (0, .ref b), (1, .ref (Z.1 + 0)), (2, .ref (Z.1 + 566)), (3, .ref (Z.1 + 674))])
    (kk : ∀ (σ1 μ1 : St) (H1 : Heap) (locs1 : List Loc) (ls1 : Array Slot), Inv σ1 μ1 → Wd Z (cmb σ1 μ1) s H1 locs1 → lv_has ls1 8 [(4, .int (nI (6 * k))), (0, .ref b), (1, .ref (Z.1 + 0)), (2, .ref (Z.1 + 566)), (3, .ref (Z.1 + 674))] → W p l e room_1 s m #[Value.ref b] below meth c H1 locs1 (cells + 3) (slots + 18) Q (F0 m 2404 ls1 [])) : W p l e room_1 s m #[Value.ref b] below meth c H locs cells slots Q (F0 m 701 ls []) := by
  have hx := hc.hx
  have hb := hc.hb
  obtain ⟨h1, h2⟩ := hcl0
  obtain ⟨r, μ', hfx, hfm, hI'⟩ := (hLO.2.2.2.2.2.2.2.2.1 σ μ hI)
  refine lv_aload_n hx hb (dq tk_LW_6 22 rfl) rfl (lv_at hl 2 rfl) ?_
  refine K_X_fault hc hw lk_724 hfx ⟨Nat.le_of_ble_eq_true rfl, Nat.le_of_ble_eq_true rfl⟩ ⟨by show cells ≤ 601024; omega, by show slots ≤ 7293034; omega⟩ hl.1 (Nat.le_of_ble_eq_true rfl) (dq tk_LW_6 23 rfl) (fun H locs hw _ => ?_)
  refine lv_aload_n hx hb (dq tk_LW_6 24 rfl) rfl (lv_at hl 3 rfl) ?_
  refine K_M_fault hc hw lk_2241 hfm ⟨Nat.le_of_ble_eq_true rfl, Nat.le_of_ble_eq_true rfl⟩ ⟨by show cells ≤ 601024; omega, by show slots ≤ 7293034; omega⟩ hl.1 (Nat.le_of_ble_eq_true rfl) (dq tk_LW_6 25 rfl) (fun H locs hw _ => ?_)
  refine lv_icmp_eq (tgt := 2404) hx hb (dq tk_LW_6 26 rfl) (by decide) (fun _ => ?_) (fun g => absurd rfl g)
  refine W.widen (k := cells + 3) (n := slots + 18) (by omega) (by omega) ?_
  exact kk _ _ _ _ _ hI' hw (lv_sub hl [0, 1, 2, 3, 4] rfl)
set_option maxRecDepth 10000 in
theorem w_law_8 {N b L k : Nat} {xs : Nat → Int32} {Inv : St → St → Prop} (hLO : LawOk N Inv) (hst : l.stackTraces = false) (hc : Cxz p s m meth c #[Value.ref b] code "LabourExchangeLaw" 8 Z) (hX : va_X b L xs s s.heap) (hbl : b < s.heap.size) (hbZ : b < Z.1) (hL : L ≤ 3072) (hk : 6 * k + 6 ≤ L) (hI : Inv σ μ) (hcl0 : cells + 3 ≤ 601024 ∧ slots + 18 ≤ 7293034) {ls : Array Slot} (hw : Wd Z (cmb σ μ) s H locs) (hl : lv_has ls 8 [(4, .int (nI (6 * k))), (0, .ref b), (1, .ref (Z.1 + 0)), (2, .ref (Z.1 + 566)), (3, .ref (Z.1 + 674))])
    (kk : ∀ (σ1 μ1 : St) (H1 : Heap) (locs1 : List Loc) (ls1 : Array Slot), Inv σ1 μ1 → Wd Z (cmb σ1 μ1) s H1 locs1 → lv_has ls1 8 [(4, .int (nI (6 * k))), (0, .ref b), (1, .ref (Z.1 + 0)), (2, .ref (Z.1 + 566)), (3, .ref (Z.1 + 674))] → W p l e room_1 s m #[Value.ref b] below meth c H1 locs1 (cells + 3) (slots + 18) Q (F0 m 2404 ls1 [])) : W p l e room_1 s m #[Value.ref b] below meth c H locs cells slots Q (F0 m 714 ls []) := by
  have hx := hc.hx
  have hb := hc.hb
  obtain ⟨h1, h2⟩ := hcl0
  obtain ⟨a1, ha1⟩ : ∃ a, xs (6 * k + 1) = a := ⟨_, rfl⟩
  obtain ⟨a2, ha2⟩ : ∃ a, xs (6 * k + 2) = a := ⟨_, rfl⟩
  obtain ⟨a3, ha3⟩ : ∃ a, xs (6 * k + 3) = a := ⟨_, rfl⟩
  obtain ⟨a4, ha4⟩ : ∃ a, xs (6 * k + 4) = a := ⟨_, rfl⟩
  obtain ⟨q, σ', b0, μ', hfx, hfm, hft, hq, hI'⟩ := (hLO.2.2.2.2.2.2.2.2.2.1 σ μ a1 a2 a3 a4 hI)
  cases q with
  | none =>
    replace hft : fM_thrown N μ' = some 1 := hft
    refine lv_aload_n hx hb (dq tk_LW_6 29 rfl) rfl (lv_at hl 2 rfl) ?_
    refine lv_aload_n hx hb (dq tk_LW_6 30 rfl) rfl (lv_at hl 1 rfl) ?_
    refine lv_iload hx hb (dq tk_LW_6 31 rfl) (lv_at hl 0 rfl) ?_
    refine lv_iconst (v := 1) hx hb (dq tk_LW_6 32 rfl) (by decide) ?_
    refine lv_iadd hx hb (dq tk_LW_6 33 rfl) ?_
    refine l_sld hc hw hX hbl hbZ (k := 6 * k + 1) (a := a1) (nI_add (6 * k) 1) (by omega) hL ha1 (dq tk_LW_6 34 rfl) ?_
    refine lv_aload_n hx hb (dq tk_LW_6 35 rfl) rfl (lv_at hl 1 rfl) ?_
    refine lv_iload hx hb (dq tk_LW_6 36 rfl) (lv_at hl 0 rfl) ?_
    refine lv_iconst (v := 2) hx hb (dq tk_LW_6 37 rfl) (by decide) ?_
    refine lv_iadd hx hb (dq tk_LW_6 38 rfl) ?_
    refine l_sld hc hw hX hbl hbZ (k := 6 * k + 2) (a := a2) (nI_add (6 * k) 2) (by omega) hL ha2 (dq tk_LW_6 39 rfl) ?_
    refine lv_aload_n hx hb (dq tk_LW_6 40 rfl) rfl (lv_at hl 1 rfl) ?_
    refine lv_iload hx hb (dq tk_LW_6 41 rfl) (lv_at hl 0 rfl) ?_
    refine lv_iconst (v := 3) hx hb (dq tk_LW_6 42 rfl) (by decide) ?_
    refine lv_iadd hx hb (dq tk_LW_6 43 rfl) ?_
    refine l_sld hc hw hX hbl hbZ (k := 6 * k + 3) (a := a3) (nI_add (6 * k) 3) (by omega) hL ha3 (dq tk_LW_6 44 rfl) ?_
    refine lv_aload_n hx hb (dq tk_LW_6 45 rfl) rfl (lv_at hl 1 rfl) ?_
    refine lv_iload hx hb (dq tk_LW_6 46 rfl) (lv_at hl 0 rfl) ?_
    refine lv_iconst (v := 4) hx hb (dq tk_LW_6 47 rfl) (by decide) ?_
    refine lv_iadd hx hb (dq tk_LW_6 48 rfl) ?_
    refine l_sld hc hw hX hbl hbZ (k := 6 * k + 4) (a := a4) (nI_add (6 * k) 4) (by omega) hL ha4 (dq tk_LW_6 49 rfl) ?_
    refine lv_aload_n hx hb (dq tk_LW_6 50 rfl) rfl (lv_at hl 4 rfl) ?_
    refine KL_event_n hst hc hw lk_1344 hfx ⟨Nat.le_of_ble_eq_true rfl, Nat.le_of_ble_eq_true rfl⟩ ⟨by show cells + 2 ≤ 601024; omega, by show slots + 12 ≤ 7293034; omega⟩ hl.1 (Nat.le_of_ble_eq_true rfl) (dq tk_LW_6 51 rfl) (fun H locs hw => ?_)
    refine lv_istore (lv' := [(5, .int 1), (4, .int (nI (6 * k))), (0, .ref b), (1, .ref (Z.1 + 0)), (2, .ref (Z.1 + 566)), (3, .ref (Z.1 + 674))]) hx hb (dq tk_LW_6 52 rfl) hl (by decide) rfl (fun ls hl => ?_)
    refine lv_aload_n hx hb (dq tk_LW_6 53 rfl) rfl (lv_at hl 4 rfl) ?_
    refine lv_aload_n hx hb (dq tk_LW_6 54 rfl) rfl (lv_at hl 2 rfl) ?_
    refine lv_iload hx hb (dq tk_LW_6 55 rfl) (lv_at hl 1 rfl) ?_
    refine lv_iconst (v := 1) hx hb (dq tk_LW_6 56 rfl) (by decide) ?_
    refine lv_iadd hx hb (dq tk_LW_6 57 rfl) ?_
    refine l_sld hc hw hX hbl hbZ (k := 6 * k + 1) (a := a1) (nI_add (6 * k) 1) (by omega) hL ha1 (dq tk_LW_6 58 rfl) ?_
    refine lv_aload_n hx hb (dq tk_LW_6 59 rfl) rfl (lv_at hl 2 rfl) ?_
    refine lv_iload hx hb (dq tk_LW_7 0 rfl) (lv_at hl 1 rfl) ?_
    refine lv_iconst (v := 2) hx hb (dq tk_LW_7 1 rfl) (by decide) ?_
    refine lv_iadd hx hb (dq tk_LW_7 2 rfl) ?_
    refine l_sld hc hw hX hbl hbZ (k := 6 * k + 2) (a := a2) (nI_add (6 * k) 2) (by omega) hL ha2 (dq tk_LW_7 3 rfl) ?_
    refine lv_aload_n hx hb (dq tk_LW_7 4 rfl) rfl (lv_at hl 2 rfl) ?_
    refine lv_iload hx hb (dq tk_LW_7 5 rfl) (lv_at hl 1 rfl) ?_
    refine lv_iconst (v := 3) hx hb (dq tk_LW_7 6 rfl) (by decide) ?_
    refine lv_iadd hx hb (dq tk_LW_7 7 rfl) ?_
    refine l_sld hc hw hX hbl hbZ (k := 6 * k + 3) (a := a3) (nI_add (6 * k) 3) (by omega) hL ha3 (dq tk_LW_7 8 rfl) ?_
    refine lv_aload_n hx hb (dq tk_LW_7 9 rfl) rfl (lv_at hl 2 rfl) ?_
    refine lv_iload hx hb (dq tk_LW_7 10 rfl) (lv_at hl 1 rfl) ?_
    refine lv_iconst (v := 4) hx hb (dq tk_LW_7 11 rfl) (by decide) ?_
    refine lv_iadd hx hb (dq tk_LW_7 12 rfl) ?_
    refine l_sld hc hw hX hbl hbZ (k := 6 * k + 4) (a := a4) (nI_add (6 * k) 4) (by omega) hL ha4 (dq tk_LW_7 13 rfl) ?_
    refine K_M_event hc hw lk_2245 hfm ⟨Nat.le_of_ble_eq_true rfl, Nat.le_of_ble_eq_true rfl⟩ ⟨by show cells + 2 ≤ 601024; omega, by show slots + 12 ≤ 7293034; omega⟩ hl.1 (Nat.le_of_ble_eq_true rfl) (dq tk_LW_7 14 rfl) (fun H locs hw _ => ?_)
    refine lv_istore (lv' := [(6, .int b0), (5, .int 1), (4, .int (nI (6 * k))), (0, .ref b), (1, .ref (Z.1 + 0)), (2, .ref (Z.1 + 566)), (3, .ref (Z.1 + 674))]) hx hb (dq tk_LW_7 15 rfl) hl (by decide) rfl (fun ls hl => ?_)
    refine lv_aload_n hx hb (dq tk_LW_7 16 rfl) rfl (lv_at hl 5 rfl) ?_
    refine K_M_thrown hc hw lk_2085 hft ⟨Nat.le_of_ble_eq_true rfl, Nat.le_of_ble_eq_true rfl⟩ ⟨by show cells + 2 ≤ 601024; omega, by show slots + 12 ≤ 7293034; omega⟩ hl.1 (Nat.le_of_ble_eq_true rfl) (dq tk_LW_7 17 rfl) (fun H locs hw _ => ?_)
    refine lv_iload hx hb (dq tk_LW_7 18 rfl) (lv_at hl 1 rfl) ?_
    refine lv_icmp_eq (tgt := 786) hx hb (dq tk_LW_7 19 rfl) (by decide) (fun _ => ?_) (fun g => absurd rfl g)
    refine lv_iload hx hb (dq tk_LW_7 22 rfl) (lv_at hl 1 rfl) ?_
    refine lv_if_ne (tgt := 803) hx hb (dq tk_LW_7 23 rfl) (by decide) (fun _ => ?_) (fun g => absurd g (by decide))
    refine lv_goto (tgt := 2404) hx hb (dq tk_LW_7 33 rfl) (by decide) ?_
    refine W.widen (k := cells + 3) (n := slots + 18) (by omega) (by omega) ?_
    exact kk _ _ _ _ _ hI' hw (lv_sub hl [2, 3, 4, 5, 6] rfl)
  | some r =>
    replace hft : fM_thrown N μ' = some 0 := hft
    obtain rfl : r = b0 := hq r rfl
    refine lv_aload_n hx hb (dq tk_LW_6 29 rfl) rfl (lv_at hl 2 rfl) ?_
    refine lv_aload_n hx hb (dq tk_LW_6 30 rfl) rfl (lv_at hl 1 rfl) ?_
    refine lv_iload hx hb (dq tk_LW_6 31 rfl) (lv_at hl 0 rfl) ?_
    refine lv_iconst (v := 1) hx hb (dq tk_LW_6 32 rfl) (by decide) ?_
    refine lv_iadd hx hb (dq tk_LW_6 33 rfl) ?_
    refine l_sld hc hw hX hbl hbZ (k := 6 * k + 1) (a := a1) (nI_add (6 * k) 1) (by omega) hL ha1 (dq tk_LW_6 34 rfl) ?_
    refine lv_aload_n hx hb (dq tk_LW_6 35 rfl) rfl (lv_at hl 1 rfl) ?_
    refine lv_iload hx hb (dq tk_LW_6 36 rfl) (lv_at hl 0 rfl) ?_
    refine lv_iconst (v := 2) hx hb (dq tk_LW_6 37 rfl) (by decide) ?_
    refine lv_iadd hx hb (dq tk_LW_6 38 rfl) ?_
    refine l_sld hc hw hX hbl hbZ (k := 6 * k + 2) (a := a2) (nI_add (6 * k) 2) (by omega) hL ha2 (dq tk_LW_6 39 rfl) ?_
    refine lv_aload_n hx hb (dq tk_LW_6 40 rfl) rfl (lv_at hl 1 rfl) ?_
    refine lv_iload hx hb (dq tk_LW_6 41 rfl) (lv_at hl 0 rfl) ?_
    refine lv_iconst (v := 3) hx hb (dq tk_LW_6 42 rfl) (by decide) ?_
    refine lv_iadd hx hb (dq tk_LW_6 43 rfl) ?_
    refine l_sld hc hw hX hbl hbZ (k := 6 * k + 3) (a := a3) (nI_add (6 * k) 3) (by omega) hL ha3 (dq tk_LW_6 44 rfl) ?_
    refine lv_aload_n hx hb (dq tk_LW_6 45 rfl) rfl (lv_at hl 1 rfl) ?_
    refine lv_iload hx hb (dq tk_LW_6 46 rfl) (lv_at hl 0 rfl) ?_
    refine lv_iconst (v := 4) hx hb (dq tk_LW_6 47 rfl) (by decide) ?_
    refine lv_iadd hx hb (dq tk_LW_6 48 rfl) ?_
    refine l_sld hc hw hX hbl hbZ (k := 6 * k + 4) (a := a4) (nI_add (6 * k) 4) (by omega) hL ha4 (dq tk_LW_6 49 rfl) ?_
    refine lv_aload_n hx hb (dq tk_LW_6 50 rfl) rfl (lv_at hl 4 rfl) ?_
    refine KL_event_s hst hc hw lk_1344 hfx ⟨Nat.le_of_ble_eq_true rfl, Nat.le_of_ble_eq_true rfl⟩ ⟨by show cells + 2 ≤ 601024; omega, by show slots + 12 ≤ 7293034; omega⟩ hl.1 (Nat.le_of_ble_eq_true rfl) (dq tk_LW_6 51 rfl) (fun H locs hw => ?_)
    refine lv_istore (lv' := [(5, .int 0), (4, .int (nI (6 * k))), (0, .ref b), (1, .ref (Z.1 + 0)), (2, .ref (Z.1 + 566)), (3, .ref (Z.1 + 674))]) hx hb (dq tk_LW_6 52 rfl) hl (by decide) rfl (fun ls hl => ?_)
    refine lv_aload_n hx hb (dq tk_LW_6 53 rfl) rfl (lv_at hl 4 rfl) ?_
    refine lv_aload_n hx hb (dq tk_LW_6 54 rfl) rfl (lv_at hl 2 rfl) ?_
    refine lv_iload hx hb (dq tk_LW_6 55 rfl) (lv_at hl 1 rfl) ?_
    refine lv_iconst (v := 1) hx hb (dq tk_LW_6 56 rfl) (by decide) ?_
    refine lv_iadd hx hb (dq tk_LW_6 57 rfl) ?_
    refine l_sld hc hw hX hbl hbZ (k := 6 * k + 1) (a := a1) (nI_add (6 * k) 1) (by omega) hL ha1 (dq tk_LW_6 58 rfl) ?_
    refine lv_aload_n hx hb (dq tk_LW_6 59 rfl) rfl (lv_at hl 2 rfl) ?_
    refine lv_iload hx hb (dq tk_LW_7 0 rfl) (lv_at hl 1 rfl) ?_
    refine lv_iconst (v := 2) hx hb (dq tk_LW_7 1 rfl) (by decide) ?_
    refine lv_iadd hx hb (dq tk_LW_7 2 rfl) ?_
    refine l_sld hc hw hX hbl hbZ (k := 6 * k + 2) (a := a2) (nI_add (6 * k) 2) (by omega) hL ha2 (dq tk_LW_7 3 rfl) ?_
    refine lv_aload_n hx hb (dq tk_LW_7 4 rfl) rfl (lv_at hl 2 rfl) ?_
    refine lv_iload hx hb (dq tk_LW_7 5 rfl) (lv_at hl 1 rfl) ?_
    refine lv_iconst (v := 3) hx hb (dq tk_LW_7 6 rfl) (by decide) ?_
    refine lv_iadd hx hb (dq tk_LW_7 7 rfl) ?_
    refine l_sld hc hw hX hbl hbZ (k := 6 * k + 3) (a := a3) (nI_add (6 * k) 3) (by omega) hL ha3 (dq tk_LW_7 8 rfl) ?_
    refine lv_aload_n hx hb (dq tk_LW_7 9 rfl) rfl (lv_at hl 2 rfl) ?_
    refine lv_iload hx hb (dq tk_LW_7 10 rfl) (lv_at hl 1 rfl) ?_
    refine lv_iconst (v := 4) hx hb (dq tk_LW_7 11 rfl) (by decide) ?_
    refine lv_iadd hx hb (dq tk_LW_7 12 rfl) ?_
    refine l_sld hc hw hX hbl hbZ (k := 6 * k + 4) (a := a4) (nI_add (6 * k) 4) (by omega) hL ha4 (dq tk_LW_7 13 rfl) ?_
    refine K_M_event hc hw lk_2245 hfm ⟨Nat.le_of_ble_eq_true rfl, Nat.le_of_ble_eq_true rfl⟩ ⟨by show cells + 2 ≤ 601024; omega, by show slots + 12 ≤ 7293034; omega⟩ hl.1 (Nat.le_of_ble_eq_true rfl) (dq tk_LW_7 14 rfl) (fun H locs hw _ => ?_)
    refine lv_istore (lv' := [(6, .int r), (5, .int 0), (4, .int (nI (6 * k))), (0, .ref b), (1, .ref (Z.1 + 0)), (2, .ref (Z.1 + 566)), (3, .ref (Z.1 + 674))]) hx hb (dq tk_LW_7 15 rfl) hl (by decide) rfl (fun ls hl => ?_)
    refine lv_aload_n hx hb (dq tk_LW_7 16 rfl) rfl (lv_at hl 5 rfl) ?_
    refine K_M_thrown hc hw lk_2085 hft ⟨Nat.le_of_ble_eq_true rfl, Nat.le_of_ble_eq_true rfl⟩ ⟨by show cells + 2 ≤ 601024; omega, by show slots + 12 ≤ 7293034; omega⟩ hl.1 (Nat.le_of_ble_eq_true rfl) (dq tk_LW_7 17 rfl) (fun H locs hw _ => ?_)
    refine lv_iload hx hb (dq tk_LW_7 18 rfl) (lv_at hl 1 rfl) ?_
    refine lv_icmp_eq (tgt := 786) hx hb (dq tk_LW_7 19 rfl) (by decide) (fun _ => ?_) (fun g => absurd rfl g)
    refine lv_iload hx hb (dq tk_LW_7 22 rfl) (lv_at hl 1 rfl) ?_
    refine lv_if_ne (tgt := 803) hx hb (dq tk_LW_7 23 rfl) (by decide) (fun g => absurd rfl g) (fun _ => ?_)
    refine lv_aload_n hx hb (dq tk_LW_7 24 rfl) rfl (lv_at hl 6 rfl) ?_
    refine lv_iconst (v := 0) hx hb (dq tk_LW_7 25 rfl) (by decide) ?_
    refine l_lald hc hw (v := r.toInt64) sJ_at (dq tk_LW_7 26 rfl) ?_
    refine lv_iload hx hb (dq tk_LW_7 27 rfl) (lv_at hl 0 rfl) ?_
    refine lv_i2l hx hb (dq tk_LW_7 28 rfl) rfl ?_
    refine W.lcmp hx hb (dq tk_LW_7 29 rfl) ?_
    refine tst (congrArg Value.int lg_cmp_self) ?_
    refine lv_if_eq (tgt := 803) hx hb (dq tk_LW_7 30 rfl) (by decide) (fun _ => ?_) (fun g => absurd rfl g)
    refine lv_goto (tgt := 2404) hx hb (dq tk_LW_7 33 rfl) (by decide) ?_
    refine W.widen (k := cells + 3) (n := slots + 18) (by omega) (by omega) ?_
    exact kk _ _ _ _ _ (hLO.1 _ _ _ hI') hw (lv_sub hl [2, 3, 4, 5, 6] rfl)
set_option maxRecDepth 10000 in
theorem w_law_9 {N b L k : Nat} {xs : Nat → Int32} {Inv : St → St → Prop} (hLO : LawOk N Inv) (hst : l.stackTraces = false) (hc : Cxz p s m meth c #[Value.ref b] code "LabourExchangeLaw" 8 Z) (hX : va_X b L xs s s.heap) (hbl : b < s.heap.size) (hbZ : b < Z.1) (hL : L ≤ 3072) (hk : 6 * k + 6 ≤ L) (hI : Inv σ μ) (hcl0 : cells + 3 ≤ 601024 ∧ slots + 18 ≤ 7293034) {ls : Array Slot} (hw : Wd Z (cmb σ μ) s H locs) (hl : lv_has ls 8 [(4, .int (nI (6 * k))), (0, .ref b), (1, .ref (Z.1 + 0)), (2, .ref (Z.1 + 566)), (3, .ref (Z.1 + 674))])
    (kk : ∀ (σ1 μ1 : St) (H1 : Heap) (locs1 : List Loc) (ls1 : Array Slot), Inv σ1 μ1 → Wd Z (cmb σ1 μ1) s H1 locs1 → lv_has ls1 8 [(4, .int (nI (6 * k))), (0, .ref b), (1, .ref (Z.1 + 0)), (2, .ref (Z.1 + 566)), (3, .ref (Z.1 + 674))] → W p l e room_1 s m #[Value.ref b] below meth c H1 locs1 (cells + 3) (slots + 18) Q (F0 m 2404 ls1 [])) : W p l e room_1 s m #[Value.ref b] below meth c H locs cells slots Q (F0 m 806 ls []) := by
  have hx := hc.hx
  have hb := hc.hb
  obtain ⟨h1, h2⟩ := hcl0
  obtain ⟨a1, ha1⟩ : ∃ a, xs (6 * k + 1) = a := ⟨_, rfl⟩
  obtain ⟨q, σ', b0, μ', hfx, hfm, hft, hq, hI'⟩ := (hLO.2.2.2.2.2.2.2.2.2.2.1 σ μ a1 hI)
  cases q with
  | none =>
    replace hft : fM_thrown N μ' = some 1 := hft
    refine lv_aload_n hx hb (dq tk_LW_7 34 rfl) rfl (lv_at hl 2 rfl) ?_
    refine lv_aload_n hx hb (dq tk_LW_7 35 rfl) rfl (lv_at hl 1 rfl) ?_
    refine lv_iload hx hb (dq tk_LW_7 36 rfl) (lv_at hl 0 rfl) ?_
    refine lv_iconst (v := 1) hx hb (dq tk_LW_7 37 rfl) (by decide) ?_
    refine lv_iadd hx hb (dq tk_LW_7 38 rfl) ?_
    refine l_sld hc hw hX hbl hbZ (k := 6 * k + 1) (a := a1) (nI_add (6 * k) 1) (by omega) hL ha1 (dq tk_LW_7 39 rfl) ?_
    refine lv_aload_n hx hb (dq tk_LW_7 40 rfl) rfl (lv_at hl 4 rfl) ?_
    refine KL_back_n hst hc hw lk_1365 hfx ⟨Nat.le_of_ble_eq_true rfl, Nat.le_of_ble_eq_true rfl⟩ ⟨by show cells + 1 ≤ 601024; omega, by show slots + 6 ≤ 7293034; omega⟩ hl.1 (Nat.le_of_ble_eq_true rfl) (dq tk_LW_7 41 rfl) (fun H locs hw => ?_)
    refine lv_istore (lv' := [(5, .int 1), (4, .int (nI (6 * k))), (0, .ref b), (1, .ref (Z.1 + 0)), (2, .ref (Z.1 + 566)), (3, .ref (Z.1 + 674))]) hx hb (dq tk_LW_7 42 rfl) hl (by decide) rfl (fun ls hl => ?_)
    refine lv_aload_n hx hb (dq tk_LW_7 43 rfl) rfl (lv_at hl 4 rfl) ?_
    refine lv_aload_n hx hb (dq tk_LW_7 44 rfl) rfl (lv_at hl 2 rfl) ?_
    refine lv_iload hx hb (dq tk_LW_7 45 rfl) (lv_at hl 1 rfl) ?_
    refine lv_iconst (v := 1) hx hb (dq tk_LW_7 46 rfl) (by decide) ?_
    refine lv_iadd hx hb (dq tk_LW_7 47 rfl) ?_
    refine l_sld hc hw hX hbl hbZ (k := 6 * k + 1) (a := a1) (nI_add (6 * k) 1) (by omega) hL ha1 (dq tk_LW_7 48 rfl) ?_
    refine K_M_back hc hw lk_2256 hfm ⟨Nat.le_of_ble_eq_true rfl, Nat.le_of_ble_eq_true rfl⟩ ⟨by show cells + 1 ≤ 601024; omega, by show slots + 6 ≤ 7293034; omega⟩ hl.1 (Nat.le_of_ble_eq_true rfl) (dq tk_LW_7 49 rfl) (fun H locs hw _ => ?_)
    refine lv_istore (lv' := [(6, .int b0), (5, .int 1), (4, .int (nI (6 * k))), (0, .ref b), (1, .ref (Z.1 + 0)), (2, .ref (Z.1 + 566)), (3, .ref (Z.1 + 674))]) hx hb (dq tk_LW_7 50 rfl) hl (by decide) rfl (fun ls hl => ?_)
    refine lv_aload_n hx hb (dq tk_LW_7 51 rfl) rfl (lv_at hl 5 rfl) ?_
    refine K_M_thrown hc hw lk_2085 hft ⟨Nat.le_of_ble_eq_true rfl, Nat.le_of_ble_eq_true rfl⟩ ⟨by show cells + 1 ≤ 601024; omega, by show slots + 6 ≤ 7293034; omega⟩ hl.1 (Nat.le_of_ble_eq_true rfl) (dq tk_LW_7 52 rfl) (fun H locs hw _ => ?_)
    refine lv_iload hx hb (dq tk_LW_7 53 rfl) (lv_at hl 1 rfl) ?_
    refine lv_icmp_eq (tgt := 842) hx hb (dq tk_LW_7 54 rfl) (by decide) (fun _ => ?_) (fun g => absurd rfl g)
    refine lv_iload hx hb (dq tk_LW_7 57 rfl) (lv_at hl 1 rfl) ?_
    refine lv_if_ne (tgt := 866) hx hb (dq tk_LW_7 58 rfl) (by decide) (fun _ => ?_) (fun g => absurd g (by decide))
    refine lv_goto (tgt := 2404) hx hb (dq tk_LW_8 11 rfl) (by decide) ?_
    refine W.widen (k := cells + 3) (n := slots + 18) (by omega) (by omega) ?_
    exact kk _ _ _ _ _ hI' hw (lv_sub hl [2, 3, 4, 5, 6] rfl)
  | some r =>
    replace hft : fM_thrown N μ' = some 0 := hft
    obtain rfl : r = b0 := hq r rfl
    by_cases hr0 : r = 0
    · skip
      refine lv_aload_n hx hb (dq tk_LW_7 34 rfl) rfl (lv_at hl 2 rfl) ?_
      refine lv_aload_n hx hb (dq tk_LW_7 35 rfl) rfl (lv_at hl 1 rfl) ?_
      refine lv_iload hx hb (dq tk_LW_7 36 rfl) (lv_at hl 0 rfl) ?_
      refine lv_iconst (v := 1) hx hb (dq tk_LW_7 37 rfl) (by decide) ?_
      refine lv_iadd hx hb (dq tk_LW_7 38 rfl) ?_
      refine l_sld hc hw hX hbl hbZ (k := 6 * k + 1) (a := a1) (nI_add (6 * k) 1) (by omega) hL ha1 (dq tk_LW_7 39 rfl) ?_
      refine lv_aload_n hx hb (dq tk_LW_7 40 rfl) rfl (lv_at hl 4 rfl) ?_
      refine KL_back_s hst hc hw lk_1365 hfx ⟨Nat.le_of_ble_eq_true rfl, Nat.le_of_ble_eq_true rfl⟩ ⟨by show cells + 1 ≤ 601024; omega, by show slots + 6 ≤ 7293034; omega⟩ hl.1 (Nat.le_of_ble_eq_true rfl) (dq tk_LW_7 41 rfl) (fun H locs hw => ?_)
      refine lv_istore (lv' := [(5, .int 0), (4, .int (nI (6 * k))), (0, .ref b), (1, .ref (Z.1 + 0)), (2, .ref (Z.1 + 566)), (3, .ref (Z.1 + 674))]) hx hb (dq tk_LW_7 42 rfl) hl (by decide) rfl (fun ls hl => ?_)
      refine lv_aload_n hx hb (dq tk_LW_7 43 rfl) rfl (lv_at hl 4 rfl) ?_
      refine lv_aload_n hx hb (dq tk_LW_7 44 rfl) rfl (lv_at hl 2 rfl) ?_
      refine lv_iload hx hb (dq tk_LW_7 45 rfl) (lv_at hl 1 rfl) ?_
      refine lv_iconst (v := 1) hx hb (dq tk_LW_7 46 rfl) (by decide) ?_
      refine lv_iadd hx hb (dq tk_LW_7 47 rfl) ?_
      refine l_sld hc hw hX hbl hbZ (k := 6 * k + 1) (a := a1) (nI_add (6 * k) 1) (by omega) hL ha1 (dq tk_LW_7 48 rfl) ?_
      refine K_M_back hc hw lk_2256 hfm ⟨Nat.le_of_ble_eq_true rfl, Nat.le_of_ble_eq_true rfl⟩ ⟨by show cells + 1 ≤ 601024; omega, by show slots + 6 ≤ 7293034; omega⟩ hl.1 (Nat.le_of_ble_eq_true rfl) (dq tk_LW_7 49 rfl) (fun H locs hw _ => ?_)
      refine lv_istore (lv' := [(6, .int r), (5, .int 0), (4, .int (nI (6 * k))), (0, .ref b), (1, .ref (Z.1 + 0)), (2, .ref (Z.1 + 566)), (3, .ref (Z.1 + 674))]) hx hb (dq tk_LW_7 50 rfl) hl (by decide) rfl (fun ls hl => ?_)
      refine lv_aload_n hx hb (dq tk_LW_7 51 rfl) rfl (lv_at hl 5 rfl) ?_
      refine K_M_thrown hc hw lk_2085 hft ⟨Nat.le_of_ble_eq_true rfl, Nat.le_of_ble_eq_true rfl⟩ ⟨by show cells + 1 ≤ 601024; omega, by show slots + 6 ≤ 7293034; omega⟩ hl.1 (Nat.le_of_ble_eq_true rfl) (dq tk_LW_7 52 rfl) (fun H locs hw _ => ?_)
      refine lv_iload hx hb (dq tk_LW_7 53 rfl) (lv_at hl 1 rfl) ?_
      refine lv_icmp_eq (tgt := 842) hx hb (dq tk_LW_7 54 rfl) (by decide) (fun _ => ?_) (fun g => absurd rfl g)
      refine lv_iload hx hb (dq tk_LW_7 57 rfl) (lv_at hl 1 rfl) ?_
      refine lv_if_ne (tgt := 866) hx hb (dq tk_LW_7 58 rfl) (by decide) (fun g => absurd rfl g) (fun _ => ?_)
      refine lv_aload_n hx hb (dq tk_LW_7 59 rfl) rfl (lv_at hl 6 rfl) ?_
      refine lv_iconst (v := 0) hx hb (dq tk_LW_8 0 rfl) (by decide) ?_
      refine l_lald hc hw (v := 0) (sJ_at.trans (if_pos hr0)) (dq tk_LW_8 1 rfl) ?_
      refine lv_iload hx hb (dq tk_LW_8 2 rfl) (lv_at hl 0 rfl) ?_
      refine lv_if_eq (tgt := 859) hx hb (dq tk_LW_8 3 rfl) (by decide) (fun _ => ?_) (fun g => absurd hr0 g)
      refine lv_lconst (v := 0) hx hb (dq tk_LW_8 6 rfl) (by decide) ?_
      refine W.lcmp hx hb (dq tk_LW_8 7 rfl) ?_
      refine tst (congrArg Value.int lg_cmp_self) ?_
      refine lv_if_eq (tgt := 866) hx hb (dq tk_LW_8 8 rfl) (by decide) (fun _ => ?_) (fun g => absurd rfl g)
      refine lv_goto (tgt := 2404) hx hb (dq tk_LW_8 11 rfl) (by decide) ?_
      refine W.widen (k := cells + 3) (n := slots + 18) (by omega) (by omega) ?_
      exact kk _ _ _ _ _ (hLO.1 _ _ _ hI') hw (lv_sub hl [2, 3, 4, 5, 6] rfl)
    · skip
      refine lv_aload_n hx hb (dq tk_LW_7 34 rfl) rfl (lv_at hl 2 rfl) ?_
      refine lv_aload_n hx hb (dq tk_LW_7 35 rfl) rfl (lv_at hl 1 rfl) ?_
      refine lv_iload hx hb (dq tk_LW_7 36 rfl) (lv_at hl 0 rfl) ?_
      refine lv_iconst (v := 1) hx hb (dq tk_LW_7 37 rfl) (by decide) ?_
      refine lv_iadd hx hb (dq tk_LW_7 38 rfl) ?_
      refine l_sld hc hw hX hbl hbZ (k := 6 * k + 1) (a := a1) (nI_add (6 * k) 1) (by omega) hL ha1 (dq tk_LW_7 39 rfl) ?_
      refine lv_aload_n hx hb (dq tk_LW_7 40 rfl) rfl (lv_at hl 4 rfl) ?_
      refine KL_back_s hst hc hw lk_1365 hfx ⟨Nat.le_of_ble_eq_true rfl, Nat.le_of_ble_eq_true rfl⟩ ⟨by show cells + 1 ≤ 601024; omega, by show slots + 6 ≤ 7293034; omega⟩ hl.1 (Nat.le_of_ble_eq_true rfl) (dq tk_LW_7 41 rfl) (fun H locs hw => ?_)
      refine lv_istore (lv' := [(5, .int 0), (4, .int (nI (6 * k))), (0, .ref b), (1, .ref (Z.1 + 0)), (2, .ref (Z.1 + 566)), (3, .ref (Z.1 + 674))]) hx hb (dq tk_LW_7 42 rfl) hl (by decide) rfl (fun ls hl => ?_)
      refine lv_aload_n hx hb (dq tk_LW_7 43 rfl) rfl (lv_at hl 4 rfl) ?_
      refine lv_aload_n hx hb (dq tk_LW_7 44 rfl) rfl (lv_at hl 2 rfl) ?_
      refine lv_iload hx hb (dq tk_LW_7 45 rfl) (lv_at hl 1 rfl) ?_
      refine lv_iconst (v := 1) hx hb (dq tk_LW_7 46 rfl) (by decide) ?_
      refine lv_iadd hx hb (dq tk_LW_7 47 rfl) ?_
      refine l_sld hc hw hX hbl hbZ (k := 6 * k + 1) (a := a1) (nI_add (6 * k) 1) (by omega) hL ha1 (dq tk_LW_7 48 rfl) ?_
      refine K_M_back hc hw lk_2256 hfm ⟨Nat.le_of_ble_eq_true rfl, Nat.le_of_ble_eq_true rfl⟩ ⟨by show cells + 1 ≤ 601024; omega, by show slots + 6 ≤ 7293034; omega⟩ hl.1 (Nat.le_of_ble_eq_true rfl) (dq tk_LW_7 49 rfl) (fun H locs hw _ => ?_)
      refine lv_istore (lv' := [(6, .int r), (5, .int 0), (4, .int (nI (6 * k))), (0, .ref b), (1, .ref (Z.1 + 0)), (2, .ref (Z.1 + 566)), (3, .ref (Z.1 + 674))]) hx hb (dq tk_LW_7 50 rfl) hl (by decide) rfl (fun ls hl => ?_)
      refine lv_aload_n hx hb (dq tk_LW_7 51 rfl) rfl (lv_at hl 5 rfl) ?_
      refine K_M_thrown hc hw lk_2085 hft ⟨Nat.le_of_ble_eq_true rfl, Nat.le_of_ble_eq_true rfl⟩ ⟨by show cells + 1 ≤ 601024; omega, by show slots + 6 ≤ 7293034; omega⟩ hl.1 (Nat.le_of_ble_eq_true rfl) (dq tk_LW_7 52 rfl) (fun H locs hw _ => ?_)
      refine lv_iload hx hb (dq tk_LW_7 53 rfl) (lv_at hl 1 rfl) ?_
      refine lv_icmp_eq (tgt := 842) hx hb (dq tk_LW_7 54 rfl) (by decide) (fun _ => ?_) (fun g => absurd rfl g)
      refine lv_iload hx hb (dq tk_LW_7 57 rfl) (lv_at hl 1 rfl) ?_
      refine lv_if_ne (tgt := 866) hx hb (dq tk_LW_7 58 rfl) (by decide) (fun g => absurd rfl g) (fun _ => ?_)
      refine lv_aload_n hx hb (dq tk_LW_7 59 rfl) rfl (lv_at hl 6 rfl) ?_
      refine lv_iconst (v := 0) hx hb (dq tk_LW_8 0 rfl) (by decide) ?_
      refine l_lald hc hw (v := 1) (sJ_at.trans (if_neg hr0)) (dq tk_LW_8 1 rfl) ?_
      refine lv_iload hx hb (dq tk_LW_8 2 rfl) (lv_at hl 0 rfl) ?_
      refine lv_if_eq (tgt := 859) hx hb (dq tk_LW_8 3 rfl) (by decide) (fun g => absurd g hr0) (fun _ => ?_)
      refine lv_lconst (v := 1) hx hb (dq tk_LW_8 4 rfl) (by decide) ?_
      refine lv_goto (tgt := 860) hx hb (dq tk_LW_8 5 rfl) (by decide) ?_
      refine W.lcmp hx hb (dq tk_LW_8 7 rfl) ?_
      refine tst (congrArg Value.int lg_cmp_self) ?_
      refine lv_if_eq (tgt := 866) hx hb (dq tk_LW_8 8 rfl) (by decide) (fun _ => ?_) (fun g => absurd rfl g)
      refine lv_goto (tgt := 2404) hx hb (dq tk_LW_8 11 rfl) (by decide) ?_
      refine W.widen (k := cells + 3) (n := slots + 18) (by omega) (by omega) ?_
      exact kk _ _ _ _ _ (hLO.1 _ _ _ hI') hw (lv_sub hl [2, 3, 4, 5, 6] rfl)
set_option maxRecDepth 10000 in
theorem w_law_10 {N b L k : Nat} {xs : Nat → Int32} {Inv : St → St → Prop} (hLO : LawOk N Inv) (hst : l.stackTraces = false) (hc : Cxz p s m meth c #[Value.ref b] code "LabourExchangeLaw" 8 Z) (hX : va_X b L xs s s.heap) (hbl : b < s.heap.size) (hbZ : b < Z.1) (hL : L ≤ 3072) (hk : 6 * k + 6 ≤ L) (hI : Inv σ μ) (hcl0 : cells + 3 ≤ 601024 ∧ slots + 18 ≤ 7293034) {ls : Array Slot} (hw : Wd Z (cmb σ μ) s H locs) (hl : lv_has ls 8 [(4, .int (nI (6 * k))), (0, .ref b), (1, .ref (Z.1 + 0)), (2, .ref (Z.1 + 566)), (3, .ref (Z.1 + 674))])
    (kk : ∀ (σ1 μ1 : St) (H1 : Heap) (locs1 : List Loc) (ls1 : Array Slot), Inv σ1 μ1 → Wd Z (cmb σ1 μ1) s H1 locs1 → lv_has ls1 8 [(4, .int (nI (6 * k))), (0, .ref b), (1, .ref (Z.1 + 0)), (2, .ref (Z.1 + 566)), (3, .ref (Z.1 + 674))] → W p l e room_1 s m #[Value.ref b] below meth c H1 locs1 (cells + 3) (slots + 18) Q (F0 m 2404 ls1 [])) : W p l e room_1 s m #[Value.ref b] below meth c H locs cells slots Q (F0 m 869 ls []) := by
  have hx := hc.hx
  have hb := hc.hb
  obtain ⟨h1, h2⟩ := hcl0
  obtain ⟨a1, ha1⟩ : ∃ a, xs (6 * k + 1) = a := ⟨_, rfl⟩
  obtain ⟨a2, ha2⟩ : ∃ a, xs (6 * k + 2) = a := ⟨_, rfl⟩
  obtain ⟨q, σ', b0, μ', hfx, hfm, hft, hq, hI'⟩ := (hLO.2.2.2.2.2.2.2.2.2.2.2.1 σ μ a1 a2 hI)
  cases q with
  | none =>
    replace hft : fM_thrown N μ' = some 1 := hft
    refine lv_aload_n hx hb (dq tk_LW_8 12 rfl) rfl (lv_at hl 2 rfl) ?_
    refine lv_aload_n hx hb (dq tk_LW_8 13 rfl) rfl (lv_at hl 1 rfl) ?_
    refine lv_iload hx hb (dq tk_LW_8 14 rfl) (lv_at hl 0 rfl) ?_
    refine lv_iconst (v := 1) hx hb (dq tk_LW_8 15 rfl) (by decide) ?_
    refine lv_iadd hx hb (dq tk_LW_8 16 rfl) ?_
    refine l_sld hc hw hX hbl hbZ (k := 6 * k + 1) (a := a1) (nI_add (6 * k) 1) (by omega) hL ha1 (dq tk_LW_8 17 rfl) ?_
    refine lv_aload_n hx hb (dq tk_LW_8 18 rfl) rfl (lv_at hl 1 rfl) ?_
    refine lv_iload hx hb (dq tk_LW_8 19 rfl) (lv_at hl 0 rfl) ?_
    refine lv_iconst (v := 2) hx hb (dq tk_LW_8 20 rfl) (by decide) ?_
    refine lv_iadd hx hb (dq tk_LW_8 21 rfl) ?_
    refine l_sld hc hw hX hbl hbZ (k := 6 * k + 2) (a := a2) (nI_add (6 * k) 2) (by omega) hL ha2 (dq tk_LW_8 22 rfl) ?_
    refine lv_aload_n hx hb (dq tk_LW_8 23 rfl) rfl (lv_at hl 4 rfl) ?_
    refine KL_told_n hst hc hw lk_1372 hfx ⟨Nat.le_of_ble_eq_true rfl, Nat.le_of_ble_eq_true rfl⟩ ⟨by show cells + 2 ≤ 601024; omega, by show slots + 12 ≤ 7293034; omega⟩ hl.1 (Nat.le_of_ble_eq_true rfl) (dq tk_LW_8 24 rfl) (fun H locs hw => ?_)
    refine lv_istore (lv' := [(5, .int 1), (4, .int (nI (6 * k))), (0, .ref b), (1, .ref (Z.1 + 0)), (2, .ref (Z.1 + 566)), (3, .ref (Z.1 + 674))]) hx hb (dq tk_LW_8 25 rfl) hl (by decide) rfl (fun ls hl => ?_)
    refine lv_aload_n hx hb (dq tk_LW_8 26 rfl) rfl (lv_at hl 4 rfl) ?_
    refine lv_aload_n hx hb (dq tk_LW_8 27 rfl) rfl (lv_at hl 2 rfl) ?_
    refine lv_iload hx hb (dq tk_LW_8 28 rfl) (lv_at hl 1 rfl) ?_
    refine lv_iconst (v := 1) hx hb (dq tk_LW_8 29 rfl) (by decide) ?_
    refine lv_iadd hx hb (dq tk_LW_8 30 rfl) ?_
    refine l_sld hc hw hX hbl hbZ (k := 6 * k + 1) (a := a1) (nI_add (6 * k) 1) (by omega) hL ha1 (dq tk_LW_8 31 rfl) ?_
    refine lv_aload_n hx hb (dq tk_LW_8 32 rfl) rfl (lv_at hl 2 rfl) ?_
    refine lv_iload hx hb (dq tk_LW_8 33 rfl) (lv_at hl 1 rfl) ?_
    refine lv_iconst (v := 2) hx hb (dq tk_LW_8 34 rfl) (by decide) ?_
    refine lv_iadd hx hb (dq tk_LW_8 35 rfl) ?_
    refine l_sld hc hw hX hbl hbZ (k := 6 * k + 2) (a := a2) (nI_add (6 * k) 2) (by omega) hL ha2 (dq tk_LW_8 36 rfl) ?_
    refine K_M_told hc hw lk_2260 hfm ⟨Nat.le_of_ble_eq_true rfl, Nat.le_of_ble_eq_true rfl⟩ ⟨by show cells + 2 ≤ 601024; omega, by show slots + 12 ≤ 7293034; omega⟩ hl.1 (Nat.le_of_ble_eq_true rfl) (dq tk_LW_8 37 rfl) (fun H locs hw _ => ?_)
    refine lv_istore (lv' := [(6, .int b0), (5, .int 1), (4, .int (nI (6 * k))), (0, .ref b), (1, .ref (Z.1 + 0)), (2, .ref (Z.1 + 566)), (3, .ref (Z.1 + 674))]) hx hb (dq tk_LW_8 38 rfl) hl (by decide) rfl (fun ls hl => ?_)
    refine lv_aload_n hx hb (dq tk_LW_8 39 rfl) rfl (lv_at hl 5 rfl) ?_
    refine K_M_thrown hc hw lk_2085 hft ⟨Nat.le_of_ble_eq_true rfl, Nat.le_of_ble_eq_true rfl⟩ ⟨by show cells + 2 ≤ 601024; omega, by show slots + 12 ≤ 7293034; omega⟩ hl.1 (Nat.le_of_ble_eq_true rfl) (dq tk_LW_8 40 rfl) (fun H locs hw _ => ?_)
    refine lv_iload hx hb (dq tk_LW_8 41 rfl) (lv_at hl 1 rfl) ?_
    refine lv_icmp_eq (tgt := 917) hx hb (dq tk_LW_8 42 rfl) (by decide) (fun _ => ?_) (fun g => absurd rfl g)
    refine lv_iload hx hb (dq tk_LW_8 45 rfl) (lv_at hl 1 rfl) ?_
    refine lv_if_ne (tgt := 934) hx hb (dq tk_LW_8 46 rfl) (by decide) (fun _ => ?_) (fun g => absurd g (by decide))
    refine lv_goto (tgt := 2404) hx hb (dq tk_LW_8 56 rfl) (by decide) ?_
    refine W.widen (k := cells + 3) (n := slots + 18) (by omega) (by omega) ?_
    exact kk _ _ _ _ _ hI' hw (lv_sub hl [2, 3, 4, 5, 6] rfl)
  | some r =>
    replace hft : fM_thrown N μ' = some 0 := hft
    obtain rfl : r = b0 := hq r rfl
    refine lv_aload_n hx hb (dq tk_LW_8 12 rfl) rfl (lv_at hl 2 rfl) ?_
    refine lv_aload_n hx hb (dq tk_LW_8 13 rfl) rfl (lv_at hl 1 rfl) ?_
    refine lv_iload hx hb (dq tk_LW_8 14 rfl) (lv_at hl 0 rfl) ?_
    refine lv_iconst (v := 1) hx hb (dq tk_LW_8 15 rfl) (by decide) ?_
    refine lv_iadd hx hb (dq tk_LW_8 16 rfl) ?_
    refine l_sld hc hw hX hbl hbZ (k := 6 * k + 1) (a := a1) (nI_add (6 * k) 1) (by omega) hL ha1 (dq tk_LW_8 17 rfl) ?_
    refine lv_aload_n hx hb (dq tk_LW_8 18 rfl) rfl (lv_at hl 1 rfl) ?_
    refine lv_iload hx hb (dq tk_LW_8 19 rfl) (lv_at hl 0 rfl) ?_
    refine lv_iconst (v := 2) hx hb (dq tk_LW_8 20 rfl) (by decide) ?_
    refine lv_iadd hx hb (dq tk_LW_8 21 rfl) ?_
    refine l_sld hc hw hX hbl hbZ (k := 6 * k + 2) (a := a2) (nI_add (6 * k) 2) (by omega) hL ha2 (dq tk_LW_8 22 rfl) ?_
    refine lv_aload_n hx hb (dq tk_LW_8 23 rfl) rfl (lv_at hl 4 rfl) ?_
    refine KL_told_s hst hc hw lk_1372 hfx ⟨Nat.le_of_ble_eq_true rfl, Nat.le_of_ble_eq_true rfl⟩ ⟨by show cells + 2 ≤ 601024; omega, by show slots + 12 ≤ 7293034; omega⟩ hl.1 (Nat.le_of_ble_eq_true rfl) (dq tk_LW_8 24 rfl) (fun H locs hw => ?_)
    refine lv_istore (lv' := [(5, .int 0), (4, .int (nI (6 * k))), (0, .ref b), (1, .ref (Z.1 + 0)), (2, .ref (Z.1 + 566)), (3, .ref (Z.1 + 674))]) hx hb (dq tk_LW_8 25 rfl) hl (by decide) rfl (fun ls hl => ?_)
    refine lv_aload_n hx hb (dq tk_LW_8 26 rfl) rfl (lv_at hl 4 rfl) ?_
    refine lv_aload_n hx hb (dq tk_LW_8 27 rfl) rfl (lv_at hl 2 rfl) ?_
    refine lv_iload hx hb (dq tk_LW_8 28 rfl) (lv_at hl 1 rfl) ?_
    refine lv_iconst (v := 1) hx hb (dq tk_LW_8 29 rfl) (by decide) ?_
    refine lv_iadd hx hb (dq tk_LW_8 30 rfl) ?_
    refine l_sld hc hw hX hbl hbZ (k := 6 * k + 1) (a := a1) (nI_add (6 * k) 1) (by omega) hL ha1 (dq tk_LW_8 31 rfl) ?_
    refine lv_aload_n hx hb (dq tk_LW_8 32 rfl) rfl (lv_at hl 2 rfl) ?_
    refine lv_iload hx hb (dq tk_LW_8 33 rfl) (lv_at hl 1 rfl) ?_
    refine lv_iconst (v := 2) hx hb (dq tk_LW_8 34 rfl) (by decide) ?_
    refine lv_iadd hx hb (dq tk_LW_8 35 rfl) ?_
    refine l_sld hc hw hX hbl hbZ (k := 6 * k + 2) (a := a2) (nI_add (6 * k) 2) (by omega) hL ha2 (dq tk_LW_8 36 rfl) ?_
    refine K_M_told hc hw lk_2260 hfm ⟨Nat.le_of_ble_eq_true rfl, Nat.le_of_ble_eq_true rfl⟩ ⟨by show cells + 2 ≤ 601024; omega, by show slots + 12 ≤ 7293034; omega⟩ hl.1 (Nat.le_of_ble_eq_true rfl) (dq tk_LW_8 37 rfl) (fun H locs hw _ => ?_)
    refine lv_istore (lv' := [(6, .int r), (5, .int 0), (4, .int (nI (6 * k))), (0, .ref b), (1, .ref (Z.1 + 0)), (2, .ref (Z.1 + 566)), (3, .ref (Z.1 + 674))]) hx hb (dq tk_LW_8 38 rfl) hl (by decide) rfl (fun ls hl => ?_)
    refine lv_aload_n hx hb (dq tk_LW_8 39 rfl) rfl (lv_at hl 5 rfl) ?_
    refine K_M_thrown hc hw lk_2085 hft ⟨Nat.le_of_ble_eq_true rfl, Nat.le_of_ble_eq_true rfl⟩ ⟨by show cells + 2 ≤ 601024; omega, by show slots + 12 ≤ 7293034; omega⟩ hl.1 (Nat.le_of_ble_eq_true rfl) (dq tk_LW_8 40 rfl) (fun H locs hw _ => ?_)
    refine lv_iload hx hb (dq tk_LW_8 41 rfl) (lv_at hl 1 rfl) ?_
    refine lv_icmp_eq (tgt := 917) hx hb (dq tk_LW_8 42 rfl) (by decide) (fun _ => ?_) (fun g => absurd rfl g)
    refine lv_iload hx hb (dq tk_LW_8 45 rfl) (lv_at hl 1 rfl) ?_
    refine lv_if_ne (tgt := 934) hx hb (dq tk_LW_8 46 rfl) (by decide) (fun g => absurd rfl g) (fun _ => ?_)
    refine lv_aload_n hx hb (dq tk_LW_8 47 rfl) rfl (lv_at hl 6 rfl) ?_
    refine lv_iconst (v := 0) hx hb (dq tk_LW_8 48 rfl) (by decide) ?_
    refine l_lald hc hw (v := r.toInt64) sJ_at (dq tk_LW_8 49 rfl) ?_
    refine lv_iload hx hb (dq tk_LW_8 50 rfl) (lv_at hl 0 rfl) ?_
    refine lv_i2l hx hb (dq tk_LW_8 51 rfl) rfl ?_
    refine W.lcmp hx hb (dq tk_LW_8 52 rfl) ?_
    refine tst (congrArg Value.int lg_cmp_self) ?_
    refine lv_if_eq (tgt := 934) hx hb (dq tk_LW_8 53 rfl) (by decide) (fun _ => ?_) (fun g => absurd rfl g)
    refine lv_goto (tgt := 2404) hx hb (dq tk_LW_8 56 rfl) (by decide) ?_
    refine W.widen (k := cells + 3) (n := slots + 18) (by omega) (by omega) ?_
    exact kk _ _ _ _ _ (hLO.1 _ _ _ hI') hw (lv_sub hl [2, 3, 4, 5, 6] rfl)
set_option maxRecDepth 10000 in
theorem w_law_11 {N b L k : Nat} {xs : Nat → Int32} {Inv : St → St → Prop} (hLO : LawOk N Inv) (hst : l.stackTraces = false) (hc : Cxz p s m meth c #[Value.ref b] code "LabourExchangeLaw" 8 Z) (hX : va_X b L xs s s.heap) (hbl : b < s.heap.size) (hbZ : b < Z.1) (hL : L ≤ 3072) (hk : 6 * k + 6 ≤ L) (hI : Inv σ μ) (hcl0 : cells + 3 ≤ 601024 ∧ slots + 18 ≤ 7293034) {ls : Array Slot} (hw : Wd Z (cmb σ μ) s H locs) (hl : lv_has ls 8 [(4, .int (nI (6 * k))), (0, .ref b), (1, .ref (Z.1 + 0)), (2, .ref (Z.1 + 566)), (3, .ref (Z.1 + 674))])
    (kk : ∀ (σ1 μ1 : St) (H1 : Heap) (locs1 : List Loc) (ls1 : Array Slot), Inv σ1 μ1 → Wd Z (cmb σ1 μ1) s H1 locs1 → lv_has ls1 8 [(4, .int (nI (6 * k))), (0, .ref b), (1, .ref (Z.1 + 0)), (2, .ref (Z.1 + 566)), (3, .ref (Z.1 + 674))] → W p l e room_1 s m #[Value.ref b] below meth c H1 locs1 (cells + 3) (slots + 18) Q (F0 m 2404 ls1 [])) : W p l e room_1 s m #[Value.ref b] below meth c H locs cells slots Q (F0 m 937 ls []) := by
  have hx := hc.hx
  have hb := hc.hb
  obtain ⟨h1, h2⟩ := hcl0
  obtain ⟨a1, ha1⟩ : ∃ a, xs (6 * k + 1) = a := ⟨_, rfl⟩
  obtain ⟨q, σ', b0, μ', hfx, hfm, hft, hq, hI'⟩ := (hLO.2.2.2.2.2.2.2.2.2.2.2.2.1 σ μ a1 hI)
  cases q with
  | none =>
    replace hft : fM_thrown N μ' = some 1 := hft
    refine lv_aload_n hx hb (dq tk_LW_8 57 rfl) rfl (lv_at hl 2 rfl) ?_
    refine lv_aload_n hx hb (dq tk_LW_8 58 rfl) rfl (lv_at hl 1 rfl) ?_
    refine lv_iload hx hb (dq tk_LW_8 59 rfl) (lv_at hl 0 rfl) ?_
    refine lv_iconst (v := 1) hx hb (dq tk_LW_9 0 rfl) (by decide) ?_
    refine lv_iadd hx hb (dq tk_LW_9 1 rfl) ?_
    refine l_sld hc hw hX hbl hbZ (k := 6 * k + 1) (a := a1) (nI_add (6 * k) 1) (by omega) hL ha1 (dq tk_LW_9 2 rfl) ?_
    refine lv_aload_n hx hb (dq tk_LW_9 3 rfl) rfl (lv_at hl 4 rfl) ?_
    refine KL_days_n hst hc hw lk_1392 hfx ⟨Nat.le_of_ble_eq_true rfl, Nat.le_of_ble_eq_true rfl⟩ ⟨by show cells + 1 ≤ 601024; omega, by show slots + 6 ≤ 7293034; omega⟩ hl.1 (Nat.le_of_ble_eq_true rfl) (dq tk_LW_9 4 rfl) (fun H locs hw => ?_)
    refine lv_istore (lv' := [(5, .int 1), (4, .int (nI (6 * k))), (0, .ref b), (1, .ref (Z.1 + 0)), (2, .ref (Z.1 + 566)), (3, .ref (Z.1 + 674))]) hx hb (dq tk_LW_9 5 rfl) hl (by decide) rfl (fun ls hl => ?_)
    refine lv_aload_n hx hb (dq tk_LW_9 6 rfl) rfl (lv_at hl 4 rfl) ?_
    refine lv_aload_n hx hb (dq tk_LW_9 7 rfl) rfl (lv_at hl 2 rfl) ?_
    refine lv_iload hx hb (dq tk_LW_9 8 rfl) (lv_at hl 1 rfl) ?_
    refine lv_iconst (v := 1) hx hb (dq tk_LW_9 9 rfl) (by decide) ?_
    refine lv_iadd hx hb (dq tk_LW_9 10 rfl) ?_
    refine l_sld hc hw hX hbl hbZ (k := 6 * k + 1) (a := a1) (nI_add (6 * k) 1) (by omega) hL ha1 (dq tk_LW_9 11 rfl) ?_
    refine K_M_days hc hw lk_2384 hfm ⟨Nat.le_of_ble_eq_true rfl, Nat.le_of_ble_eq_true rfl⟩ ⟨by show cells + 1 ≤ 601024; omega, by show slots + 6 ≤ 7293034; omega⟩ hl.1 (Nat.le_of_ble_eq_true rfl) (dq tk_LW_9 12 rfl) (fun H locs hw _ => ?_)
    refine lv_istore (lv' := [(6, .int b0), (5, .int 1), (4, .int (nI (6 * k))), (0, .ref b), (1, .ref (Z.1 + 0)), (2, .ref (Z.1 + 566)), (3, .ref (Z.1 + 674))]) hx hb (dq tk_LW_9 13 rfl) hl (by decide) rfl (fun ls hl => ?_)
    refine lv_aload_n hx hb (dq tk_LW_9 14 rfl) rfl (lv_at hl 5 rfl) ?_
    refine K_M_thrown hc hw lk_2085 hft ⟨Nat.le_of_ble_eq_true rfl, Nat.le_of_ble_eq_true rfl⟩ ⟨by show cells + 1 ≤ 601024; omega, by show slots + 6 ≤ 7293034; omega⟩ hl.1 (Nat.le_of_ble_eq_true rfl) (dq tk_LW_9 15 rfl) (fun H locs hw _ => ?_)
    refine lv_iload hx hb (dq tk_LW_9 16 rfl) (lv_at hl 1 rfl) ?_
    refine lv_icmp_eq (tgt := 973) hx hb (dq tk_LW_9 17 rfl) (by decide) (fun _ => ?_) (fun g => absurd rfl g)
    refine lv_iload hx hb (dq tk_LW_9 20 rfl) (lv_at hl 1 rfl) ?_
    refine lv_if_ne (tgt := 990) hx hb (dq tk_LW_9 21 rfl) (by decide) (fun _ => ?_) (fun g => absurd g (by decide))
    refine lv_goto (tgt := 2404) hx hb (dq tk_LW_9 31 rfl) (by decide) ?_
    refine W.widen (k := cells + 3) (n := slots + 18) (by omega) (by omega) ?_
    exact kk _ _ _ _ _ hI' hw (lv_sub hl [2, 3, 4, 5, 6] rfl)
  | some r =>
    replace hft : fM_thrown N μ' = some 0 := hft
    obtain rfl : r = b0 := hq r rfl
    refine lv_aload_n hx hb (dq tk_LW_8 57 rfl) rfl (lv_at hl 2 rfl) ?_
    refine lv_aload_n hx hb (dq tk_LW_8 58 rfl) rfl (lv_at hl 1 rfl) ?_
    refine lv_iload hx hb (dq tk_LW_8 59 rfl) (lv_at hl 0 rfl) ?_
    refine lv_iconst (v := 1) hx hb (dq tk_LW_9 0 rfl) (by decide) ?_
    refine lv_iadd hx hb (dq tk_LW_9 1 rfl) ?_
    refine l_sld hc hw hX hbl hbZ (k := 6 * k + 1) (a := a1) (nI_add (6 * k) 1) (by omega) hL ha1 (dq tk_LW_9 2 rfl) ?_
    refine lv_aload_n hx hb (dq tk_LW_9 3 rfl) rfl (lv_at hl 4 rfl) ?_
    refine KL_days_s hst hc hw lk_1392 hfx ⟨Nat.le_of_ble_eq_true rfl, Nat.le_of_ble_eq_true rfl⟩ ⟨by show cells + 1 ≤ 601024; omega, by show slots + 6 ≤ 7293034; omega⟩ hl.1 (Nat.le_of_ble_eq_true rfl) (dq tk_LW_9 4 rfl) (fun H locs hw => ?_)
    refine lv_istore (lv' := [(5, .int 0), (4, .int (nI (6 * k))), (0, .ref b), (1, .ref (Z.1 + 0)), (2, .ref (Z.1 + 566)), (3, .ref (Z.1 + 674))]) hx hb (dq tk_LW_9 5 rfl) hl (by decide) rfl (fun ls hl => ?_)
    refine lv_aload_n hx hb (dq tk_LW_9 6 rfl) rfl (lv_at hl 4 rfl) ?_
    refine lv_aload_n hx hb (dq tk_LW_9 7 rfl) rfl (lv_at hl 2 rfl) ?_
    refine lv_iload hx hb (dq tk_LW_9 8 rfl) (lv_at hl 1 rfl) ?_
    refine lv_iconst (v := 1) hx hb (dq tk_LW_9 9 rfl) (by decide) ?_
    refine lv_iadd hx hb (dq tk_LW_9 10 rfl) ?_
    refine l_sld hc hw hX hbl hbZ (k := 6 * k + 1) (a := a1) (nI_add (6 * k) 1) (by omega) hL ha1 (dq tk_LW_9 11 rfl) ?_
    refine K_M_days hc hw lk_2384 hfm ⟨Nat.le_of_ble_eq_true rfl, Nat.le_of_ble_eq_true rfl⟩ ⟨by show cells + 1 ≤ 601024; omega, by show slots + 6 ≤ 7293034; omega⟩ hl.1 (Nat.le_of_ble_eq_true rfl) (dq tk_LW_9 12 rfl) (fun H locs hw _ => ?_)
    refine lv_istore (lv' := [(6, .int r), (5, .int 0), (4, .int (nI (6 * k))), (0, .ref b), (1, .ref (Z.1 + 0)), (2, .ref (Z.1 + 566)), (3, .ref (Z.1 + 674))]) hx hb (dq tk_LW_9 13 rfl) hl (by decide) rfl (fun ls hl => ?_)
    refine lv_aload_n hx hb (dq tk_LW_9 14 rfl) rfl (lv_at hl 5 rfl) ?_
    refine K_M_thrown hc hw lk_2085 hft ⟨Nat.le_of_ble_eq_true rfl, Nat.le_of_ble_eq_true rfl⟩ ⟨by show cells + 1 ≤ 601024; omega, by show slots + 6 ≤ 7293034; omega⟩ hl.1 (Nat.le_of_ble_eq_true rfl) (dq tk_LW_9 15 rfl) (fun H locs hw _ => ?_)
    refine lv_iload hx hb (dq tk_LW_9 16 rfl) (lv_at hl 1 rfl) ?_
    refine lv_icmp_eq (tgt := 973) hx hb (dq tk_LW_9 17 rfl) (by decide) (fun _ => ?_) (fun g => absurd rfl g)
    refine lv_iload hx hb (dq tk_LW_9 20 rfl) (lv_at hl 1 rfl) ?_
    refine lv_if_ne (tgt := 990) hx hb (dq tk_LW_9 21 rfl) (by decide) (fun g => absurd rfl g) (fun _ => ?_)
    refine lv_aload_n hx hb (dq tk_LW_9 22 rfl) rfl (lv_at hl 6 rfl) ?_
    refine lv_iconst (v := 0) hx hb (dq tk_LW_9 23 rfl) (by decide) ?_
    refine l_lald hc hw (v := r.toInt64) sJ_at (dq tk_LW_9 24 rfl) ?_
    refine lv_iload hx hb (dq tk_LW_9 25 rfl) (lv_at hl 0 rfl) ?_
    refine lv_i2l hx hb (dq tk_LW_9 26 rfl) rfl ?_
    refine W.lcmp hx hb (dq tk_LW_9 27 rfl) ?_
    refine tst (congrArg Value.int lg_cmp_self) ?_
    refine lv_if_eq (tgt := 990) hx hb (dq tk_LW_9 28 rfl) (by decide) (fun _ => ?_) (fun g => absurd rfl g)
    refine lv_goto (tgt := 2404) hx hb (dq tk_LW_9 31 rfl) (by decide) ?_
    refine W.widen (k := cells + 3) (n := slots + 18) (by omega) (by omega) ?_
    exact kk _ _ _ _ _ (hLO.1 _ _ _ hI') hw (lv_sub hl [2, 3, 4, 5, 6] rfl)
set_option maxRecDepth 10000 in
theorem w_law_12 {N b L k : Nat} {xs : Nat → Int32} {Inv : St → St → Prop} (hLO : LawOk N Inv) (hst : l.stackTraces = false) (hc : Cxz p s m meth c #[Value.ref b] code "LabourExchangeLaw" 8 Z) (hX : va_X b L xs s s.heap) (hbl : b < s.heap.size) (hbZ : b < Z.1) (hL : L ≤ 3072) (hk : 6 * k + 6 ≤ L) (hI : Inv σ μ) (hcl0 : cells + 3 ≤ 601024 ∧ slots + 18 ≤ 7293034) {ls : Array Slot} (hw : Wd Z (cmb σ μ) s H locs) (hl : lv_has ls 8 [(4, .int (nI (6 * k))), (0, .ref b), (1, .ref (Z.1 + 0)), (2, .ref (Z.1 + 566)), (3, .ref (Z.1 + 674))])
    (kk : ∀ (σ1 μ1 : St) (H1 : Heap) (locs1 : List Loc) (ls1 : Array Slot), Inv σ1 μ1 → Wd Z (cmb σ1 μ1) s H1 locs1 → lv_has ls1 8 [(4, .int (nI (6 * k))), (0, .ref b), (1, .ref (Z.1 + 0)), (2, .ref (Z.1 + 566)), (3, .ref (Z.1 + 674))] → W p l e room_1 s m #[Value.ref b] below meth c H1 locs1 (cells + 3) (slots + 18) Q (F0 m 2404 ls1 [])) : W p l e room_1 s m #[Value.ref b] below meth c H locs cells slots Q (F0 m 993 ls []) := by
  have hx := hc.hx
  have hb := hc.hb
  obtain ⟨h1, h2⟩ := hcl0
  obtain ⟨a1, ha1⟩ : ∃ a, xs (6 * k + 1) = a := ⟨_, rfl⟩
  obtain ⟨q, σ', b0, μ', hfx, hfm, hft, hq, hI'⟩ := (hLO.2.2.2.2.2.2.2.2.2.2.2.2.2.1 σ μ a1 hI)
  cases q with
  | none =>
    replace hft : fM_thrown N μ' = some 1 := hft
    refine lv_aload_n hx hb (dq tk_LW_9 32 rfl) rfl (lv_at hl 2 rfl) ?_
    refine lv_aload_n hx hb (dq tk_LW_9 33 rfl) rfl (lv_at hl 1 rfl) ?_
    refine lv_iload hx hb (dq tk_LW_9 34 rfl) (lv_at hl 0 rfl) ?_
    refine lv_iconst (v := 1) hx hb (dq tk_LW_9 35 rfl) (by decide) ?_
    refine lv_iadd hx hb (dq tk_LW_9 36 rfl) ?_
    refine l_sld hc hw hX hbl hbZ (k := 6 * k + 1) (a := a1) (nI_add (6 * k) 1) (by omega) hL ha1 (dq tk_LW_9 37 rfl) ?_
    refine lv_aload_n hx hb (dq tk_LW_9 38 rfl) rfl (lv_at hl 4 rfl) ?_
    refine KL_look_n hst hc hw lk_1420 hfx ⟨Nat.le_of_ble_eq_true rfl, Nat.le_of_ble_eq_true rfl⟩ ⟨by show cells + 1 ≤ 601024; omega, by show slots + 6 ≤ 7293034; omega⟩ hl.1 (Nat.le_of_ble_eq_true rfl) (dq tk_LW_9 39 rfl) (fun H locs hw => ?_)
    refine lv_istore (lv' := [(5, .int 1), (4, .int (nI (6 * k))), (0, .ref b), (1, .ref (Z.1 + 0)), (2, .ref (Z.1 + 566)), (3, .ref (Z.1 + 674))]) hx hb (dq tk_LW_9 40 rfl) hl (by decide) rfl (fun ls hl => ?_)
    refine lv_aload_n hx hb (dq tk_LW_9 41 rfl) rfl (lv_at hl 4 rfl) ?_
    refine lv_aload_n hx hb (dq tk_LW_9 42 rfl) rfl (lv_at hl 2 rfl) ?_
    refine lv_iload hx hb (dq tk_LW_9 43 rfl) (lv_at hl 1 rfl) ?_
    refine lv_iconst (v := 1) hx hb (dq tk_LW_9 44 rfl) (by decide) ?_
    refine lv_iadd hx hb (dq tk_LW_9 45 rfl) ?_
    refine l_sld hc hw hX hbl hbZ (k := 6 * k + 1) (a := a1) (nI_add (6 * k) 1) (by omega) hL ha1 (dq tk_LW_9 46 rfl) ?_
    refine K_M_look hc hw lk_2396 hfm ⟨Nat.le_of_ble_eq_true rfl, Nat.le_of_ble_eq_true rfl⟩ ⟨by show cells + 1 ≤ 601024; omega, by show slots + 6 ≤ 7293034; omega⟩ hl.1 (Nat.le_of_ble_eq_true rfl) (dq tk_LW_9 47 rfl) (fun H locs hw _ => ?_)
    refine lv_istore (lv' := [(6, .int b0), (5, .int 1), (4, .int (nI (6 * k))), (0, .ref b), (1, .ref (Z.1 + 0)), (2, .ref (Z.1 + 566)), (3, .ref (Z.1 + 674))]) hx hb (dq tk_LW_9 48 rfl) hl (by decide) rfl (fun ls hl => ?_)
    refine lv_aload_n hx hb (dq tk_LW_9 49 rfl) rfl (lv_at hl 5 rfl) ?_
    refine K_M_thrown hc hw lk_2085 hft ⟨Nat.le_of_ble_eq_true rfl, Nat.le_of_ble_eq_true rfl⟩ ⟨by show cells + 1 ≤ 601024; omega, by show slots + 6 ≤ 7293034; omega⟩ hl.1 (Nat.le_of_ble_eq_true rfl) (dq tk_LW_9 50 rfl) (fun H locs hw _ => ?_)
    refine lv_iload hx hb (dq tk_LW_9 51 rfl) (lv_at hl 1 rfl) ?_
    refine lv_icmp_eq (tgt := 1029) hx hb (dq tk_LW_9 52 rfl) (by decide) (fun _ => ?_) (fun g => absurd rfl g)
    refine lv_iload hx hb (dq tk_LW_9 55 rfl) (lv_at hl 1 rfl) ?_
    refine lv_if_ne (tgt := 1046) hx hb (dq tk_LW_9 56 rfl) (by decide) (fun _ => ?_) (fun g => absurd g (by decide))
    refine lv_goto (tgt := 2404) hx hb (dq tk_LW_10 6 rfl) (by decide) ?_
    refine W.widen (k := cells + 3) (n := slots + 18) (by omega) (by omega) ?_
    exact kk _ _ _ _ _ hI' hw (lv_sub hl [2, 3, 4, 5, 6] rfl)
  | some r =>
    replace hft : fM_thrown N μ' = some 0 := hft
    obtain rfl : r = b0 := hq r rfl
    refine lv_aload_n hx hb (dq tk_LW_9 32 rfl) rfl (lv_at hl 2 rfl) ?_
    refine lv_aload_n hx hb (dq tk_LW_9 33 rfl) rfl (lv_at hl 1 rfl) ?_
    refine lv_iload hx hb (dq tk_LW_9 34 rfl) (lv_at hl 0 rfl) ?_
    refine lv_iconst (v := 1) hx hb (dq tk_LW_9 35 rfl) (by decide) ?_
    refine lv_iadd hx hb (dq tk_LW_9 36 rfl) ?_
    refine l_sld hc hw hX hbl hbZ (k := 6 * k + 1) (a := a1) (nI_add (6 * k) 1) (by omega) hL ha1 (dq tk_LW_9 37 rfl) ?_
    refine lv_aload_n hx hb (dq tk_LW_9 38 rfl) rfl (lv_at hl 4 rfl) ?_
    refine KL_look_s hst hc hw lk_1420 hfx ⟨Nat.le_of_ble_eq_true rfl, Nat.le_of_ble_eq_true rfl⟩ ⟨by show cells + 1 ≤ 601024; omega, by show slots + 6 ≤ 7293034; omega⟩ hl.1 (Nat.le_of_ble_eq_true rfl) (dq tk_LW_9 39 rfl) (fun H locs hw => ?_)
    refine lv_istore (lv' := [(5, .int 0), (4, .int (nI (6 * k))), (0, .ref b), (1, .ref (Z.1 + 0)), (2, .ref (Z.1 + 566)), (3, .ref (Z.1 + 674))]) hx hb (dq tk_LW_9 40 rfl) hl (by decide) rfl (fun ls hl => ?_)
    refine lv_aload_n hx hb (dq tk_LW_9 41 rfl) rfl (lv_at hl 4 rfl) ?_
    refine lv_aload_n hx hb (dq tk_LW_9 42 rfl) rfl (lv_at hl 2 rfl) ?_
    refine lv_iload hx hb (dq tk_LW_9 43 rfl) (lv_at hl 1 rfl) ?_
    refine lv_iconst (v := 1) hx hb (dq tk_LW_9 44 rfl) (by decide) ?_
    refine lv_iadd hx hb (dq tk_LW_9 45 rfl) ?_
    refine l_sld hc hw hX hbl hbZ (k := 6 * k + 1) (a := a1) (nI_add (6 * k) 1) (by omega) hL ha1 (dq tk_LW_9 46 rfl) ?_
    refine K_M_look hc hw lk_2396 hfm ⟨Nat.le_of_ble_eq_true rfl, Nat.le_of_ble_eq_true rfl⟩ ⟨by show cells + 1 ≤ 601024; omega, by show slots + 6 ≤ 7293034; omega⟩ hl.1 (Nat.le_of_ble_eq_true rfl) (dq tk_LW_9 47 rfl) (fun H locs hw _ => ?_)
    refine lv_istore (lv' := [(6, .int r), (5, .int 0), (4, .int (nI (6 * k))), (0, .ref b), (1, .ref (Z.1 + 0)), (2, .ref (Z.1 + 566)), (3, .ref (Z.1 + 674))]) hx hb (dq tk_LW_9 48 rfl) hl (by decide) rfl (fun ls hl => ?_)
    refine lv_aload_n hx hb (dq tk_LW_9 49 rfl) rfl (lv_at hl 5 rfl) ?_
    refine K_M_thrown hc hw lk_2085 hft ⟨Nat.le_of_ble_eq_true rfl, Nat.le_of_ble_eq_true rfl⟩ ⟨by show cells + 1 ≤ 601024; omega, by show slots + 6 ≤ 7293034; omega⟩ hl.1 (Nat.le_of_ble_eq_true rfl) (dq tk_LW_9 50 rfl) (fun H locs hw _ => ?_)
    refine lv_iload hx hb (dq tk_LW_9 51 rfl) (lv_at hl 1 rfl) ?_
    refine lv_icmp_eq (tgt := 1029) hx hb (dq tk_LW_9 52 rfl) (by decide) (fun _ => ?_) (fun g => absurd rfl g)
    refine lv_iload hx hb (dq tk_LW_9 55 rfl) (lv_at hl 1 rfl) ?_
    refine lv_if_ne (tgt := 1046) hx hb (dq tk_LW_9 56 rfl) (by decide) (fun g => absurd rfl g) (fun _ => ?_)
    refine lv_aload_n hx hb (dq tk_LW_9 57 rfl) rfl (lv_at hl 6 rfl) ?_
    refine lv_iconst (v := 0) hx hb (dq tk_LW_9 58 rfl) (by decide) ?_
    refine l_lald hc hw (v := r.toInt64) sJ_at (dq tk_LW_9 59 rfl) ?_
    refine lv_iload hx hb (dq tk_LW_10 0 rfl) (lv_at hl 0 rfl) ?_
    refine lv_i2l hx hb (dq tk_LW_10 1 rfl) rfl ?_
    refine W.lcmp hx hb (dq tk_LW_10 2 rfl) ?_
    refine tst (congrArg Value.int lg_cmp_self) ?_
    refine lv_if_eq (tgt := 1046) hx hb (dq tk_LW_10 3 rfl) (by decide) (fun _ => ?_) (fun g => absurd rfl g)
    refine lv_goto (tgt := 2404) hx hb (dq tk_LW_10 6 rfl) (by decide) ?_
    refine W.widen (k := cells + 3) (n := slots + 18) (by omega) (by omega) ?_
    exact kk _ _ _ _ _ (hLO.1 _ _ _ hI') hw (lv_sub hl [2, 3, 4, 5, 6] rfl)
set_option maxRecDepth 10000 in
theorem w_law_13 {N b L k : Nat} {xs : Nat → Int32} {Inv : St → St → Prop} (hLO : LawOk N Inv) (hst : l.stackTraces = false) (hc : Cxz p s m meth c #[Value.ref b] code "LabourExchangeLaw" 8 Z) (hX : va_X b L xs s s.heap) (hbl : b < s.heap.size) (hbZ : b < Z.1) (hL : L ≤ 3072) (hk : 6 * k + 6 ≤ L) (hI : Inv σ μ) (hcl0 : cells + 3 ≤ 601024 ∧ slots + 18 ≤ 7293034) {ls : Array Slot} (hw : Wd Z (cmb σ μ) s H locs) (hl : lv_has ls 8 [(4, .int (nI (6 * k))), (0, .ref b), (1, .ref (Z.1 + 0)), (2, .ref (Z.1 + 566)), (3, .ref (Z.1 + 674))])
    (kk : ∀ (σ1 μ1 : St) (H1 : Heap) (locs1 : List Loc) (ls1 : Array Slot), Inv σ1 μ1 → Wd Z (cmb σ1 μ1) s H1 locs1 → lv_has ls1 8 [(4, .int (nI (6 * k))), (0, .ref b), (1, .ref (Z.1 + 0)), (2, .ref (Z.1 + 566)), (3, .ref (Z.1 + 674))] → W p l e room_1 s m #[Value.ref b] below meth c H1 locs1 (cells + 3) (slots + 18) Q (F0 m 2404 ls1 [])) : W p l e room_1 s m #[Value.ref b] below meth c H locs cells slots Q (F0 m 1049 ls []) := by
  have hx := hc.hx
  have hb := hc.hb
  obtain ⟨h1, h2⟩ := hcl0
  obtain ⟨a1, ha1⟩ : ∃ a, xs (6 * k + 1) = a := ⟨_, rfl⟩
  obtain ⟨a2, ha2⟩ : ∃ a, xs (6 * k + 2) = a := ⟨_, rfl⟩
  obtain ⟨a3, ha3⟩ : ∃ a, xs (6 * k + 3) = a := ⟨_, rfl⟩
  obtain ⟨q, σ', b0, μ', hfx, hfm, hft, hq, hI'⟩ := (hLO.2.2.2.2.2.2.2.2.2.2.2.2.2.2.1 σ μ a1 a2 a3 hI)
  cases q with
  | none =>
    replace hft : fM_thrown N μ' = some 1 := hft
    refine lv_aload_n hx hb (dq tk_LW_10 7 rfl) rfl (lv_at hl 2 rfl) ?_
    refine lv_aload_n hx hb (dq tk_LW_10 8 rfl) rfl (lv_at hl 1 rfl) ?_
    refine lv_iload hx hb (dq tk_LW_10 9 rfl) (lv_at hl 0 rfl) ?_
    refine lv_iconst (v := 1) hx hb (dq tk_LW_10 10 rfl) (by decide) ?_
    refine lv_iadd hx hb (dq tk_LW_10 11 rfl) ?_
    refine l_sld hc hw hX hbl hbZ (k := 6 * k + 1) (a := a1) (nI_add (6 * k) 1) (by omega) hL ha1 (dq tk_LW_10 12 rfl) ?_
    refine lv_aload_n hx hb (dq tk_LW_10 13 rfl) rfl (lv_at hl 1 rfl) ?_
    refine lv_iload hx hb (dq tk_LW_10 14 rfl) (lv_at hl 0 rfl) ?_
    refine lv_iconst (v := 2) hx hb (dq tk_LW_10 15 rfl) (by decide) ?_
    refine lv_iadd hx hb (dq tk_LW_10 16 rfl) ?_
    refine l_sld hc hw hX hbl hbZ (k := 6 * k + 2) (a := a2) (nI_add (6 * k) 2) (by omega) hL ha2 (dq tk_LW_10 17 rfl) ?_
    refine lv_aload_n hx hb (dq tk_LW_10 18 rfl) rfl (lv_at hl 1 rfl) ?_
    refine lv_iload hx hb (dq tk_LW_10 19 rfl) (lv_at hl 0 rfl) ?_
    refine lv_iconst (v := 3) hx hb (dq tk_LW_10 20 rfl) (by decide) ?_
    refine lv_iadd hx hb (dq tk_LW_10 21 rfl) ?_
    refine l_sld hc hw hX hbl hbZ (k := 6 * k + 3) (a := a3) (nI_add (6 * k) 3) (by omega) hL ha3 (dq tk_LW_10 22 rfl) ?_
    refine lv_aload_n hx hb (dq tk_LW_10 23 rfl) rfl (lv_at hl 4 rfl) ?_
    refine KL_day_n hst hc hw lk_1427 hfx ⟨Nat.le_of_ble_eq_true rfl, Nat.le_of_ble_eq_true rfl⟩ ⟨by show cells + 2 ≤ 601024; omega, by show slots + 12 ≤ 7293034; omega⟩ hl.1 (Nat.le_of_ble_eq_true rfl) (dq tk_LW_10 24 rfl) (fun H locs hw => ?_)
    refine lv_istore (lv' := [(5, .int 1), (4, .int (nI (6 * k))), (0, .ref b), (1, .ref (Z.1 + 0)), (2, .ref (Z.1 + 566)), (3, .ref (Z.1 + 674))]) hx hb (dq tk_LW_10 25 rfl) hl (by decide) rfl (fun ls hl => ?_)
    refine lv_aload_n hx hb (dq tk_LW_10 26 rfl) rfl (lv_at hl 4 rfl) ?_
    refine lv_aload_n hx hb (dq tk_LW_10 27 rfl) rfl (lv_at hl 2 rfl) ?_
    refine lv_iload hx hb (dq tk_LW_10 28 rfl) (lv_at hl 1 rfl) ?_
    refine lv_iconst (v := 1) hx hb (dq tk_LW_10 29 rfl) (by decide) ?_
    refine lv_iadd hx hb (dq tk_LW_10 30 rfl) ?_
    refine l_sld hc hw hX hbl hbZ (k := 6 * k + 1) (a := a1) (nI_add (6 * k) 1) (by omega) hL ha1 (dq tk_LW_10 31 rfl) ?_
    refine lv_aload_n hx hb (dq tk_LW_10 32 rfl) rfl (lv_at hl 2 rfl) ?_
    refine lv_iload hx hb (dq tk_LW_10 33 rfl) (lv_at hl 1 rfl) ?_
    refine lv_iconst (v := 2) hx hb (dq tk_LW_10 34 rfl) (by decide) ?_
    refine lv_iadd hx hb (dq tk_LW_10 35 rfl) ?_
    refine l_sld hc hw hX hbl hbZ (k := 6 * k + 2) (a := a2) (nI_add (6 * k) 2) (by omega) hL ha2 (dq tk_LW_10 36 rfl) ?_
    refine lv_aload_n hx hb (dq tk_LW_10 37 rfl) rfl (lv_at hl 2 rfl) ?_
    refine lv_iload hx hb (dq tk_LW_10 38 rfl) (lv_at hl 1 rfl) ?_
    refine lv_iconst (v := 3) hx hb (dq tk_LW_10 39 rfl) (by decide) ?_
    refine lv_iadd hx hb (dq tk_LW_10 40 rfl) ?_
    refine l_sld hc hw hX hbl hbZ (k := 6 * k + 3) (a := a3) (nI_add (6 * k) 3) (by omega) hL ha3 (dq tk_LW_10 41 rfl) ?_
    refine K_M_day hc hw lk_2400 hfm ⟨Nat.le_of_ble_eq_true rfl, Nat.le_of_ble_eq_true rfl⟩ ⟨by show cells + 2 ≤ 601024; omega, by show slots + 12 ≤ 7293034; omega⟩ hl.1 (Nat.le_of_ble_eq_true rfl) (dq tk_LW_10 42 rfl) (fun H locs hw _ => ?_)
    refine lv_istore (lv' := [(6, .int b0), (5, .int 1), (4, .int (nI (6 * k))), (0, .ref b), (1, .ref (Z.1 + 0)), (2, .ref (Z.1 + 566)), (3, .ref (Z.1 + 674))]) hx hb (dq tk_LW_10 43 rfl) hl (by decide) rfl (fun ls hl => ?_)
    refine lv_aload_n hx hb (dq tk_LW_10 44 rfl) rfl (lv_at hl 5 rfl) ?_
    refine K_M_thrown hc hw lk_2085 hft ⟨Nat.le_of_ble_eq_true rfl, Nat.le_of_ble_eq_true rfl⟩ ⟨by show cells + 2 ≤ 601024; omega, by show slots + 12 ≤ 7293034; omega⟩ hl.1 (Nat.le_of_ble_eq_true rfl) (dq tk_LW_10 45 rfl) (fun H locs hw _ => ?_)
    refine lv_iload hx hb (dq tk_LW_10 46 rfl) (lv_at hl 1 rfl) ?_
    refine lv_icmp_eq (tgt := 1109) hx hb (dq tk_LW_10 47 rfl) (by decide) (fun _ => ?_) (fun g => absurd rfl g)
    refine lv_iload hx hb (dq tk_LW_10 50 rfl) (lv_at hl 1 rfl) ?_
    refine lv_if_ne (tgt := 1126) hx hb (dq tk_LW_10 51 rfl) (by decide) (fun _ => ?_) (fun g => absurd g (by decide))
    refine lv_goto (tgt := 2404) hx hb (dq tk_LW_11 1 rfl) (by decide) ?_
    refine W.widen (k := cells + 3) (n := slots + 18) (by omega) (by omega) ?_
    exact kk _ _ _ _ _ hI' hw (lv_sub hl [2, 3, 4, 5, 6] rfl)
  | some r =>
    replace hft : fM_thrown N μ' = some 0 := hft
    obtain rfl : r = b0 := hq r rfl
    refine lv_aload_n hx hb (dq tk_LW_10 7 rfl) rfl (lv_at hl 2 rfl) ?_
    refine lv_aload_n hx hb (dq tk_LW_10 8 rfl) rfl (lv_at hl 1 rfl) ?_
    refine lv_iload hx hb (dq tk_LW_10 9 rfl) (lv_at hl 0 rfl) ?_
    refine lv_iconst (v := 1) hx hb (dq tk_LW_10 10 rfl) (by decide) ?_
    refine lv_iadd hx hb (dq tk_LW_10 11 rfl) ?_
    refine l_sld hc hw hX hbl hbZ (k := 6 * k + 1) (a := a1) (nI_add (6 * k) 1) (by omega) hL ha1 (dq tk_LW_10 12 rfl) ?_
    refine lv_aload_n hx hb (dq tk_LW_10 13 rfl) rfl (lv_at hl 1 rfl) ?_
    refine lv_iload hx hb (dq tk_LW_10 14 rfl) (lv_at hl 0 rfl) ?_
    refine lv_iconst (v := 2) hx hb (dq tk_LW_10 15 rfl) (by decide) ?_
    refine lv_iadd hx hb (dq tk_LW_10 16 rfl) ?_
    refine l_sld hc hw hX hbl hbZ (k := 6 * k + 2) (a := a2) (nI_add (6 * k) 2) (by omega) hL ha2 (dq tk_LW_10 17 rfl) ?_
    refine lv_aload_n hx hb (dq tk_LW_10 18 rfl) rfl (lv_at hl 1 rfl) ?_
    refine lv_iload hx hb (dq tk_LW_10 19 rfl) (lv_at hl 0 rfl) ?_
    refine lv_iconst (v := 3) hx hb (dq tk_LW_10 20 rfl) (by decide) ?_
    refine lv_iadd hx hb (dq tk_LW_10 21 rfl) ?_
    refine l_sld hc hw hX hbl hbZ (k := 6 * k + 3) (a := a3) (nI_add (6 * k) 3) (by omega) hL ha3 (dq tk_LW_10 22 rfl) ?_
    refine lv_aload_n hx hb (dq tk_LW_10 23 rfl) rfl (lv_at hl 4 rfl) ?_
    refine KL_day_s hst hc hw lk_1427 hfx ⟨Nat.le_of_ble_eq_true rfl, Nat.le_of_ble_eq_true rfl⟩ ⟨by show cells + 2 ≤ 601024; omega, by show slots + 12 ≤ 7293034; omega⟩ hl.1 (Nat.le_of_ble_eq_true rfl) (dq tk_LW_10 24 rfl) (fun H locs hw => ?_)
    refine lv_istore (lv' := [(5, .int 0), (4, .int (nI (6 * k))), (0, .ref b), (1, .ref (Z.1 + 0)), (2, .ref (Z.1 + 566)), (3, .ref (Z.1 + 674))]) hx hb (dq tk_LW_10 25 rfl) hl (by decide) rfl (fun ls hl => ?_)
    refine lv_aload_n hx hb (dq tk_LW_10 26 rfl) rfl (lv_at hl 4 rfl) ?_
    refine lv_aload_n hx hb (dq tk_LW_10 27 rfl) rfl (lv_at hl 2 rfl) ?_
    refine lv_iload hx hb (dq tk_LW_10 28 rfl) (lv_at hl 1 rfl) ?_
    refine lv_iconst (v := 1) hx hb (dq tk_LW_10 29 rfl) (by decide) ?_
    refine lv_iadd hx hb (dq tk_LW_10 30 rfl) ?_
    refine l_sld hc hw hX hbl hbZ (k := 6 * k + 1) (a := a1) (nI_add (6 * k) 1) (by omega) hL ha1 (dq tk_LW_10 31 rfl) ?_
    refine lv_aload_n hx hb (dq tk_LW_10 32 rfl) rfl (lv_at hl 2 rfl) ?_
    refine lv_iload hx hb (dq tk_LW_10 33 rfl) (lv_at hl 1 rfl) ?_
    refine lv_iconst (v := 2) hx hb (dq tk_LW_10 34 rfl) (by decide) ?_
    refine lv_iadd hx hb (dq tk_LW_10 35 rfl) ?_
    refine l_sld hc hw hX hbl hbZ (k := 6 * k + 2) (a := a2) (nI_add (6 * k) 2) (by omega) hL ha2 (dq tk_LW_10 36 rfl) ?_
    refine lv_aload_n hx hb (dq tk_LW_10 37 rfl) rfl (lv_at hl 2 rfl) ?_
    refine lv_iload hx hb (dq tk_LW_10 38 rfl) (lv_at hl 1 rfl) ?_
    refine lv_iconst (v := 3) hx hb (dq tk_LW_10 39 rfl) (by decide) ?_
    refine lv_iadd hx hb (dq tk_LW_10 40 rfl) ?_
    refine l_sld hc hw hX hbl hbZ (k := 6 * k + 3) (a := a3) (nI_add (6 * k) 3) (by omega) hL ha3 (dq tk_LW_10 41 rfl) ?_
    refine K_M_day hc hw lk_2400 hfm ⟨Nat.le_of_ble_eq_true rfl, Nat.le_of_ble_eq_true rfl⟩ ⟨by show cells + 2 ≤ 601024; omega, by show slots + 12 ≤ 7293034; omega⟩ hl.1 (Nat.le_of_ble_eq_true rfl) (dq tk_LW_10 42 rfl) (fun H locs hw _ => ?_)
    refine lv_istore (lv' := [(6, .int r), (5, .int 0), (4, .int (nI (6 * k))), (0, .ref b), (1, .ref (Z.1 + 0)), (2, .ref (Z.1 + 566)), (3, .ref (Z.1 + 674))]) hx hb (dq tk_LW_10 43 rfl) hl (by decide) rfl (fun ls hl => ?_)
    refine lv_aload_n hx hb (dq tk_LW_10 44 rfl) rfl (lv_at hl 5 rfl) ?_
    refine K_M_thrown hc hw lk_2085 hft ⟨Nat.le_of_ble_eq_true rfl, Nat.le_of_ble_eq_true rfl⟩ ⟨by show cells + 2 ≤ 601024; omega, by show slots + 12 ≤ 7293034; omega⟩ hl.1 (Nat.le_of_ble_eq_true rfl) (dq tk_LW_10 45 rfl) (fun H locs hw _ => ?_)
    refine lv_iload hx hb (dq tk_LW_10 46 rfl) (lv_at hl 1 rfl) ?_
    refine lv_icmp_eq (tgt := 1109) hx hb (dq tk_LW_10 47 rfl) (by decide) (fun _ => ?_) (fun g => absurd rfl g)
    refine lv_iload hx hb (dq tk_LW_10 50 rfl) (lv_at hl 1 rfl) ?_
    refine lv_if_ne (tgt := 1126) hx hb (dq tk_LW_10 51 rfl) (by decide) (fun g => absurd rfl g) (fun _ => ?_)
    refine lv_aload_n hx hb (dq tk_LW_10 52 rfl) rfl (lv_at hl 6 rfl) ?_
    refine lv_iconst (v := 0) hx hb (dq tk_LW_10 53 rfl) (by decide) ?_
    refine l_lald hc hw (v := r.toInt64) sJ_at (dq tk_LW_10 54 rfl) ?_
    refine lv_iload hx hb (dq tk_LW_10 55 rfl) (lv_at hl 0 rfl) ?_
    refine lv_i2l hx hb (dq tk_LW_10 56 rfl) rfl ?_
    refine W.lcmp hx hb (dq tk_LW_10 57 rfl) ?_
    refine tst (congrArg Value.int lg_cmp_self) ?_
    refine lv_if_eq (tgt := 1126) hx hb (dq tk_LW_10 58 rfl) (by decide) (fun _ => ?_) (fun g => absurd rfl g)
    refine lv_goto (tgt := 2404) hx hb (dq tk_LW_11 1 rfl) (by decide) ?_
    refine W.widen (k := cells + 3) (n := slots + 18) (by omega) (by omega) ?_
    exact kk _ _ _ _ _ (hLO.1 _ _ _ hI') hw (lv_sub hl [2, 3, 4, 5, 6] rfl)
set_option maxRecDepth 10000 in
theorem w_law_14 {N b L k : Nat} {xs : Nat → Int32} {Inv : St → St → Prop} (hLO : LawOk N Inv) (hst : l.stackTraces = false) (hc : Cxz p s m meth c #[Value.ref b] code "LabourExchangeLaw" 8 Z) (hX : va_X b L xs s s.heap) (hbl : b < s.heap.size) (hbZ : b < Z.1) (hL : L ≤ 3072) (hk : 6 * k + 6 ≤ L) (hI : Inv σ μ) (hcl0 : cells + 3 ≤ 601024 ∧ slots + 18 ≤ 7293034) {ls : Array Slot} (hw : Wd Z (cmb σ μ) s H locs) (hl : lv_has ls 8 [(4, .int (nI (6 * k))), (0, .ref b), (1, .ref (Z.1 + 0)), (2, .ref (Z.1 + 566)), (3, .ref (Z.1 + 674))])
    (kk : ∀ (σ1 μ1 : St) (H1 : Heap) (locs1 : List Loc) (ls1 : Array Slot), Inv σ1 μ1 → Wd Z (cmb σ1 μ1) s H1 locs1 → lv_has ls1 8 [(4, .int (nI (6 * k))), (0, .ref b), (1, .ref (Z.1 + 0)), (2, .ref (Z.1 + 566)), (3, .ref (Z.1 + 674))] → W p l e room_1 s m #[Value.ref b] below meth c H1 locs1 (cells + 3) (slots + 18) Q (F0 m 2404 ls1 [])) : W p l e room_1 s m #[Value.ref b] below meth c H locs cells slots Q (F0 m 1129 ls []) := by
  have hx := hc.hx
  have hb := hc.hb
  obtain ⟨h1, h2⟩ := hcl0
  obtain ⟨a1, ha1⟩ : ∃ a, xs (6 * k + 1) = a := ⟨_, rfl⟩
  obtain ⟨a2, ha2⟩ : ∃ a, xs (6 * k + 2) = a := ⟨_, rfl⟩
  obtain ⟨a3, ha3⟩ : ∃ a, xs (6 * k + 3) = a := ⟨_, rfl⟩
  obtain ⟨q, σ', b0, μ', hfx, hfm, hft, hq, hI'⟩ := (hLO.2.2.2.2.2.2.2.2.2.2.2.2.2.2.2.1 σ μ a1 a2 a3 hI)
  cases q with
  | none =>
    replace hft : fM_thrown N μ' = some 1 := hft
    refine lv_aload_n hx hb (dq tk_LW_11 2 rfl) rfl (lv_at hl 2 rfl) ?_
    refine lv_aload_n hx hb (dq tk_LW_11 3 rfl) rfl (lv_at hl 1 rfl) ?_
    refine lv_iload hx hb (dq tk_LW_11 4 rfl) (lv_at hl 0 rfl) ?_
    refine lv_iconst (v := 1) hx hb (dq tk_LW_11 5 rfl) (by decide) ?_
    refine lv_iadd hx hb (dq tk_LW_11 6 rfl) ?_
    refine l_sld hc hw hX hbl hbZ (k := 6 * k + 1) (a := a1) (nI_add (6 * k) 1) (by omega) hL ha1 (dq tk_LW_11 7 rfl) ?_
    refine lv_aload_n hx hb (dq tk_LW_11 8 rfl) rfl (lv_at hl 1 rfl) ?_
    refine lv_iload hx hb (dq tk_LW_11 9 rfl) (lv_at hl 0 rfl) ?_
    refine lv_iconst (v := 2) hx hb (dq tk_LW_11 10 rfl) (by decide) ?_
    refine lv_iadd hx hb (dq tk_LW_11 11 rfl) ?_
    refine l_sld hc hw hX hbl hbZ (k := 6 * k + 2) (a := a2) (nI_add (6 * k) 2) (by omega) hL ha2 (dq tk_LW_11 12 rfl) ?_
    refine lv_aload_n hx hb (dq tk_LW_11 13 rfl) rfl (lv_at hl 1 rfl) ?_
    refine lv_iload hx hb (dq tk_LW_11 14 rfl) (lv_at hl 0 rfl) ?_
    refine lv_iconst (v := 3) hx hb (dq tk_LW_11 15 rfl) (by decide) ?_
    refine lv_iadd hx hb (dq tk_LW_11 16 rfl) ?_
    refine l_sld hc hw hX hbl hbZ (k := 6 * k + 3) (a := a3) (nI_add (6 * k) 3) (by omega) hL ha3 (dq tk_LW_11 17 rfl) ?_
    refine lv_aload_n hx hb (dq tk_LW_11 18 rfl) rfl (lv_at hl 4 rfl) ?_
    refine KL_claim_n hst hc hw lk_1447 hfx ⟨Nat.le_of_ble_eq_true rfl, Nat.le_of_ble_eq_true rfl⟩ ⟨by show cells + 3 ≤ 601024; omega, by show slots + 18 ≤ 7293034; omega⟩ hl.1 (Nat.le_of_ble_eq_true rfl) (dq tk_LW_11 19 rfl) (fun H locs hw => ?_)
    refine lv_istore (lv' := [(5, .int 1), (4, .int (nI (6 * k))), (0, .ref b), (1, .ref (Z.1 + 0)), (2, .ref (Z.1 + 566)), (3, .ref (Z.1 + 674))]) hx hb (dq tk_LW_11 20 rfl) hl (by decide) rfl (fun ls hl => ?_)
    refine lv_aload_n hx hb (dq tk_LW_11 21 rfl) rfl (lv_at hl 4 rfl) ?_
    refine lv_aload_n hx hb (dq tk_LW_11 22 rfl) rfl (lv_at hl 2 rfl) ?_
    refine lv_iload hx hb (dq tk_LW_11 23 rfl) (lv_at hl 1 rfl) ?_
    refine lv_iconst (v := 1) hx hb (dq tk_LW_11 24 rfl) (by decide) ?_
    refine lv_iadd hx hb (dq tk_LW_11 25 rfl) ?_
    refine l_sld hc hw hX hbl hbZ (k := 6 * k + 1) (a := a1) (nI_add (6 * k) 1) (by omega) hL ha1 (dq tk_LW_11 26 rfl) ?_
    refine lv_aload_n hx hb (dq tk_LW_11 27 rfl) rfl (lv_at hl 2 rfl) ?_
    refine lv_iload hx hb (dq tk_LW_11 28 rfl) (lv_at hl 1 rfl) ?_
    refine lv_iconst (v := 2) hx hb (dq tk_LW_11 29 rfl) (by decide) ?_
    refine lv_iadd hx hb (dq tk_LW_11 30 rfl) ?_
    refine l_sld hc hw hX hbl hbZ (k := 6 * k + 2) (a := a2) (nI_add (6 * k) 2) (by omega) hL ha2 (dq tk_LW_11 31 rfl) ?_
    refine lv_aload_n hx hb (dq tk_LW_11 32 rfl) rfl (lv_at hl 2 rfl) ?_
    refine lv_iload hx hb (dq tk_LW_11 33 rfl) (lv_at hl 1 rfl) ?_
    refine lv_iconst (v := 3) hx hb (dq tk_LW_11 34 rfl) (by decide) ?_
    refine lv_iadd hx hb (dq tk_LW_11 35 rfl) ?_
    refine l_sld hc hw hX hbl hbZ (k := 6 * k + 3) (a := a3) (nI_add (6 * k) 3) (by omega) hL ha3 (dq tk_LW_11 36 rfl) ?_
    refine K_M_claim hc hw lk_2407 hfm ⟨Nat.le_of_ble_eq_true rfl, Nat.le_of_ble_eq_true rfl⟩ ⟨by show cells + 3 ≤ 601024; omega, by show slots + 18 ≤ 7293034; omega⟩ hl.1 (Nat.le_of_ble_eq_true rfl) (dq tk_LW_11 37 rfl) (fun H locs hw _ => ?_)
    refine lv_istore (lv' := [(6, .int b0), (5, .int 1), (4, .int (nI (6 * k))), (0, .ref b), (1, .ref (Z.1 + 0)), (2, .ref (Z.1 + 566)), (3, .ref (Z.1 + 674))]) hx hb (dq tk_LW_11 38 rfl) hl (by decide) rfl (fun ls hl => ?_)
    refine lv_aload_n hx hb (dq tk_LW_11 39 rfl) rfl (lv_at hl 5 rfl) ?_
    refine K_M_thrown hc hw lk_2085 hft ⟨Nat.le_of_ble_eq_true rfl, Nat.le_of_ble_eq_true rfl⟩ ⟨by show cells + 3 ≤ 601024; omega, by show slots + 18 ≤ 7293034; omega⟩ hl.1 (Nat.le_of_ble_eq_true rfl) (dq tk_LW_11 40 rfl) (fun H locs hw _ => ?_)
    refine lv_iload hx hb (dq tk_LW_11 41 rfl) (lv_at hl 1 rfl) ?_
    refine lv_icmp_eq (tgt := 1189) hx hb (dq tk_LW_11 42 rfl) (by decide) (fun _ => ?_) (fun g => absurd rfl g)
    refine lv_iload hx hb (dq tk_LW_11 45 rfl) (lv_at hl 1 rfl) ?_
    refine lv_if_ne (tgt := 1206) hx hb (dq tk_LW_11 46 rfl) (by decide) (fun _ => ?_) (fun g => absurd g (by decide))
    refine lv_goto (tgt := 2404) hx hb (dq tk_LW_11 56 rfl) (by decide) ?_
    refine W.widen (k := cells + 3) (n := slots + 18) (by omega) (by omega) ?_
    exact kk _ _ _ _ _ hI' hw (lv_sub hl [2, 3, 4, 5, 6] rfl)
  | some r =>
    replace hft : fM_thrown N μ' = some 0 := hft
    obtain rfl : r = b0 := hq r rfl
    refine lv_aload_n hx hb (dq tk_LW_11 2 rfl) rfl (lv_at hl 2 rfl) ?_
    refine lv_aload_n hx hb (dq tk_LW_11 3 rfl) rfl (lv_at hl 1 rfl) ?_
    refine lv_iload hx hb (dq tk_LW_11 4 rfl) (lv_at hl 0 rfl) ?_
    refine lv_iconst (v := 1) hx hb (dq tk_LW_11 5 rfl) (by decide) ?_
    refine lv_iadd hx hb (dq tk_LW_11 6 rfl) ?_
    refine l_sld hc hw hX hbl hbZ (k := 6 * k + 1) (a := a1) (nI_add (6 * k) 1) (by omega) hL ha1 (dq tk_LW_11 7 rfl) ?_
    refine lv_aload_n hx hb (dq tk_LW_11 8 rfl) rfl (lv_at hl 1 rfl) ?_
    refine lv_iload hx hb (dq tk_LW_11 9 rfl) (lv_at hl 0 rfl) ?_
    refine lv_iconst (v := 2) hx hb (dq tk_LW_11 10 rfl) (by decide) ?_
    refine lv_iadd hx hb (dq tk_LW_11 11 rfl) ?_
    refine l_sld hc hw hX hbl hbZ (k := 6 * k + 2) (a := a2) (nI_add (6 * k) 2) (by omega) hL ha2 (dq tk_LW_11 12 rfl) ?_
    refine lv_aload_n hx hb (dq tk_LW_11 13 rfl) rfl (lv_at hl 1 rfl) ?_
    refine lv_iload hx hb (dq tk_LW_11 14 rfl) (lv_at hl 0 rfl) ?_
    refine lv_iconst (v := 3) hx hb (dq tk_LW_11 15 rfl) (by decide) ?_
    refine lv_iadd hx hb (dq tk_LW_11 16 rfl) ?_
    refine l_sld hc hw hX hbl hbZ (k := 6 * k + 3) (a := a3) (nI_add (6 * k) 3) (by omega) hL ha3 (dq tk_LW_11 17 rfl) ?_
    refine lv_aload_n hx hb (dq tk_LW_11 18 rfl) rfl (lv_at hl 4 rfl) ?_
    refine KL_claim_s hst hc hw lk_1447 hfx ⟨Nat.le_of_ble_eq_true rfl, Nat.le_of_ble_eq_true rfl⟩ ⟨by show cells + 3 ≤ 601024; omega, by show slots + 18 ≤ 7293034; omega⟩ hl.1 (Nat.le_of_ble_eq_true rfl) (dq tk_LW_11 19 rfl) (fun H locs hw => ?_)
    refine lv_istore (lv' := [(5, .int 0), (4, .int (nI (6 * k))), (0, .ref b), (1, .ref (Z.1 + 0)), (2, .ref (Z.1 + 566)), (3, .ref (Z.1 + 674))]) hx hb (dq tk_LW_11 20 rfl) hl (by decide) rfl (fun ls hl => ?_)
    refine lv_aload_n hx hb (dq tk_LW_11 21 rfl) rfl (lv_at hl 4 rfl) ?_
    refine lv_aload_n hx hb (dq tk_LW_11 22 rfl) rfl (lv_at hl 2 rfl) ?_
    refine lv_iload hx hb (dq tk_LW_11 23 rfl) (lv_at hl 1 rfl) ?_
    refine lv_iconst (v := 1) hx hb (dq tk_LW_11 24 rfl) (by decide) ?_
    refine lv_iadd hx hb (dq tk_LW_11 25 rfl) ?_
    refine l_sld hc hw hX hbl hbZ (k := 6 * k + 1) (a := a1) (nI_add (6 * k) 1) (by omega) hL ha1 (dq tk_LW_11 26 rfl) ?_
    refine lv_aload_n hx hb (dq tk_LW_11 27 rfl) rfl (lv_at hl 2 rfl) ?_
    refine lv_iload hx hb (dq tk_LW_11 28 rfl) (lv_at hl 1 rfl) ?_
    refine lv_iconst (v := 2) hx hb (dq tk_LW_11 29 rfl) (by decide) ?_
    refine lv_iadd hx hb (dq tk_LW_11 30 rfl) ?_
    refine l_sld hc hw hX hbl hbZ (k := 6 * k + 2) (a := a2) (nI_add (6 * k) 2) (by omega) hL ha2 (dq tk_LW_11 31 rfl) ?_
    refine lv_aload_n hx hb (dq tk_LW_11 32 rfl) rfl (lv_at hl 2 rfl) ?_
    refine lv_iload hx hb (dq tk_LW_11 33 rfl) (lv_at hl 1 rfl) ?_
    refine lv_iconst (v := 3) hx hb (dq tk_LW_11 34 rfl) (by decide) ?_
    refine lv_iadd hx hb (dq tk_LW_11 35 rfl) ?_
    refine l_sld hc hw hX hbl hbZ (k := 6 * k + 3) (a := a3) (nI_add (6 * k) 3) (by omega) hL ha3 (dq tk_LW_11 36 rfl) ?_
    refine K_M_claim hc hw lk_2407 hfm ⟨Nat.le_of_ble_eq_true rfl, Nat.le_of_ble_eq_true rfl⟩ ⟨by show cells + 3 ≤ 601024; omega, by show slots + 18 ≤ 7293034; omega⟩ hl.1 (Nat.le_of_ble_eq_true rfl) (dq tk_LW_11 37 rfl) (fun H locs hw _ => ?_)
    refine lv_istore (lv' := [(6, .int r), (5, .int 0), (4, .int (nI (6 * k))), (0, .ref b), (1, .ref (Z.1 + 0)), (2, .ref (Z.1 + 566)), (3, .ref (Z.1 + 674))]) hx hb (dq tk_LW_11 38 rfl) hl (by decide) rfl (fun ls hl => ?_)
    refine lv_aload_n hx hb (dq tk_LW_11 39 rfl) rfl (lv_at hl 5 rfl) ?_
    refine K_M_thrown hc hw lk_2085 hft ⟨Nat.le_of_ble_eq_true rfl, Nat.le_of_ble_eq_true rfl⟩ ⟨by show cells + 3 ≤ 601024; omega, by show slots + 18 ≤ 7293034; omega⟩ hl.1 (Nat.le_of_ble_eq_true rfl) (dq tk_LW_11 40 rfl) (fun H locs hw _ => ?_)
    refine lv_iload hx hb (dq tk_LW_11 41 rfl) (lv_at hl 1 rfl) ?_
    refine lv_icmp_eq (tgt := 1189) hx hb (dq tk_LW_11 42 rfl) (by decide) (fun _ => ?_) (fun g => absurd rfl g)
    refine lv_iload hx hb (dq tk_LW_11 45 rfl) (lv_at hl 1 rfl) ?_
    refine lv_if_ne (tgt := 1206) hx hb (dq tk_LW_11 46 rfl) (by decide) (fun g => absurd rfl g) (fun _ => ?_)
    refine lv_aload_n hx hb (dq tk_LW_11 47 rfl) rfl (lv_at hl 6 rfl) ?_
    refine lv_iconst (v := 0) hx hb (dq tk_LW_11 48 rfl) (by decide) ?_
    refine l_lald hc hw (v := r.toInt64) sJ_at (dq tk_LW_11 49 rfl) ?_
    refine lv_iload hx hb (dq tk_LW_11 50 rfl) (lv_at hl 0 rfl) ?_
    refine lv_i2l hx hb (dq tk_LW_11 51 rfl) rfl ?_
    refine W.lcmp hx hb (dq tk_LW_11 52 rfl) ?_
    refine tst (congrArg Value.int lg_cmp_self) ?_
    refine lv_if_eq (tgt := 1206) hx hb (dq tk_LW_11 53 rfl) (by decide) (fun _ => ?_) (fun g => absurd rfl g)
    refine lv_goto (tgt := 2404) hx hb (dq tk_LW_11 56 rfl) (by decide) ?_
    refine W.widen (k := cells + 3) (n := slots + 18) (by omega) (by omega) ?_
    exact kk _ _ _ _ _ (hLO.1 _ _ _ hI') hw (lv_sub hl [2, 3, 4, 5, 6] rfl)
set_option maxRecDepth 10000 in
theorem w_law_15 {N b L k : Nat} {xs : Nat → Int32} {Inv : St → St → Prop} (hLO : LawOk N Inv) (hst : l.stackTraces = false) (hc : Cxz p s m meth c #[Value.ref b] code "LabourExchangeLaw" 8 Z) (hX : va_X b L xs s s.heap) (hbl : b < s.heap.size) (hbZ : b < Z.1) (hL : L ≤ 3072) (hk : 6 * k + 6 ≤ L) (hI : Inv σ μ) (hcl0 : cells + 3 ≤ 601024 ∧ slots + 18 ≤ 7293034) {ls : Array Slot} (hw : Wd Z (cmb σ μ) s H locs) (hl : lv_has ls 8 [(4, .int (nI (6 * k))), (0, .ref b), (1, .ref (Z.1 + 0)), (2, .ref (Z.1 + 566)), (3, .ref (Z.1 + 674))])
    (kk : ∀ (σ1 μ1 : St) (H1 : Heap) (locs1 : List Loc) (ls1 : Array Slot), Inv σ1 μ1 → Wd Z (cmb σ1 μ1) s H1 locs1 → lv_has ls1 8 [(4, .int (nI (6 * k))), (0, .ref b), (1, .ref (Z.1 + 0)), (2, .ref (Z.1 + 566)), (3, .ref (Z.1 + 674))] → W p l e room_1 s m #[Value.ref b] below meth c H1 locs1 (cells + 3) (slots + 18) Q (F0 m 2404 ls1 [])) : W p l e room_1 s m #[Value.ref b] below meth c H locs cells slots Q (F0 m 1209 ls []) := by
  have hx := hc.hx
  have hb := hc.hb
  obtain ⟨h1, h2⟩ := hcl0
  obtain ⟨a1, ha1⟩ : ∃ a, xs (6 * k + 1) = a := ⟨_, rfl⟩
  obtain ⟨a2, ha2⟩ : ∃ a, xs (6 * k + 2) = a := ⟨_, rfl⟩
  obtain ⟨q, σ', b0, μ', hfx, hfm, hft, hq, hI'⟩ := (hLO.2.2.2.2.2.2.2.2.2.2.2.2.2.2.2.2.1 σ μ a1 a2 hI)
  cases q with
  | none =>
    replace hft : fM_thrown N μ' = some 1 := hft
    refine lv_aload_n hx hb (dq tk_LW_11 57 rfl) rfl (lv_at hl 2 rfl) ?_
    refine lv_aload_n hx hb (dq tk_LW_11 58 rfl) rfl (lv_at hl 1 rfl) ?_
    refine lv_iload hx hb (dq tk_LW_11 59 rfl) (lv_at hl 0 rfl) ?_
    refine lv_iconst (v := 1) hx hb (dq tk_LW_12 0 rfl) (by decide) ?_
    refine lv_iadd hx hb (dq tk_LW_12 1 rfl) ?_
    refine l_sld hc hw hX hbl hbZ (k := 6 * k + 1) (a := a1) (nI_add (6 * k) 1) (by omega) hL ha1 (dq tk_LW_12 2 rfl) ?_
    refine lv_aload_n hx hb (dq tk_LW_12 3 rfl) rfl (lv_at hl 1 rfl) ?_
    refine lv_iload hx hb (dq tk_LW_12 4 rfl) (lv_at hl 0 rfl) ?_
    refine lv_iconst (v := 2) hx hb (dq tk_LW_12 5 rfl) (by decide) ?_
    refine lv_iadd hx hb (dq tk_LW_12 6 rfl) ?_
    refine l_sld hc hw hX hbl hbZ (k := 6 * k + 2) (a := a2) (nI_add (6 * k) 2) (by omega) hL ha2 (dq tk_LW_12 7 rfl) ?_
    refine lv_aload_n hx hb (dq tk_LW_12 8 rfl) rfl (lv_at hl 4 rfl) ?_
    refine KL_value_n hst hc hw lk_1454 hfx ⟨Nat.le_of_ble_eq_true rfl, Nat.le_of_ble_eq_true rfl⟩ ⟨by show cells + 2 ≤ 601024; omega, by show slots + 12 ≤ 7293034; omega⟩ hl.1 (Nat.le_of_ble_eq_true rfl) (dq tk_LW_12 9 rfl) (fun H locs hw => ?_)
    refine lv_istore (lv' := [(5, .int 1), (4, .int (nI (6 * k))), (0, .ref b), (1, .ref (Z.1 + 0)), (2, .ref (Z.1 + 566)), (3, .ref (Z.1 + 674))]) hx hb (dq tk_LW_12 10 rfl) hl (by decide) rfl (fun ls hl => ?_)
    refine lv_aload_n hx hb (dq tk_LW_12 11 rfl) rfl (lv_at hl 4 rfl) ?_
    refine lv_aload_n hx hb (dq tk_LW_12 12 rfl) rfl (lv_at hl 2 rfl) ?_
    refine lv_iload hx hb (dq tk_LW_12 13 rfl) (lv_at hl 1 rfl) ?_
    refine lv_iconst (v := 1) hx hb (dq tk_LW_12 14 rfl) (by decide) ?_
    refine lv_iadd hx hb (dq tk_LW_12 15 rfl) ?_
    refine l_sld hc hw hX hbl hbZ (k := 6 * k + 1) (a := a1) (nI_add (6 * k) 1) (by omega) hL ha1 (dq tk_LW_12 16 rfl) ?_
    refine lv_aload_n hx hb (dq tk_LW_12 17 rfl) rfl (lv_at hl 2 rfl) ?_
    refine lv_iload hx hb (dq tk_LW_12 18 rfl) (lv_at hl 1 rfl) ?_
    refine lv_iconst (v := 2) hx hb (dq tk_LW_12 19 rfl) (by decide) ?_
    refine lv_iadd hx hb (dq tk_LW_12 20 rfl) ?_
    refine l_sld hc hw hX hbl hbZ (k := 6 * k + 2) (a := a2) (nI_add (6 * k) 2) (by omega) hL ha2 (dq tk_LW_12 21 rfl) ?_
    refine K_M_value hc hw lk_2415 hfm ⟨Nat.le_of_ble_eq_true rfl, Nat.le_of_ble_eq_true rfl⟩ ⟨by show cells + 2 ≤ 601024; omega, by show slots + 12 ≤ 7293034; omega⟩ hl.1 (Nat.le_of_ble_eq_true rfl) (dq tk_LW_12 22 rfl) (fun H locs hw _ => ?_)
    refine lv_lstore (lv' := [(6, .long b0), (5, .int 1), (4, .int (nI (6 * k))), (0, .ref b), (1, .ref (Z.1 + 0)), (2, .ref (Z.1 + 566)), (3, .ref (Z.1 + 674))]) hx hb (dq tk_LW_12 23 rfl) hl (by decide) rfl (fun ls hl => ?_)
    refine lv_aload_n hx hb (dq tk_LW_12 24 rfl) rfl (lv_at hl 5 rfl) ?_
    refine K_M_thrown hc hw lk_2085 hft ⟨Nat.le_of_ble_eq_true rfl, Nat.le_of_ble_eq_true rfl⟩ ⟨by show cells + 2 ≤ 601024; omega, by show slots + 12 ≤ 7293034; omega⟩ hl.1 (Nat.le_of_ble_eq_true rfl) (dq tk_LW_12 25 rfl) (fun H locs hw _ => ?_)
    refine lv_iload hx hb (dq tk_LW_12 26 rfl) (lv_at hl 1 rfl) ?_
    refine lv_icmp_eq (tgt := 1257) hx hb (dq tk_LW_12 27 rfl) (by decide) (fun _ => ?_) (fun g => absurd rfl g)
    refine lv_iload hx hb (dq tk_LW_12 30 rfl) (lv_at hl 1 rfl) ?_
    refine lv_if_ne (tgt := 1273) hx hb (dq tk_LW_12 31 rfl) (by decide) (fun _ => ?_) (fun g => absurd g (by decide))
    refine lv_goto (tgt := 2404) hx hb (dq tk_LW_12 40 rfl) (by decide) ?_
    refine W.widen (k := cells + 3) (n := slots + 18) (by omega) (by omega) ?_
    exact kk _ _ _ _ _ hI' hw (lv_sub hl [2, 3, 4, 5, 6] rfl)
  | some r =>
    replace hft : fM_thrown N μ' = some 0 := hft
    obtain rfl : r = b0 := hq r rfl
    refine lv_aload_n hx hb (dq tk_LW_11 57 rfl) rfl (lv_at hl 2 rfl) ?_
    refine lv_aload_n hx hb (dq tk_LW_11 58 rfl) rfl (lv_at hl 1 rfl) ?_
    refine lv_iload hx hb (dq tk_LW_11 59 rfl) (lv_at hl 0 rfl) ?_
    refine lv_iconst (v := 1) hx hb (dq tk_LW_12 0 rfl) (by decide) ?_
    refine lv_iadd hx hb (dq tk_LW_12 1 rfl) ?_
    refine l_sld hc hw hX hbl hbZ (k := 6 * k + 1) (a := a1) (nI_add (6 * k) 1) (by omega) hL ha1 (dq tk_LW_12 2 rfl) ?_
    refine lv_aload_n hx hb (dq tk_LW_12 3 rfl) rfl (lv_at hl 1 rfl) ?_
    refine lv_iload hx hb (dq tk_LW_12 4 rfl) (lv_at hl 0 rfl) ?_
    refine lv_iconst (v := 2) hx hb (dq tk_LW_12 5 rfl) (by decide) ?_
    refine lv_iadd hx hb (dq tk_LW_12 6 rfl) ?_
    refine l_sld hc hw hX hbl hbZ (k := 6 * k + 2) (a := a2) (nI_add (6 * k) 2) (by omega) hL ha2 (dq tk_LW_12 7 rfl) ?_
    refine lv_aload_n hx hb (dq tk_LW_12 8 rfl) rfl (lv_at hl 4 rfl) ?_
    refine KL_value_s hst hc hw lk_1454 hfx ⟨Nat.le_of_ble_eq_true rfl, Nat.le_of_ble_eq_true rfl⟩ ⟨by show cells + 2 ≤ 601024; omega, by show slots + 12 ≤ 7293034; omega⟩ hl.1 (Nat.le_of_ble_eq_true rfl) (dq tk_LW_12 9 rfl) (fun H locs hw => ?_)
    refine lv_istore (lv' := [(5, .int 0), (4, .int (nI (6 * k))), (0, .ref b), (1, .ref (Z.1 + 0)), (2, .ref (Z.1 + 566)), (3, .ref (Z.1 + 674))]) hx hb (dq tk_LW_12 10 rfl) hl (by decide) rfl (fun ls hl => ?_)
    refine lv_aload_n hx hb (dq tk_LW_12 11 rfl) rfl (lv_at hl 4 rfl) ?_
    refine lv_aload_n hx hb (dq tk_LW_12 12 rfl) rfl (lv_at hl 2 rfl) ?_
    refine lv_iload hx hb (dq tk_LW_12 13 rfl) (lv_at hl 1 rfl) ?_
    refine lv_iconst (v := 1) hx hb (dq tk_LW_12 14 rfl) (by decide) ?_
    refine lv_iadd hx hb (dq tk_LW_12 15 rfl) ?_
    refine l_sld hc hw hX hbl hbZ (k := 6 * k + 1) (a := a1) (nI_add (6 * k) 1) (by omega) hL ha1 (dq tk_LW_12 16 rfl) ?_
    refine lv_aload_n hx hb (dq tk_LW_12 17 rfl) rfl (lv_at hl 2 rfl) ?_
    refine lv_iload hx hb (dq tk_LW_12 18 rfl) (lv_at hl 1 rfl) ?_
    refine lv_iconst (v := 2) hx hb (dq tk_LW_12 19 rfl) (by decide) ?_
    refine lv_iadd hx hb (dq tk_LW_12 20 rfl) ?_
    refine l_sld hc hw hX hbl hbZ (k := 6 * k + 2) (a := a2) (nI_add (6 * k) 2) (by omega) hL ha2 (dq tk_LW_12 21 rfl) ?_
    refine K_M_value hc hw lk_2415 hfm ⟨Nat.le_of_ble_eq_true rfl, Nat.le_of_ble_eq_true rfl⟩ ⟨by show cells + 2 ≤ 601024; omega, by show slots + 12 ≤ 7293034; omega⟩ hl.1 (Nat.le_of_ble_eq_true rfl) (dq tk_LW_12 22 rfl) (fun H locs hw _ => ?_)
    refine lv_lstore (lv' := [(6, .long r), (5, .int 0), (4, .int (nI (6 * k))), (0, .ref b), (1, .ref (Z.1 + 0)), (2, .ref (Z.1 + 566)), (3, .ref (Z.1 + 674))]) hx hb (dq tk_LW_12 23 rfl) hl (by decide) rfl (fun ls hl => ?_)
    refine lv_aload_n hx hb (dq tk_LW_12 24 rfl) rfl (lv_at hl 5 rfl) ?_
    refine K_M_thrown hc hw lk_2085 hft ⟨Nat.le_of_ble_eq_true rfl, Nat.le_of_ble_eq_true rfl⟩ ⟨by show cells + 2 ≤ 601024; omega, by show slots + 12 ≤ 7293034; omega⟩ hl.1 (Nat.le_of_ble_eq_true rfl) (dq tk_LW_12 25 rfl) (fun H locs hw _ => ?_)
    refine lv_iload hx hb (dq tk_LW_12 26 rfl) (lv_at hl 1 rfl) ?_
    refine lv_icmp_eq (tgt := 1257) hx hb (dq tk_LW_12 27 rfl) (by decide) (fun _ => ?_) (fun g => absurd rfl g)
    refine lv_iload hx hb (dq tk_LW_12 30 rfl) (lv_at hl 1 rfl) ?_
    refine lv_if_ne (tgt := 1273) hx hb (dq tk_LW_12 31 rfl) (by decide) (fun g => absurd rfl g) (fun _ => ?_)
    refine lv_aload_n hx hb (dq tk_LW_12 32 rfl) rfl (lv_at hl 6 rfl) ?_
    refine lv_iconst (v := 0) hx hb (dq tk_LW_12 33 rfl) (by decide) ?_
    refine l_lald hc hw (v := r) sJ_at (dq tk_LW_12 34 rfl) ?_
    refine lv_lload hx hb (dq tk_LW_12 35 rfl) (lv_at hl 0 rfl) ?_
    refine W.lcmp hx hb (dq tk_LW_12 36 rfl) ?_
    refine tst (congrArg Value.int lg_cmp_self) ?_
    refine lv_if_eq (tgt := 1273) hx hb (dq tk_LW_12 37 rfl) (by decide) (fun _ => ?_) (fun g => absurd rfl g)
    refine lv_goto (tgt := 2404) hx hb (dq tk_LW_12 40 rfl) (by decide) ?_
    refine W.widen (k := cells + 3) (n := slots + 18) (by omega) (by omega) ?_
    exact kk _ _ _ _ _ (hLO.1 _ _ _ hI') hw (lv_sub hl [2, 3, 4, 5, 6] rfl)
set_option maxRecDepth 10000 in
theorem w_law_16 {N b L k : Nat} {xs : Nat → Int32} {Inv : St → St → Prop} (hLO : LawOk N Inv) (hst : l.stackTraces = false) (hc : Cxz p s m meth c #[Value.ref b] code "LabourExchangeLaw" 8 Z) (hX : va_X b L xs s s.heap) (hbl : b < s.heap.size) (hbZ : b < Z.1) (hL : L ≤ 3072) (hk : 6 * k + 6 ≤ L) (hI : Inv σ μ) (hcl0 : cells + 3 ≤ 601024 ∧ slots + 18 ≤ 7293034) {ls : Array Slot} (hw : Wd Z (cmb σ μ) s H locs) (hl : lv_has ls 8 [(4, .int (nI (6 * k))), (0, .ref b), (1, .ref (Z.1 + 0)), (2, .ref (Z.1 + 566)), (3, .ref (Z.1 + 674))])
    (kk : ∀ (σ1 μ1 : St) (H1 : Heap) (locs1 : List Loc) (ls1 : Array Slot), Inv σ1 μ1 → Wd Z (cmb σ1 μ1) s H1 locs1 → lv_has ls1 8 [(4, .int (nI (6 * k))), (0, .ref b), (1, .ref (Z.1 + 0)), (2, .ref (Z.1 + 566)), (3, .ref (Z.1 + 674))] → W p l e room_1 s m #[Value.ref b] below meth c H1 locs1 (cells + 3) (slots + 18) Q (F0 m 2404 ls1 [])) : W p l e room_1 s m #[Value.ref b] below meth c H locs cells slots Q (F0 m 1276 ls []) := by
  have hx := hc.hx
  have hb := hc.hb
  obtain ⟨h1, h2⟩ := hcl0
  obtain ⟨a1, ha1⟩ : ∃ a, xs (6 * k + 1) = a := ⟨_, rfl⟩
  obtain ⟨a2, ha2⟩ : ∃ a, xs (6 * k + 2) = a := ⟨_, rfl⟩
  obtain ⟨q, σ', b0, μ', hfx, hfm, hft, hq, hI'⟩ := (hLO.2.2.2.2.2.2.2.2.2.2.2.2.2.2.2.2.2.1 σ μ a1 a2 hI)
  cases q with
  | none =>
    replace hft : fM_thrown N μ' = some 1 := hft
    refine lv_aload_n hx hb (dq tk_LW_12 41 rfl) rfl (lv_at hl 2 rfl) ?_
    refine lv_aload_n hx hb (dq tk_LW_12 42 rfl) rfl (lv_at hl 1 rfl) ?_
    refine lv_iload hx hb (dq tk_LW_12 43 rfl) (lv_at hl 0 rfl) ?_
    refine lv_iconst (v := 1) hx hb (dq tk_LW_12 44 rfl) (by decide) ?_
    refine lv_iadd hx hb (dq tk_LW_12 45 rfl) ?_
    refine l_sld hc hw hX hbl hbZ (k := 6 * k + 1) (a := a1) (nI_add (6 * k) 1) (by omega) hL ha1 (dq tk_LW_12 46 rfl) ?_
    refine lv_aload_n hx hb (dq tk_LW_12 47 rfl) rfl (lv_at hl 1 rfl) ?_
    refine lv_iload hx hb (dq tk_LW_12 48 rfl) (lv_at hl 0 rfl) ?_
    refine lv_iconst (v := 2) hx hb (dq tk_LW_12 49 rfl) (by decide) ?_
    refine lv_iadd hx hb (dq tk_LW_12 50 rfl) ?_
    refine l_sld hc hw hX hbl hbZ (k := 6 * k + 2) (a := a2) (nI_add (6 * k) 2) (by omega) hL ha2 (dq tk_LW_12 51 rfl) ?_
    refine lv_aload_n hx hb (dq tk_LW_12 52 rfl) rfl (lv_at hl 4 rfl) ?_
    refine KL_law_n hst hc hw lk_1462 hfx ⟨Nat.le_of_ble_eq_true rfl, Nat.le_of_ble_eq_true rfl⟩ ⟨by show cells + 2 ≤ 601024; omega, by show slots + 12 ≤ 7293034; omega⟩ hl.1 (Nat.le_of_ble_eq_true rfl) (dq tk_LW_12 53 rfl) (fun H locs hw => ?_)
    refine lv_istore (lv' := [(5, .int 1), (4, .int (nI (6 * k))), (0, .ref b), (1, .ref (Z.1 + 0)), (2, .ref (Z.1 + 566)), (3, .ref (Z.1 + 674))]) hx hb (dq tk_LW_12 54 rfl) hl (by decide) rfl (fun ls hl => ?_)
    refine lv_aload_n hx hb (dq tk_LW_12 55 rfl) rfl (lv_at hl 4 rfl) ?_
    refine lv_aload_n hx hb (dq tk_LW_12 56 rfl) rfl (lv_at hl 2 rfl) ?_
    refine lv_iload hx hb (dq tk_LW_12 57 rfl) (lv_at hl 1 rfl) ?_
    refine lv_iconst (v := 1) hx hb (dq tk_LW_12 58 rfl) (by decide) ?_
    refine lv_iadd hx hb (dq tk_LW_12 59 rfl) ?_
    refine l_sld hc hw hX hbl hbZ (k := 6 * k + 1) (a := a1) (nI_add (6 * k) 1) (by omega) hL ha1 (dq tk_LW_13 0 rfl) ?_
    refine lv_aload_n hx hb (dq tk_LW_13 1 rfl) rfl (lv_at hl 2 rfl) ?_
    refine lv_iload hx hb (dq tk_LW_13 2 rfl) (lv_at hl 1 rfl) ?_
    refine lv_iconst (v := 2) hx hb (dq tk_LW_13 3 rfl) (by decide) ?_
    refine lv_iadd hx hb (dq tk_LW_13 4 rfl) ?_
    refine l_sld hc hw hX hbl hbZ (k := 6 * k + 2) (a := a2) (nI_add (6 * k) 2) (by omega) hL ha2 (dq tk_LW_13 5 rfl) ?_
    refine K_M_law hc hw lk_2423 hfm ⟨Nat.le_of_ble_eq_true rfl, Nat.le_of_ble_eq_true rfl⟩ ⟨by show cells + 2 ≤ 601024; omega, by show slots + 12 ≤ 7293034; omega⟩ hl.1 (Nat.le_of_ble_eq_true rfl) (dq tk_LW_13 6 rfl) (fun H locs hw _ => ?_)
    refine lv_istore (lv' := [(6, .int b0), (5, .int 1), (4, .int (nI (6 * k))), (0, .ref b), (1, .ref (Z.1 + 0)), (2, .ref (Z.1 + 566)), (3, .ref (Z.1 + 674))]) hx hb (dq tk_LW_13 7 rfl) hl (by decide) rfl (fun ls hl => ?_)
    refine lv_aload_n hx hb (dq tk_LW_13 8 rfl) rfl (lv_at hl 5 rfl) ?_
    refine K_M_thrown hc hw lk_2085 hft ⟨Nat.le_of_ble_eq_true rfl, Nat.le_of_ble_eq_true rfl⟩ ⟨by show cells + 2 ≤ 601024; omega, by show slots + 12 ≤ 7293034; omega⟩ hl.1 (Nat.le_of_ble_eq_true rfl) (dq tk_LW_13 9 rfl) (fun H locs hw _ => ?_)
    refine lv_iload hx hb (dq tk_LW_13 10 rfl) (lv_at hl 1 rfl) ?_
    refine lv_icmp_eq (tgt := 1324) hx hb (dq tk_LW_13 11 rfl) (by decide) (fun _ => ?_) (fun g => absurd rfl g)
    refine lv_iload hx hb (dq tk_LW_13 14 rfl) (lv_at hl 1 rfl) ?_
    refine lv_if_ne (tgt := 1341) hx hb (dq tk_LW_13 15 rfl) (by decide) (fun _ => ?_) (fun g => absurd g (by decide))
    refine lv_goto (tgt := 2404) hx hb (dq tk_LW_13 25 rfl) (by decide) ?_
    refine W.widen (k := cells + 3) (n := slots + 18) (by omega) (by omega) ?_
    exact kk _ _ _ _ _ hI' hw (lv_sub hl [2, 3, 4, 5, 6] rfl)
  | some r =>
    replace hft : fM_thrown N μ' = some 0 := hft
    obtain rfl : r = b0 := hq r rfl
    refine lv_aload_n hx hb (dq tk_LW_12 41 rfl) rfl (lv_at hl 2 rfl) ?_
    refine lv_aload_n hx hb (dq tk_LW_12 42 rfl) rfl (lv_at hl 1 rfl) ?_
    refine lv_iload hx hb (dq tk_LW_12 43 rfl) (lv_at hl 0 rfl) ?_
    refine lv_iconst (v := 1) hx hb (dq tk_LW_12 44 rfl) (by decide) ?_
    refine lv_iadd hx hb (dq tk_LW_12 45 rfl) ?_
    refine l_sld hc hw hX hbl hbZ (k := 6 * k + 1) (a := a1) (nI_add (6 * k) 1) (by omega) hL ha1 (dq tk_LW_12 46 rfl) ?_
    refine lv_aload_n hx hb (dq tk_LW_12 47 rfl) rfl (lv_at hl 1 rfl) ?_
    refine lv_iload hx hb (dq tk_LW_12 48 rfl) (lv_at hl 0 rfl) ?_
    refine lv_iconst (v := 2) hx hb (dq tk_LW_12 49 rfl) (by decide) ?_
    refine lv_iadd hx hb (dq tk_LW_12 50 rfl) ?_
    refine l_sld hc hw hX hbl hbZ (k := 6 * k + 2) (a := a2) (nI_add (6 * k) 2) (by omega) hL ha2 (dq tk_LW_12 51 rfl) ?_
    refine lv_aload_n hx hb (dq tk_LW_12 52 rfl) rfl (lv_at hl 4 rfl) ?_
    refine KL_law_s hst hc hw lk_1462 hfx ⟨Nat.le_of_ble_eq_true rfl, Nat.le_of_ble_eq_true rfl⟩ ⟨by show cells + 2 ≤ 601024; omega, by show slots + 12 ≤ 7293034; omega⟩ hl.1 (Nat.le_of_ble_eq_true rfl) (dq tk_LW_12 53 rfl) (fun H locs hw => ?_)
    refine lv_istore (lv' := [(5, .int 0), (4, .int (nI (6 * k))), (0, .ref b), (1, .ref (Z.1 + 0)), (2, .ref (Z.1 + 566)), (3, .ref (Z.1 + 674))]) hx hb (dq tk_LW_12 54 rfl) hl (by decide) rfl (fun ls hl => ?_)
    refine lv_aload_n hx hb (dq tk_LW_12 55 rfl) rfl (lv_at hl 4 rfl) ?_
    refine lv_aload_n hx hb (dq tk_LW_12 56 rfl) rfl (lv_at hl 2 rfl) ?_
    refine lv_iload hx hb (dq tk_LW_12 57 rfl) (lv_at hl 1 rfl) ?_
    refine lv_iconst (v := 1) hx hb (dq tk_LW_12 58 rfl) (by decide) ?_
    refine lv_iadd hx hb (dq tk_LW_12 59 rfl) ?_
    refine l_sld hc hw hX hbl hbZ (k := 6 * k + 1) (a := a1) (nI_add (6 * k) 1) (by omega) hL ha1 (dq tk_LW_13 0 rfl) ?_
    refine lv_aload_n hx hb (dq tk_LW_13 1 rfl) rfl (lv_at hl 2 rfl) ?_
    refine lv_iload hx hb (dq tk_LW_13 2 rfl) (lv_at hl 1 rfl) ?_
    refine lv_iconst (v := 2) hx hb (dq tk_LW_13 3 rfl) (by decide) ?_
    refine lv_iadd hx hb (dq tk_LW_13 4 rfl) ?_
    refine l_sld hc hw hX hbl hbZ (k := 6 * k + 2) (a := a2) (nI_add (6 * k) 2) (by omega) hL ha2 (dq tk_LW_13 5 rfl) ?_
    refine K_M_law hc hw lk_2423 hfm ⟨Nat.le_of_ble_eq_true rfl, Nat.le_of_ble_eq_true rfl⟩ ⟨by show cells + 2 ≤ 601024; omega, by show slots + 12 ≤ 7293034; omega⟩ hl.1 (Nat.le_of_ble_eq_true rfl) (dq tk_LW_13 6 rfl) (fun H locs hw _ => ?_)
    refine lv_istore (lv' := [(6, .int r), (5, .int 0), (4, .int (nI (6 * k))), (0, .ref b), (1, .ref (Z.1 + 0)), (2, .ref (Z.1 + 566)), (3, .ref (Z.1 + 674))]) hx hb (dq tk_LW_13 7 rfl) hl (by decide) rfl (fun ls hl => ?_)
    refine lv_aload_n hx hb (dq tk_LW_13 8 rfl) rfl (lv_at hl 5 rfl) ?_
    refine K_M_thrown hc hw lk_2085 hft ⟨Nat.le_of_ble_eq_true rfl, Nat.le_of_ble_eq_true rfl⟩ ⟨by show cells + 2 ≤ 601024; omega, by show slots + 12 ≤ 7293034; omega⟩ hl.1 (Nat.le_of_ble_eq_true rfl) (dq tk_LW_13 9 rfl) (fun H locs hw _ => ?_)
    refine lv_iload hx hb (dq tk_LW_13 10 rfl) (lv_at hl 1 rfl) ?_
    refine lv_icmp_eq (tgt := 1324) hx hb (dq tk_LW_13 11 rfl) (by decide) (fun _ => ?_) (fun g => absurd rfl g)
    refine lv_iload hx hb (dq tk_LW_13 14 rfl) (lv_at hl 1 rfl) ?_
    refine lv_if_ne (tgt := 1341) hx hb (dq tk_LW_13 15 rfl) (by decide) (fun g => absurd rfl g) (fun _ => ?_)
    refine lv_aload_n hx hb (dq tk_LW_13 16 rfl) rfl (lv_at hl 6 rfl) ?_
    refine lv_iconst (v := 0) hx hb (dq tk_LW_13 17 rfl) (by decide) ?_
    refine l_lald hc hw (v := r.toInt64) sJ_at (dq tk_LW_13 18 rfl) ?_
    refine lv_iload hx hb (dq tk_LW_13 19 rfl) (lv_at hl 0 rfl) ?_
    refine lv_i2l hx hb (dq tk_LW_13 20 rfl) rfl ?_
    refine W.lcmp hx hb (dq tk_LW_13 21 rfl) ?_
    refine tst (congrArg Value.int lg_cmp_self) ?_
    refine lv_if_eq (tgt := 1341) hx hb (dq tk_LW_13 22 rfl) (by decide) (fun _ => ?_) (fun g => absurd rfl g)
    refine lv_goto (tgt := 2404) hx hb (dq tk_LW_13 25 rfl) (by decide) ?_
    refine W.widen (k := cells + 3) (n := slots + 18) (by omega) (by omega) ?_
    exact kk _ _ _ _ _ (hLO.1 _ _ _ hI') hw (lv_sub hl [2, 3, 4, 5, 6] rfl)
set_option maxRecDepth 10000 in
theorem w_law_17 {N b L k : Nat} {xs : Nat → Int32} {Inv : St → St → Prop} (hLO : LawOk N Inv) (hst : l.stackTraces = false) (hc : Cxz p s m meth c #[Value.ref b] code "LabourExchangeLaw" 8 Z) (hX : va_X b L xs s s.heap) (hbl : b < s.heap.size) (hbZ : b < Z.1) (hL : L ≤ 3072) (hk : 6 * k + 6 ≤ L) (hI : Inv σ μ) (hcl0 : cells + 3 ≤ 601024 ∧ slots + 18 ≤ 7293034) {ls : Array Slot} (hw : Wd Z (cmb σ μ) s H locs) (hl : lv_has ls 8 [(4, .int (nI (6 * k))), (0, .ref b), (1, .ref (Z.1 + 0)), (2, .ref (Z.1 + 566)), (3, .ref (Z.1 + 674))])
    (kk : ∀ (σ1 μ1 : St) (H1 : Heap) (locs1 : List Loc) (ls1 : Array Slot), Inv σ1 μ1 → Wd Z (cmb σ1 μ1) s H1 locs1 → lv_has ls1 8 [(4, .int (nI (6 * k))), (0, .ref b), (1, .ref (Z.1 + 0)), (2, .ref (Z.1 + 566)), (3, .ref (Z.1 + 674))] → W p l e room_1 s m #[Value.ref b] below meth c H1 locs1 (cells + 3) (slots + 18) Q (F0 m 2404 ls1 [])) : W p l e room_1 s m #[Value.ref b] below meth c H locs cells slots Q (F0 m 1344 ls []) := by
  have hx := hc.hx
  have hb := hc.hb
  obtain ⟨h1, h2⟩ := hcl0
  obtain ⟨a1, ha1⟩ : ∃ a, xs (6 * k + 1) = a := ⟨_, rfl⟩
  obtain ⟨a2, ha2⟩ : ∃ a, xs (6 * k + 2) = a := ⟨_, rfl⟩
  obtain ⟨q, σ', b0, μ', hfx, hfm, hft, hq, hI'⟩ := (hLO.2.2.2.2.2.2.2.2.2.2.2.2.2.2.2.2.2.2.1 σ μ a1 a2 hI)
  cases q with
  | none =>
    replace hft : fM_thrown N μ' = some 1 := hft
    refine lv_aload_n hx hb (dq tk_LW_13 26 rfl) rfl (lv_at hl 2 rfl) ?_
    refine lv_aload_n hx hb (dq tk_LW_13 27 rfl) rfl (lv_at hl 1 rfl) ?_
    refine lv_iload hx hb (dq tk_LW_13 28 rfl) (lv_at hl 0 rfl) ?_
    refine lv_iconst (v := 1) hx hb (dq tk_LW_13 29 rfl) (by decide) ?_
    refine lv_iadd hx hb (dq tk_LW_13 30 rfl) ?_
    refine l_sld hc hw hX hbl hbZ (k := 6 * k + 1) (a := a1) (nI_add (6 * k) 1) (by omega) hL ha1 (dq tk_LW_13 31 rfl) ?_
    refine lv_aload_n hx hb (dq tk_LW_13 32 rfl) rfl (lv_at hl 1 rfl) ?_
    refine lv_iload hx hb (dq tk_LW_13 33 rfl) (lv_at hl 0 rfl) ?_
    refine lv_iconst (v := 2) hx hb (dq tk_LW_13 34 rfl) (by decide) ?_
    refine lv_iadd hx hb (dq tk_LW_13 35 rfl) ?_
    refine l_sld hc hw hX hbl hbZ (k := 6 * k + 2) (a := a2) (nI_add (6 * k) 2) (by omega) hL ha2 (dq tk_LW_13 36 rfl) ?_
    refine lv_aload_n hx hb (dq tk_LW_13 37 rfl) rfl (lv_at hl 4 rfl) ?_
    refine KL_paid_n hst hc hw lk_1470 hfx ⟨Nat.le_of_ble_eq_true rfl, Nat.le_of_ble_eq_true rfl⟩ ⟨by show cells + 2 ≤ 601024; omega, by show slots + 12 ≤ 7293034; omega⟩ hl.1 (Nat.le_of_ble_eq_true rfl) (dq tk_LW_13 38 rfl) (fun H locs hw => ?_)
    refine lv_istore (lv' := [(5, .int 1), (4, .int (nI (6 * k))), (0, .ref b), (1, .ref (Z.1 + 0)), (2, .ref (Z.1 + 566)), (3, .ref (Z.1 + 674))]) hx hb (dq tk_LW_13 39 rfl) hl (by decide) rfl (fun ls hl => ?_)
    refine lv_aload_n hx hb (dq tk_LW_13 40 rfl) rfl (lv_at hl 4 rfl) ?_
    refine lv_aload_n hx hb (dq tk_LW_13 41 rfl) rfl (lv_at hl 2 rfl) ?_
    refine lv_iload hx hb (dq tk_LW_13 42 rfl) (lv_at hl 1 rfl) ?_
    refine lv_iconst (v := 1) hx hb (dq tk_LW_13 43 rfl) (by decide) ?_
    refine lv_iadd hx hb (dq tk_LW_13 44 rfl) ?_
    refine l_sld hc hw hX hbl hbZ (k := 6 * k + 1) (a := a1) (nI_add (6 * k) 1) (by omega) hL ha1 (dq tk_LW_13 45 rfl) ?_
    refine lv_aload_n hx hb (dq tk_LW_13 46 rfl) rfl (lv_at hl 2 rfl) ?_
    refine lv_iload hx hb (dq tk_LW_13 47 rfl) (lv_at hl 1 rfl) ?_
    refine lv_iconst (v := 2) hx hb (dq tk_LW_13 48 rfl) (by decide) ?_
    refine lv_iadd hx hb (dq tk_LW_13 49 rfl) ?_
    refine l_sld hc hw hX hbl hbZ (k := 6 * k + 2) (a := a2) (nI_add (6 * k) 2) (by omega) hL ha2 (dq tk_LW_13 50 rfl) ?_
    refine K_M_paid hc hw lk_2427 hfm ⟨Nat.le_of_ble_eq_true rfl, Nat.le_of_ble_eq_true rfl⟩ ⟨by show cells + 2 ≤ 601024; omega, by show slots + 12 ≤ 7293034; omega⟩ hl.1 (Nat.le_of_ble_eq_true rfl) (dq tk_LW_13 51 rfl) (fun H locs hw _ => ?_)
    refine lv_istore (lv' := [(6, .int b0), (5, .int 1), (4, .int (nI (6 * k))), (0, .ref b), (1, .ref (Z.1 + 0)), (2, .ref (Z.1 + 566)), (3, .ref (Z.1 + 674))]) hx hb (dq tk_LW_13 52 rfl) hl (by decide) rfl (fun ls hl => ?_)
    refine lv_aload_n hx hb (dq tk_LW_13 53 rfl) rfl (lv_at hl 5 rfl) ?_
    refine K_M_thrown hc hw lk_2085 hft ⟨Nat.le_of_ble_eq_true rfl, Nat.le_of_ble_eq_true rfl⟩ ⟨by show cells + 2 ≤ 601024; omega, by show slots + 12 ≤ 7293034; omega⟩ hl.1 (Nat.le_of_ble_eq_true rfl) (dq tk_LW_13 54 rfl) (fun H locs hw _ => ?_)
    refine lv_iload hx hb (dq tk_LW_13 55 rfl) (lv_at hl 1 rfl) ?_
    refine lv_icmp_eq (tgt := 1392) hx hb (dq tk_LW_13 56 rfl) (by decide) (fun _ => ?_) (fun g => absurd rfl g)
    refine lv_iload hx hb (dq tk_LW_13 59 rfl) (lv_at hl 1 rfl) ?_
    refine lv_if_ne (tgt := 1409) hx hb (dq tk_LW_14 0 rfl) (by decide) (fun _ => ?_) (fun g => absurd g (by decide))
    refine lv_goto (tgt := 2404) hx hb (dq tk_LW_14 10 rfl) (by decide) ?_
    refine W.widen (k := cells + 3) (n := slots + 18) (by omega) (by omega) ?_
    exact kk _ _ _ _ _ hI' hw (lv_sub hl [2, 3, 4, 5, 6] rfl)
  | some r =>
    replace hft : fM_thrown N μ' = some 0 := hft
    obtain rfl : r = b0 := hq r rfl
    refine lv_aload_n hx hb (dq tk_LW_13 26 rfl) rfl (lv_at hl 2 rfl) ?_
    refine lv_aload_n hx hb (dq tk_LW_13 27 rfl) rfl (lv_at hl 1 rfl) ?_
    refine lv_iload hx hb (dq tk_LW_13 28 rfl) (lv_at hl 0 rfl) ?_
    refine lv_iconst (v := 1) hx hb (dq tk_LW_13 29 rfl) (by decide) ?_
    refine lv_iadd hx hb (dq tk_LW_13 30 rfl) ?_
    refine l_sld hc hw hX hbl hbZ (k := 6 * k + 1) (a := a1) (nI_add (6 * k) 1) (by omega) hL ha1 (dq tk_LW_13 31 rfl) ?_
    refine lv_aload_n hx hb (dq tk_LW_13 32 rfl) rfl (lv_at hl 1 rfl) ?_
    refine lv_iload hx hb (dq tk_LW_13 33 rfl) (lv_at hl 0 rfl) ?_
    refine lv_iconst (v := 2) hx hb (dq tk_LW_13 34 rfl) (by decide) ?_
    refine lv_iadd hx hb (dq tk_LW_13 35 rfl) ?_
    refine l_sld hc hw hX hbl hbZ (k := 6 * k + 2) (a := a2) (nI_add (6 * k) 2) (by omega) hL ha2 (dq tk_LW_13 36 rfl) ?_
    refine lv_aload_n hx hb (dq tk_LW_13 37 rfl) rfl (lv_at hl 4 rfl) ?_
    refine KL_paid_s hst hc hw lk_1470 hfx ⟨Nat.le_of_ble_eq_true rfl, Nat.le_of_ble_eq_true rfl⟩ ⟨by show cells + 2 ≤ 601024; omega, by show slots + 12 ≤ 7293034; omega⟩ hl.1 (Nat.le_of_ble_eq_true rfl) (dq tk_LW_13 38 rfl) (fun H locs hw => ?_)
    refine lv_istore (lv' := [(5, .int 0), (4, .int (nI (6 * k))), (0, .ref b), (1, .ref (Z.1 + 0)), (2, .ref (Z.1 + 566)), (3, .ref (Z.1 + 674))]) hx hb (dq tk_LW_13 39 rfl) hl (by decide) rfl (fun ls hl => ?_)
    refine lv_aload_n hx hb (dq tk_LW_13 40 rfl) rfl (lv_at hl 4 rfl) ?_
    refine lv_aload_n hx hb (dq tk_LW_13 41 rfl) rfl (lv_at hl 2 rfl) ?_
    refine lv_iload hx hb (dq tk_LW_13 42 rfl) (lv_at hl 1 rfl) ?_
    refine lv_iconst (v := 1) hx hb (dq tk_LW_13 43 rfl) (by decide) ?_
    refine lv_iadd hx hb (dq tk_LW_13 44 rfl) ?_
    refine l_sld hc hw hX hbl hbZ (k := 6 * k + 1) (a := a1) (nI_add (6 * k) 1) (by omega) hL ha1 (dq tk_LW_13 45 rfl) ?_
    refine lv_aload_n hx hb (dq tk_LW_13 46 rfl) rfl (lv_at hl 2 rfl) ?_
    refine lv_iload hx hb (dq tk_LW_13 47 rfl) (lv_at hl 1 rfl) ?_
    refine lv_iconst (v := 2) hx hb (dq tk_LW_13 48 rfl) (by decide) ?_
    refine lv_iadd hx hb (dq tk_LW_13 49 rfl) ?_
    refine l_sld hc hw hX hbl hbZ (k := 6 * k + 2) (a := a2) (nI_add (6 * k) 2) (by omega) hL ha2 (dq tk_LW_13 50 rfl) ?_
    refine K_M_paid hc hw lk_2427 hfm ⟨Nat.le_of_ble_eq_true rfl, Nat.le_of_ble_eq_true rfl⟩ ⟨by show cells + 2 ≤ 601024; omega, by show slots + 12 ≤ 7293034; omega⟩ hl.1 (Nat.le_of_ble_eq_true rfl) (dq tk_LW_13 51 rfl) (fun H locs hw _ => ?_)
    refine lv_istore (lv' := [(6, .int r), (5, .int 0), (4, .int (nI (6 * k))), (0, .ref b), (1, .ref (Z.1 + 0)), (2, .ref (Z.1 + 566)), (3, .ref (Z.1 + 674))]) hx hb (dq tk_LW_13 52 rfl) hl (by decide) rfl (fun ls hl => ?_)
    refine lv_aload_n hx hb (dq tk_LW_13 53 rfl) rfl (lv_at hl 5 rfl) ?_
    refine K_M_thrown hc hw lk_2085 hft ⟨Nat.le_of_ble_eq_true rfl, Nat.le_of_ble_eq_true rfl⟩ ⟨by show cells + 2 ≤ 601024; omega, by show slots + 12 ≤ 7293034; omega⟩ hl.1 (Nat.le_of_ble_eq_true rfl) (dq tk_LW_13 54 rfl) (fun H locs hw _ => ?_)
    refine lv_iload hx hb (dq tk_LW_13 55 rfl) (lv_at hl 1 rfl) ?_
    refine lv_icmp_eq (tgt := 1392) hx hb (dq tk_LW_13 56 rfl) (by decide) (fun _ => ?_) (fun g => absurd rfl g)
    refine lv_iload hx hb (dq tk_LW_13 59 rfl) (lv_at hl 1 rfl) ?_
    refine lv_if_ne (tgt := 1409) hx hb (dq tk_LW_14 0 rfl) (by decide) (fun g => absurd rfl g) (fun _ => ?_)
    refine lv_aload_n hx hb (dq tk_LW_14 1 rfl) rfl (lv_at hl 6 rfl) ?_
    refine lv_iconst (v := 0) hx hb (dq tk_LW_14 2 rfl) (by decide) ?_
    refine l_lald hc hw (v := r.toInt64) sJ_at (dq tk_LW_14 3 rfl) ?_
    refine lv_iload hx hb (dq tk_LW_14 4 rfl) (lv_at hl 0 rfl) ?_
    refine lv_i2l hx hb (dq tk_LW_14 5 rfl) rfl ?_
    refine W.lcmp hx hb (dq tk_LW_14 6 rfl) ?_
    refine tst (congrArg Value.int lg_cmp_self) ?_
    refine lv_if_eq (tgt := 1409) hx hb (dq tk_LW_14 7 rfl) (by decide) (fun _ => ?_) (fun g => absurd rfl g)
    refine lv_goto (tgt := 2404) hx hb (dq tk_LW_14 10 rfl) (by decide) ?_
    refine W.widen (k := cells + 3) (n := slots + 18) (by omega) (by omega) ?_
    exact kk _ _ _ _ _ (hLO.1 _ _ _ hI') hw (lv_sub hl [2, 3, 4, 5, 6] rfl)
set_option maxRecDepth 10000 in
theorem w_law_18 {N b L k : Nat} {xs : Nat → Int32} {Inv : St → St → Prop} (hLO : LawOk N Inv) (hst : l.stackTraces = false) (hc : Cxz p s m meth c #[Value.ref b] code "LabourExchangeLaw" 8 Z) (hX : va_X b L xs s s.heap) (hbl : b < s.heap.size) (hbZ : b < Z.1) (hL : L ≤ 3072) (hk : 6 * k + 6 ≤ L) (hI : Inv σ μ) (hcl0 : cells + 3 ≤ 601024 ∧ slots + 18 ≤ 7293034) {ls : Array Slot} (hw : Wd Z (cmb σ μ) s H locs) (hl : lv_has ls 8 [(4, .int (nI (6 * k))), (0, .ref b), (1, .ref (Z.1 + 0)), (2, .ref (Z.1 + 566)), (3, .ref (Z.1 + 674))])
    (kk : ∀ (σ1 μ1 : St) (H1 : Heap) (locs1 : List Loc) (ls1 : Array Slot), Inv σ1 μ1 → Wd Z (cmb σ1 μ1) s H1 locs1 → lv_has ls1 8 [(4, .int (nI (6 * k))), (0, .ref b), (1, .ref (Z.1 + 0)), (2, .ref (Z.1 + 566)), (3, .ref (Z.1 + 674))] → W p l e room_1 s m #[Value.ref b] below meth c H1 locs1 (cells + 3) (slots + 18) Q (F0 m 2404 ls1 [])) : W p l e room_1 s m #[Value.ref b] below meth c H locs cells slots Q (F0 m 1412 ls []) := by
  have hx := hc.hx
  have hb := hc.hb
  obtain ⟨h1, h2⟩ := hcl0
  obtain ⟨a1, ha1⟩ : ∃ a, xs (6 * k + 1) = a := ⟨_, rfl⟩
  obtain ⟨q, b0, μ', hfx, hfm, hft, hq, hI'⟩ := (hLO.2.2.2.2.2.2.2.2.2.2.2.2.2.2.2.2.2.2.2.1 σ μ a1 hI)
  cases q with
  | none =>
    replace hft : fM_thrown N μ' = some 1 := hft
    refine lv_aload_n hx hb (dq tk_LW_14 11 rfl) rfl (lv_at hl 2 rfl) ?_
    refine lv_aload_n hx hb (dq tk_LW_14 12 rfl) rfl (lv_at hl 1 rfl) ?_
    refine lv_iload hx hb (dq tk_LW_14 13 rfl) (lv_at hl 0 rfl) ?_
    refine lv_iconst (v := 1) hx hb (dq tk_LW_14 14 rfl) (by decide) ?_
    refine lv_iadd hx hb (dq tk_LW_14 15 rfl) ?_
    refine l_sld hc hw hX hbl hbZ (k := 6 * k + 1) (a := a1) (nI_add (6 * k) 1) (by omega) hL ha1 (dq tk_LW_14 16 rfl) ?_
    refine lv_aload_n hx hb (dq tk_LW_14 17 rfl) rfl (lv_at hl 4 rfl) ?_
    refine KL_fund_n hst hc hw lk_1477 hfx ⟨Nat.le_of_ble_eq_true rfl, Nat.le_of_ble_eq_true rfl⟩ ⟨by show cells + 1 ≤ 601024; omega, by show slots + 6 ≤ 7293034; omega⟩ hl.1 (Nat.le_of_ble_eq_true rfl) (dq tk_LW_14 18 rfl) (fun H locs hw => ?_)
    refine lv_istore (lv' := [(5, .int 1), (4, .int (nI (6 * k))), (0, .ref b), (1, .ref (Z.1 + 0)), (2, .ref (Z.1 + 566)), (3, .ref (Z.1 + 674))]) hx hb (dq tk_LW_14 19 rfl) hl (by decide) rfl (fun ls hl => ?_)
    refine lv_aload_n hx hb (dq tk_LW_14 20 rfl) rfl (lv_at hl 4 rfl) ?_
    refine lv_aload_n hx hb (dq tk_LW_14 21 rfl) rfl (lv_at hl 2 rfl) ?_
    refine lv_iload hx hb (dq tk_LW_14 22 rfl) (lv_at hl 1 rfl) ?_
    refine lv_iconst (v := 1) hx hb (dq tk_LW_14 23 rfl) (by decide) ?_
    refine lv_iadd hx hb (dq tk_LW_14 24 rfl) ?_
    refine l_sld hc hw hX hbl hbZ (k := 6 * k + 1) (a := a1) (nI_add (6 * k) 1) (by omega) hL ha1 (dq tk_LW_14 25 rfl) ?_
    refine K_M_fund hc hw lk_2431 hfm ⟨Nat.le_of_ble_eq_true rfl, Nat.le_of_ble_eq_true rfl⟩ ⟨by show cells + 1 ≤ 601024; omega, by show slots + 6 ≤ 7293034; omega⟩ hl.1 (Nat.le_of_ble_eq_true rfl) (dq tk_LW_14 26 rfl) (fun H locs hw _ => ?_)
    refine lv_istore (lv' := [(6, .int b0), (5, .int 1), (4, .int (nI (6 * k))), (0, .ref b), (1, .ref (Z.1 + 0)), (2, .ref (Z.1 + 566)), (3, .ref (Z.1 + 674))]) hx hb (dq tk_LW_14 27 rfl) hl (by decide) rfl (fun ls hl => ?_)
    refine lv_aload_n hx hb (dq tk_LW_14 28 rfl) rfl (lv_at hl 5 rfl) ?_
    refine K_M_thrown hc hw lk_2085 hft ⟨Nat.le_of_ble_eq_true rfl, Nat.le_of_ble_eq_true rfl⟩ ⟨by show cells + 1 ≤ 601024; omega, by show slots + 6 ≤ 7293034; omega⟩ hl.1 (Nat.le_of_ble_eq_true rfl) (dq tk_LW_14 29 rfl) (fun H locs hw _ => ?_)
    refine lv_iload hx hb (dq tk_LW_14 30 rfl) (lv_at hl 1 rfl) ?_
    refine lv_icmp_eq (tgt := 1448) hx hb (dq tk_LW_14 31 rfl) (by decide) (fun _ => ?_) (fun g => absurd rfl g)
    refine lv_iload hx hb (dq tk_LW_14 34 rfl) (lv_at hl 1 rfl) ?_
    refine lv_if_ne (tgt := 1465) hx hb (dq tk_LW_14 35 rfl) (by decide) (fun _ => ?_) (fun g => absurd g (by decide))
    refine lv_goto (tgt := 2404) hx hb (dq tk_LW_14 45 rfl) (by decide) ?_
    refine W.widen (k := cells + 3) (n := slots + 18) (by omega) (by omega) ?_
    exact kk _ _ _ _ _ hI' hw (lv_sub hl [2, 3, 4, 5, 6] rfl)
  | some r =>
    replace hft : fM_thrown N μ' = some 0 := hft
    obtain rfl : r = b0 := hq r rfl
    refine lv_aload_n hx hb (dq tk_LW_14 11 rfl) rfl (lv_at hl 2 rfl) ?_
    refine lv_aload_n hx hb (dq tk_LW_14 12 rfl) rfl (lv_at hl 1 rfl) ?_
    refine lv_iload hx hb (dq tk_LW_14 13 rfl) (lv_at hl 0 rfl) ?_
    refine lv_iconst (v := 1) hx hb (dq tk_LW_14 14 rfl) (by decide) ?_
    refine lv_iadd hx hb (dq tk_LW_14 15 rfl) ?_
    refine l_sld hc hw hX hbl hbZ (k := 6 * k + 1) (a := a1) (nI_add (6 * k) 1) (by omega) hL ha1 (dq tk_LW_14 16 rfl) ?_
    refine lv_aload_n hx hb (dq tk_LW_14 17 rfl) rfl (lv_at hl 4 rfl) ?_
    refine KL_fund_s hst hc hw lk_1477 hfx ⟨Nat.le_of_ble_eq_true rfl, Nat.le_of_ble_eq_true rfl⟩ ⟨by show cells + 1 ≤ 601024; omega, by show slots + 6 ≤ 7293034; omega⟩ hl.1 (Nat.le_of_ble_eq_true rfl) (dq tk_LW_14 18 rfl) (fun H locs hw => ?_)
    refine lv_istore (lv' := [(5, .int 0), (4, .int (nI (6 * k))), (0, .ref b), (1, .ref (Z.1 + 0)), (2, .ref (Z.1 + 566)), (3, .ref (Z.1 + 674))]) hx hb (dq tk_LW_14 19 rfl) hl (by decide) rfl (fun ls hl => ?_)
    refine lv_aload_n hx hb (dq tk_LW_14 20 rfl) rfl (lv_at hl 4 rfl) ?_
    refine lv_aload_n hx hb (dq tk_LW_14 21 rfl) rfl (lv_at hl 2 rfl) ?_
    refine lv_iload hx hb (dq tk_LW_14 22 rfl) (lv_at hl 1 rfl) ?_
    refine lv_iconst (v := 1) hx hb (dq tk_LW_14 23 rfl) (by decide) ?_
    refine lv_iadd hx hb (dq tk_LW_14 24 rfl) ?_
    refine l_sld hc hw hX hbl hbZ (k := 6 * k + 1) (a := a1) (nI_add (6 * k) 1) (by omega) hL ha1 (dq tk_LW_14 25 rfl) ?_
    refine K_M_fund hc hw lk_2431 hfm ⟨Nat.le_of_ble_eq_true rfl, Nat.le_of_ble_eq_true rfl⟩ ⟨by show cells + 1 ≤ 601024; omega, by show slots + 6 ≤ 7293034; omega⟩ hl.1 (Nat.le_of_ble_eq_true rfl) (dq tk_LW_14 26 rfl) (fun H locs hw _ => ?_)
    refine lv_istore (lv' := [(6, .int r), (5, .int 0), (4, .int (nI (6 * k))), (0, .ref b), (1, .ref (Z.1 + 0)), (2, .ref (Z.1 + 566)), (3, .ref (Z.1 + 674))]) hx hb (dq tk_LW_14 27 rfl) hl (by decide) rfl (fun ls hl => ?_)
    refine lv_aload_n hx hb (dq tk_LW_14 28 rfl) rfl (lv_at hl 5 rfl) ?_
    refine K_M_thrown hc hw lk_2085 hft ⟨Nat.le_of_ble_eq_true rfl, Nat.le_of_ble_eq_true rfl⟩ ⟨by show cells + 1 ≤ 601024; omega, by show slots + 6 ≤ 7293034; omega⟩ hl.1 (Nat.le_of_ble_eq_true rfl) (dq tk_LW_14 29 rfl) (fun H locs hw _ => ?_)
    refine lv_iload hx hb (dq tk_LW_14 30 rfl) (lv_at hl 1 rfl) ?_
    refine lv_icmp_eq (tgt := 1448) hx hb (dq tk_LW_14 31 rfl) (by decide) (fun _ => ?_) (fun g => absurd rfl g)
    refine lv_iload hx hb (dq tk_LW_14 34 rfl) (lv_at hl 1 rfl) ?_
    refine lv_if_ne (tgt := 1465) hx hb (dq tk_LW_14 35 rfl) (by decide) (fun g => absurd rfl g) (fun _ => ?_)
    refine lv_aload_n hx hb (dq tk_LW_14 36 rfl) rfl (lv_at hl 6 rfl) ?_
    refine lv_iconst (v := 0) hx hb (dq tk_LW_14 37 rfl) (by decide) ?_
    refine l_lald hc hw (v := r.toInt64) sJ_at (dq tk_LW_14 38 rfl) ?_
    refine lv_iload hx hb (dq tk_LW_14 39 rfl) (lv_at hl 0 rfl) ?_
    refine lv_i2l hx hb (dq tk_LW_14 40 rfl) rfl ?_
    refine W.lcmp hx hb (dq tk_LW_14 41 rfl) ?_
    refine tst (congrArg Value.int lg_cmp_self) ?_
    refine lv_if_eq (tgt := 1465) hx hb (dq tk_LW_14 42 rfl) (by decide) (fun _ => ?_) (fun g => absurd rfl g)
    refine lv_goto (tgt := 2404) hx hb (dq tk_LW_14 45 rfl) (by decide) ?_
    refine W.widen (k := cells + 3) (n := slots + 18) (by omega) (by omega) ?_
    exact kk _ _ _ _ _ (hLO.1 _ _ _ hI') hw (lv_sub hl [2, 3, 4, 5, 6] rfl)
set_option maxRecDepth 10000 in
theorem w_law_19 {N b L k : Nat} {xs : Nat → Int32} {Inv : St → St → Prop} (hLO : LawOk N Inv) (hst : l.stackTraces = false) (hc : Cxz p s m meth c #[Value.ref b] code "LabourExchangeLaw" 8 Z) (hX : va_X b L xs s s.heap) (hbl : b < s.heap.size) (hbZ : b < Z.1) (hL : L ≤ 3072) (hk : 6 * k + 6 ≤ L) (hI : Inv σ μ) (hcl0 : cells + 3 ≤ 601024 ∧ slots + 18 ≤ 7293034) {ls : Array Slot} (hw : Wd Z (cmb σ μ) s H locs) (hl : lv_has ls 8 [(4, .int (nI (6 * k))), (0, .ref b), (1, .ref (Z.1 + 0)), (2, .ref (Z.1 + 566)), (3, .ref (Z.1 + 674))])
    (kk : ∀ (σ1 μ1 : St) (H1 : Heap) (locs1 : List Loc) (ls1 : Array Slot), Inv σ1 μ1 → Wd Z (cmb σ1 μ1) s H1 locs1 → lv_has ls1 8 [(4, .int (nI (6 * k))), (0, .ref b), (1, .ref (Z.1 + 0)), (2, .ref (Z.1 + 566)), (3, .ref (Z.1 + 674))] → W p l e room_1 s m #[Value.ref b] below meth c H1 locs1 (cells + 3) (slots + 18) Q (F0 m 2404 ls1 [])) : W p l e room_1 s m #[Value.ref b] below meth c H locs cells slots Q (F0 m 1468 ls []) := by
  have hx := hc.hx
  have hb := hc.hb
  obtain ⟨h1, h2⟩ := hcl0
  obtain ⟨a1, ha1⟩ : ∃ a, xs (6 * k + 1) = a := ⟨_, rfl⟩
  obtain ⟨a2, ha2⟩ : ∃ a, xs (6 * k + 2) = a := ⟨_, rfl⟩
  obtain ⟨a3, ha3⟩ : ∃ a, xs (6 * k + 3) = a := ⟨_, rfl⟩
  obtain ⟨a4, ha4⟩ : ∃ a, xs (6 * k + 4) = a := ⟨_, rfl⟩
  obtain ⟨r, σ', μ', hfx, hfm, hI'⟩ := (hLO.2.2.2.2.2.2.2.2.2.2.2.2.2.2.2.2.2.2.2.2.1 σ μ a1 a2 a3 a4 hI)
  refine lv_aload_n hx hb (dq tk_LW_14 46 rfl) rfl (lv_at hl 2 rfl) ?_
  refine lv_aload_n hx hb (dq tk_LW_14 47 rfl) rfl (lv_at hl 1 rfl) ?_
  refine lv_iload hx hb (dq tk_LW_14 48 rfl) (lv_at hl 0 rfl) ?_
  refine lv_iconst (v := 1) hx hb (dq tk_LW_14 49 rfl) (by decide) ?_
  refine lv_iadd hx hb (dq tk_LW_14 50 rfl) ?_
  refine l_sld hc hw hX hbl hbZ (k := 6 * k + 1) (a := a1) (nI_add (6 * k) 1) (by omega) hL ha1 (dq tk_LW_14 51 rfl) ?_
  refine lv_aload_n hx hb (dq tk_LW_14 52 rfl) rfl (lv_at hl 1 rfl) ?_
  refine lv_iload hx hb (dq tk_LW_14 53 rfl) (lv_at hl 0 rfl) ?_
  refine lv_iconst (v := 2) hx hb (dq tk_LW_14 54 rfl) (by decide) ?_
  refine lv_iadd hx hb (dq tk_LW_14 55 rfl) ?_
  refine l_sld hc hw hX hbl hbZ (k := 6 * k + 2) (a := a2) (nI_add (6 * k) 2) (by omega) hL ha2 (dq tk_LW_14 56 rfl) ?_
  refine lv_aload_n hx hb (dq tk_LW_14 57 rfl) rfl (lv_at hl 1 rfl) ?_
  refine lv_iload hx hb (dq tk_LW_14 58 rfl) (lv_at hl 0 rfl) ?_
  refine lv_iconst (v := 3) hx hb (dq tk_LW_14 59 rfl) (by decide) ?_
  refine lv_iadd hx hb (dq tk_LW_15 0 rfl) ?_
  refine l_sld hc hw hX hbl hbZ (k := 6 * k + 3) (a := a3) (nI_add (6 * k) 3) (by omega) hL ha3 (dq tk_LW_15 1 rfl) ?_
  refine lv_aload_n hx hb (dq tk_LW_15 2 rfl) rfl (lv_at hl 1 rfl) ?_
  refine lv_iload hx hb (dq tk_LW_15 3 rfl) (lv_at hl 0 rfl) ?_
  refine lv_iconst (v := 4) hx hb (dq tk_LW_15 4 rfl) (by decide) ?_
  refine lv_iadd hx hb (dq tk_LW_15 5 rfl) ?_
  refine l_sld hc hw hX hbl hbZ (k := 6 * k + 4) (a := a4) (nI_add (6 * k) 4) (by omega) hL ha4 (dq tk_LW_15 6 rfl) ?_
  refine K_X_vacancy hc hw lk_728 hfx ⟨Nat.le_of_ble_eq_true rfl, Nat.le_of_ble_eq_true rfl⟩ ⟨by show cells ≤ 601024; omega, by show slots ≤ 7293034; omega⟩ hl.1 (Nat.le_of_ble_eq_true rfl) (dq tk_LW_15 7 rfl) (fun H locs hw _ => ?_)
  refine lv_aload_n hx hb (dq tk_LW_15 8 rfl) rfl (lv_at hl 3 rfl) ?_
  refine lv_aload_n hx hb (dq tk_LW_15 9 rfl) rfl (lv_at hl 1 rfl) ?_
  refine lv_iload hx hb (dq tk_LW_15 10 rfl) (lv_at hl 0 rfl) ?_
  refine lv_iconst (v := 1) hx hb (dq tk_LW_15 11 rfl) (by decide) ?_
  refine lv_iadd hx hb (dq tk_LW_15 12 rfl) ?_
  refine l_sld hc hw hX hbl hbZ (k := 6 * k + 1) (a := a1) (nI_add (6 * k) 1) (by omega) hL ha1 (dq tk_LW_15 13 rfl) ?_
  refine lv_aload_n hx hb (dq tk_LW_15 14 rfl) rfl (lv_at hl 1 rfl) ?_
  refine lv_iload hx hb (dq tk_LW_15 15 rfl) (lv_at hl 0 rfl) ?_
  refine lv_iconst (v := 2) hx hb (dq tk_LW_15 16 rfl) (by decide) ?_
  refine lv_iadd hx hb (dq tk_LW_15 17 rfl) ?_
  refine l_sld hc hw hX hbl hbZ (k := 6 * k + 2) (a := a2) (nI_add (6 * k) 2) (by omega) hL ha2 (dq tk_LW_15 18 rfl) ?_
  refine lv_aload_n hx hb (dq tk_LW_15 19 rfl) rfl (lv_at hl 1 rfl) ?_
  refine lv_iload hx hb (dq tk_LW_15 20 rfl) (lv_at hl 0 rfl) ?_
  refine lv_iconst (v := 3) hx hb (dq tk_LW_15 21 rfl) (by decide) ?_
  refine lv_iadd hx hb (dq tk_LW_15 22 rfl) ?_
  refine l_sld hc hw hX hbl hbZ (k := 6 * k + 3) (a := a3) (nI_add (6 * k) 3) (by omega) hL ha3 (dq tk_LW_15 23 rfl) ?_
  refine lv_aload_n hx hb (dq tk_LW_15 24 rfl) rfl (lv_at hl 1 rfl) ?_
  refine lv_iload hx hb (dq tk_LW_15 25 rfl) (lv_at hl 0 rfl) ?_
  refine lv_iconst (v := 4) hx hb (dq tk_LW_15 26 rfl) (by decide) ?_
  refine lv_iadd hx hb (dq tk_LW_15 27 rfl) ?_
  refine l_sld hc hw hX hbl hbZ (k := 6 * k + 4) (a := a4) (nI_add (6 * k) 4) (by omega) hL ha4 (dq tk_LW_15 28 rfl) ?_
  refine K_M_vacancy hc hw lk_2442 hfm ⟨Nat.le_of_ble_eq_true rfl, Nat.le_of_ble_eq_true rfl⟩ ⟨by show cells ≤ 601024; omega, by show slots ≤ 7293034; omega⟩ hl.1 (Nat.le_of_ble_eq_true rfl) (dq tk_LW_15 29 rfl) (fun H locs hw _ => ?_)
  refine lv_icmp_eq (tgt := 2404) hx hb (dq tk_LW_15 30 rfl) (by decide) (fun _ => ?_) (fun g => absurd rfl g)
  refine W.widen (k := cells + 3) (n := slots + 18) (by omega) (by omega) ?_
  exact kk _ _ _ _ _ hI' hw (lv_sub hl [0, 1, 2, 3, 4] rfl)
set_option maxRecDepth 10000 in
theorem w_law_20 {N b L k : Nat} {xs : Nat → Int32} {Inv : St → St → Prop} (hLO : LawOk N Inv) (hst : l.stackTraces = false) (hc : Cxz p s m meth c #[Value.ref b] code "LabourExchangeLaw" 8 Z) (hX : va_X b L xs s s.heap) (hbl : b < s.heap.size) (hbZ : b < Z.1) (hL : L ≤ 3072) (hk : 6 * k + 6 ≤ L) (hI : Inv σ μ) (hcl0 : cells + 3 ≤ 601024 ∧ slots + 18 ≤ 7293034) {ls : Array Slot} (hw : Wd Z (cmb σ μ) s H locs) (hl : lv_has ls 8 [(4, .int (nI (6 * k))), (0, .ref b), (1, .ref (Z.1 + 0)), (2, .ref (Z.1 + 566)), (3, .ref (Z.1 + 674))])
    (kk : ∀ (σ1 μ1 : St) (H1 : Heap) (locs1 : List Loc) (ls1 : Array Slot), Inv σ1 μ1 → Wd Z (cmb σ1 μ1) s H1 locs1 → lv_has ls1 8 [(4, .int (nI (6 * k))), (0, .ref b), (1, .ref (Z.1 + 0)), (2, .ref (Z.1 + 566)), (3, .ref (Z.1 + 674))] → W p l e room_1 s m #[Value.ref b] below meth c H1 locs1 (cells + 3) (slots + 18) Q (F0 m 2404 ls1 [])) : W p l e room_1 s m #[Value.ref b] below meth c H locs cells slots Q (F0 m 1529 ls []) := by
  have hx := hc.hx
  have hb := hc.hb
  obtain ⟨h1, h2⟩ := hcl0
  obtain ⟨a1, ha1⟩ : ∃ a, xs (6 * k + 1) = a := ⟨_, rfl⟩
  obtain ⟨a2, ha2⟩ : ∃ a, xs (6 * k + 2) = a := ⟨_, rfl⟩
  obtain ⟨q, b0, μ', hfx, hfm, hft, hq, hI'⟩ := (hLO.2.2.2.2.2.2.2.2.2.2.2.2.2.2.2.2.2.2.2.2.2.1 σ μ a1 a2 hI)
  cases q with
  | none =>
    replace hft : fM_thrown N μ' = some 1 := hft
    refine lv_aload_n hx hb (dq tk_LW_15 33 rfl) rfl (lv_at hl 2 rfl) ?_
    refine lv_aload_n hx hb (dq tk_LW_15 34 rfl) rfl (lv_at hl 1 rfl) ?_
    refine lv_iload hx hb (dq tk_LW_15 35 rfl) (lv_at hl 0 rfl) ?_
    refine lv_iconst (v := 1) hx hb (dq tk_LW_15 36 rfl) (by decide) ?_
    refine lv_iadd hx hb (dq tk_LW_15 37 rfl) ?_
    refine l_sld hc hw hX hbl hbZ (k := 6 * k + 1) (a := a1) (nI_add (6 * k) 1) (by omega) hL ha1 (dq tk_LW_15 38 rfl) ?_
    refine lv_aload_n hx hb (dq tk_LW_15 39 rfl) rfl (lv_at hl 1 rfl) ?_
    refine lv_iload hx hb (dq tk_LW_15 40 rfl) (lv_at hl 0 rfl) ?_
    refine lv_iconst (v := 2) hx hb (dq tk_LW_15 41 rfl) (by decide) ?_
    refine lv_iadd hx hb (dq tk_LW_15 42 rfl) ?_
    refine l_sld hc hw hX hbl hbZ (k := 6 * k + 2) (a := a2) (nI_add (6 * k) 2) (by omega) hL ha2 (dq tk_LW_15 43 rfl) ?_
    refine lv_aload_n hx hb (dq tk_LW_15 44 rfl) rfl (lv_at hl 4 rfl) ?_
    refine KL_known_n hst hc hw lk_1492 hfx ⟨Nat.le_of_ble_eq_true rfl, Nat.le_of_ble_eq_true rfl⟩ ⟨by show cells + 2 ≤ 601024; omega, by show slots + 12 ≤ 7293034; omega⟩ hl.1 (Nat.le_of_ble_eq_true rfl) (dq tk_LW_15 45 rfl) (fun H locs hw => ?_)
    refine lv_istore (lv' := [(5, .int 1), (4, .int (nI (6 * k))), (0, .ref b), (1, .ref (Z.1 + 0)), (2, .ref (Z.1 + 566)), (3, .ref (Z.1 + 674))]) hx hb (dq tk_LW_15 46 rfl) hl (by decide) rfl (fun ls hl => ?_)
    refine lv_aload_n hx hb (dq tk_LW_15 47 rfl) rfl (lv_at hl 4 rfl) ?_
    refine lv_aload_n hx hb (dq tk_LW_15 48 rfl) rfl (lv_at hl 2 rfl) ?_
    refine lv_iload hx hb (dq tk_LW_15 49 rfl) (lv_at hl 1 rfl) ?_
    refine lv_iconst (v := 1) hx hb (dq tk_LW_15 50 rfl) (by decide) ?_
    refine lv_iadd hx hb (dq tk_LW_15 51 rfl) ?_
    refine l_sld hc hw hX hbl hbZ (k := 6 * k + 1) (a := a1) (nI_add (6 * k) 1) (by omega) hL ha1 (dq tk_LW_15 52 rfl) ?_
    refine lv_aload_n hx hb (dq tk_LW_15 53 rfl) rfl (lv_at hl 2 rfl) ?_
    refine lv_iload hx hb (dq tk_LW_15 54 rfl) (lv_at hl 1 rfl) ?_
    refine lv_iconst (v := 2) hx hb (dq tk_LW_15 55 rfl) (by decide) ?_
    refine lv_iadd hx hb (dq tk_LW_15 56 rfl) ?_
    refine l_sld hc hw hX hbl hbZ (k := 6 * k + 2) (a := a2) (nI_add (6 * k) 2) (by omega) hL ha2 (dq tk_LW_15 57 rfl) ?_
    refine K_M_known hc hw lk_2446 hfm ⟨Nat.le_of_ble_eq_true rfl, Nat.le_of_ble_eq_true rfl⟩ ⟨by show cells + 2 ≤ 601024; omega, by show slots + 12 ≤ 7293034; omega⟩ hl.1 (Nat.le_of_ble_eq_true rfl) (dq tk_LW_15 58 rfl) (fun H locs hw _ => ?_)
    refine lv_istore (lv' := [(6, .int b0), (5, .int 1), (4, .int (nI (6 * k))), (0, .ref b), (1, .ref (Z.1 + 0)), (2, .ref (Z.1 + 566)), (3, .ref (Z.1 + 674))]) hx hb (dq tk_LW_15 59 rfl) hl (by decide) rfl (fun ls hl => ?_)
    refine lv_aload_n hx hb (dq tk_LW_16 0 rfl) rfl (lv_at hl 5 rfl) ?_
    refine K_M_thrown hc hw lk_2085 hft ⟨Nat.le_of_ble_eq_true rfl, Nat.le_of_ble_eq_true rfl⟩ ⟨by show cells + 2 ≤ 601024; omega, by show slots + 12 ≤ 7293034; omega⟩ hl.1 (Nat.le_of_ble_eq_true rfl) (dq tk_LW_16 1 rfl) (fun H locs hw _ => ?_)
    refine lv_iload hx hb (dq tk_LW_16 2 rfl) (lv_at hl 1 rfl) ?_
    refine lv_icmp_eq (tgt := 1577) hx hb (dq tk_LW_16 3 rfl) (by decide) (fun _ => ?_) (fun g => absurd rfl g)
    refine lv_iload hx hb (dq tk_LW_16 6 rfl) (lv_at hl 1 rfl) ?_
    refine lv_if_ne (tgt := 1594) hx hb (dq tk_LW_16 7 rfl) (by decide) (fun _ => ?_) (fun g => absurd g (by decide))
    refine lv_goto (tgt := 2404) hx hb (dq tk_LW_16 17 rfl) (by decide) ?_
    refine W.widen (k := cells + 3) (n := slots + 18) (by omega) (by omega) ?_
    exact kk _ _ _ _ _ hI' hw (lv_sub hl [2, 3, 4, 5, 6] rfl)
  | some r =>
    replace hft : fM_thrown N μ' = some 0 := hft
    obtain rfl : r = b0 := hq r rfl
    refine lv_aload_n hx hb (dq tk_LW_15 33 rfl) rfl (lv_at hl 2 rfl) ?_
    refine lv_aload_n hx hb (dq tk_LW_15 34 rfl) rfl (lv_at hl 1 rfl) ?_
    refine lv_iload hx hb (dq tk_LW_15 35 rfl) (lv_at hl 0 rfl) ?_
    refine lv_iconst (v := 1) hx hb (dq tk_LW_15 36 rfl) (by decide) ?_
    refine lv_iadd hx hb (dq tk_LW_15 37 rfl) ?_
    refine l_sld hc hw hX hbl hbZ (k := 6 * k + 1) (a := a1) (nI_add (6 * k) 1) (by omega) hL ha1 (dq tk_LW_15 38 rfl) ?_
    refine lv_aload_n hx hb (dq tk_LW_15 39 rfl) rfl (lv_at hl 1 rfl) ?_
    refine lv_iload hx hb (dq tk_LW_15 40 rfl) (lv_at hl 0 rfl) ?_
    refine lv_iconst (v := 2) hx hb (dq tk_LW_15 41 rfl) (by decide) ?_
    refine lv_iadd hx hb (dq tk_LW_15 42 rfl) ?_
    refine l_sld hc hw hX hbl hbZ (k := 6 * k + 2) (a := a2) (nI_add (6 * k) 2) (by omega) hL ha2 (dq tk_LW_15 43 rfl) ?_
    refine lv_aload_n hx hb (dq tk_LW_15 44 rfl) rfl (lv_at hl 4 rfl) ?_
    refine KL_known_s hst hc hw lk_1492 hfx ⟨Nat.le_of_ble_eq_true rfl, Nat.le_of_ble_eq_true rfl⟩ ⟨by show cells + 2 ≤ 601024; omega, by show slots + 12 ≤ 7293034; omega⟩ hl.1 (Nat.le_of_ble_eq_true rfl) (dq tk_LW_15 45 rfl) (fun H locs hw => ?_)
    refine lv_istore (lv' := [(5, .int 0), (4, .int (nI (6 * k))), (0, .ref b), (1, .ref (Z.1 + 0)), (2, .ref (Z.1 + 566)), (3, .ref (Z.1 + 674))]) hx hb (dq tk_LW_15 46 rfl) hl (by decide) rfl (fun ls hl => ?_)
    refine lv_aload_n hx hb (dq tk_LW_15 47 rfl) rfl (lv_at hl 4 rfl) ?_
    refine lv_aload_n hx hb (dq tk_LW_15 48 rfl) rfl (lv_at hl 2 rfl) ?_
    refine lv_iload hx hb (dq tk_LW_15 49 rfl) (lv_at hl 1 rfl) ?_
    refine lv_iconst (v := 1) hx hb (dq tk_LW_15 50 rfl) (by decide) ?_
    refine lv_iadd hx hb (dq tk_LW_15 51 rfl) ?_
    refine l_sld hc hw hX hbl hbZ (k := 6 * k + 1) (a := a1) (nI_add (6 * k) 1) (by omega) hL ha1 (dq tk_LW_15 52 rfl) ?_
    refine lv_aload_n hx hb (dq tk_LW_15 53 rfl) rfl (lv_at hl 2 rfl) ?_
    refine lv_iload hx hb (dq tk_LW_15 54 rfl) (lv_at hl 1 rfl) ?_
    refine lv_iconst (v := 2) hx hb (dq tk_LW_15 55 rfl) (by decide) ?_
    refine lv_iadd hx hb (dq tk_LW_15 56 rfl) ?_
    refine l_sld hc hw hX hbl hbZ (k := 6 * k + 2) (a := a2) (nI_add (6 * k) 2) (by omega) hL ha2 (dq tk_LW_15 57 rfl) ?_
    refine K_M_known hc hw lk_2446 hfm ⟨Nat.le_of_ble_eq_true rfl, Nat.le_of_ble_eq_true rfl⟩ ⟨by show cells + 2 ≤ 601024; omega, by show slots + 12 ≤ 7293034; omega⟩ hl.1 (Nat.le_of_ble_eq_true rfl) (dq tk_LW_15 58 rfl) (fun H locs hw _ => ?_)
    refine lv_istore (lv' := [(6, .int r), (5, .int 0), (4, .int (nI (6 * k))), (0, .ref b), (1, .ref (Z.1 + 0)), (2, .ref (Z.1 + 566)), (3, .ref (Z.1 + 674))]) hx hb (dq tk_LW_15 59 rfl) hl (by decide) rfl (fun ls hl => ?_)
    refine lv_aload_n hx hb (dq tk_LW_16 0 rfl) rfl (lv_at hl 5 rfl) ?_
    refine K_M_thrown hc hw lk_2085 hft ⟨Nat.le_of_ble_eq_true rfl, Nat.le_of_ble_eq_true rfl⟩ ⟨by show cells + 2 ≤ 601024; omega, by show slots + 12 ≤ 7293034; omega⟩ hl.1 (Nat.le_of_ble_eq_true rfl) (dq tk_LW_16 1 rfl) (fun H locs hw _ => ?_)
    refine lv_iload hx hb (dq tk_LW_16 2 rfl) (lv_at hl 1 rfl) ?_
    refine lv_icmp_eq (tgt := 1577) hx hb (dq tk_LW_16 3 rfl) (by decide) (fun _ => ?_) (fun g => absurd rfl g)
    refine lv_iload hx hb (dq tk_LW_16 6 rfl) (lv_at hl 1 rfl) ?_
    refine lv_if_ne (tgt := 1594) hx hb (dq tk_LW_16 7 rfl) (by decide) (fun g => absurd rfl g) (fun _ => ?_)
    refine lv_aload_n hx hb (dq tk_LW_16 8 rfl) rfl (lv_at hl 6 rfl) ?_
    refine lv_iconst (v := 0) hx hb (dq tk_LW_16 9 rfl) (by decide) ?_
    refine l_lald hc hw (v := r.toInt64) sJ_at (dq tk_LW_16 10 rfl) ?_
    refine lv_iload hx hb (dq tk_LW_16 11 rfl) (lv_at hl 0 rfl) ?_
    refine lv_i2l hx hb (dq tk_LW_16 12 rfl) rfl ?_
    refine W.lcmp hx hb (dq tk_LW_16 13 rfl) ?_
    refine tst (congrArg Value.int lg_cmp_self) ?_
    refine lv_if_eq (tgt := 1594) hx hb (dq tk_LW_16 14 rfl) (by decide) (fun _ => ?_) (fun g => absurd rfl g)
    refine lv_goto (tgt := 2404) hx hb (dq tk_LW_16 17 rfl) (by decide) ?_
    refine W.widen (k := cells + 3) (n := slots + 18) (by omega) (by omega) ?_
    exact kk _ _ _ _ _ (hLO.1 _ _ _ hI') hw (lv_sub hl [2, 3, 4, 5, 6] rfl)
set_option maxRecDepth 10000 in
theorem w_law_21 {N b L k : Nat} {xs : Nat → Int32} {Inv : St → St → Prop} (hLO : LawOk N Inv) (hst : l.stackTraces = false) (hc : Cxz p s m meth c #[Value.ref b] code "LabourExchangeLaw" 8 Z) (hX : va_X b L xs s s.heap) (hbl : b < s.heap.size) (hbZ : b < Z.1) (hL : L ≤ 3072) (hk : 6 * k + 6 ≤ L) (hI : Inv σ μ) (hcl0 : cells + 3 ≤ 601024 ∧ slots + 18 ≤ 7293034) {ls : Array Slot} (hw : Wd Z (cmb σ μ) s H locs) (hl : lv_has ls 8 [(4, .int (nI (6 * k))), (0, .ref b), (1, .ref (Z.1 + 0)), (2, .ref (Z.1 + 566)), (3, .ref (Z.1 + 674))])
    (kk : ∀ (σ1 μ1 : St) (H1 : Heap) (locs1 : List Loc) (ls1 : Array Slot), Inv σ1 μ1 → Wd Z (cmb σ1 μ1) s H1 locs1 → lv_has ls1 8 [(4, .int (nI (6 * k))), (0, .ref b), (1, .ref (Z.1 + 0)), (2, .ref (Z.1 + 566)), (3, .ref (Z.1 + 674))] → W p l e room_1 s m #[Value.ref b] below meth c H1 locs1 (cells + 3) (slots + 18) Q (F0 m 2404 ls1 [])) : W p l e room_1 s m #[Value.ref b] below meth c H locs cells slots Q (F0 m 1597 ls []) := by
  have hx := hc.hx
  have hb := hc.hb
  obtain ⟨h1, h2⟩ := hcl0
  obtain ⟨a1, ha1⟩ : ∃ a, xs (6 * k + 1) = a := ⟨_, rfl⟩
  obtain ⟨a2, ha2⟩ : ∃ a, xs (6 * k + 2) = a := ⟨_, rfl⟩
  obtain ⟨q, σ', b0, μ', hfx, hfm, hft, hq, hI'⟩ := (hLO.2.2.2.2.2.2.2.2.2.2.2.2.2.2.2.2.2.2.2.2.2.2.1 σ μ a1 a2 hI)
  cases q with
  | none =>
    replace hft : fM_thrown N μ' = some 1 := hft
    refine lv_aload_n hx hb (dq tk_LW_16 18 rfl) rfl (lv_at hl 2 rfl) ?_
    refine lv_aload_n hx hb (dq tk_LW_16 19 rfl) rfl (lv_at hl 1 rfl) ?_
    refine lv_iload hx hb (dq tk_LW_16 20 rfl) (lv_at hl 0 rfl) ?_
    refine lv_iconst (v := 1) hx hb (dq tk_LW_16 21 rfl) (by decide) ?_
    refine lv_iadd hx hb (dq tk_LW_16 22 rfl) ?_
    refine l_sld hc hw hX hbl hbZ (k := 6 * k + 1) (a := a1) (nI_add (6 * k) 1) (by omega) hL ha1 (dq tk_LW_16 23 rfl) ?_
    refine lv_aload_n hx hb (dq tk_LW_16 24 rfl) rfl (lv_at hl 1 rfl) ?_
    refine lv_iload hx hb (dq tk_LW_16 25 rfl) (lv_at hl 0 rfl) ?_
    refine lv_iconst (v := 2) hx hb (dq tk_LW_16 26 rfl) (by decide) ?_
    refine lv_iadd hx hb (dq tk_LW_16 27 rfl) ?_
    refine l_sld hc hw hX hbl hbZ (k := 6 * k + 2) (a := a2) (nI_add (6 * k) 2) (by omega) hL ha2 (dq tk_LW_16 28 rfl) ?_
    refine lv_aload_n hx hb (dq tk_LW_16 29 rfl) rfl (lv_at hl 4 rfl) ?_
    refine KL_offer_n hst hc hw lk_1500 hfx ⟨Nat.le_of_ble_eq_true rfl, Nat.le_of_ble_eq_true rfl⟩ ⟨by show cells + 2 ≤ 601024; omega, by show slots + 12 ≤ 7293034; omega⟩ hl.1 (Nat.le_of_ble_eq_true rfl) (dq tk_LW_16 30 rfl) (fun H locs hw => ?_)
    refine lv_istore (lv' := [(5, .int 1), (4, .int (nI (6 * k))), (0, .ref b), (1, .ref (Z.1 + 0)), (2, .ref (Z.1 + 566)), (3, .ref (Z.1 + 674))]) hx hb (dq tk_LW_16 31 rfl) hl (by decide) rfl (fun ls hl => ?_)
    refine lv_aload_n hx hb (dq tk_LW_16 32 rfl) rfl (lv_at hl 4 rfl) ?_
    refine lv_aload_n hx hb (dq tk_LW_16 33 rfl) rfl (lv_at hl 2 rfl) ?_
    refine lv_iload hx hb (dq tk_LW_16 34 rfl) (lv_at hl 1 rfl) ?_
    refine lv_iconst (v := 1) hx hb (dq tk_LW_16 35 rfl) (by decide) ?_
    refine lv_iadd hx hb (dq tk_LW_16 36 rfl) ?_
    refine l_sld hc hw hX hbl hbZ (k := 6 * k + 1) (a := a1) (nI_add (6 * k) 1) (by omega) hL ha1 (dq tk_LW_16 37 rfl) ?_
    refine lv_aload_n hx hb (dq tk_LW_16 38 rfl) rfl (lv_at hl 2 rfl) ?_
    refine lv_iload hx hb (dq tk_LW_16 39 rfl) (lv_at hl 1 rfl) ?_
    refine lv_iconst (v := 2) hx hb (dq tk_LW_16 40 rfl) (by decide) ?_
    refine lv_iadd hx hb (dq tk_LW_16 41 rfl) ?_
    refine l_sld hc hw hX hbl hbZ (k := 6 * k + 2) (a := a2) (nI_add (6 * k) 2) (by omega) hL ha2 (dq tk_LW_16 42 rfl) ?_
    refine K_M_offer hc hw lk_2458 hfm ⟨Nat.le_of_ble_eq_true rfl, Nat.le_of_ble_eq_true rfl⟩ ⟨by show cells + 2 ≤ 601024; omega, by show slots + 12 ≤ 7293034; omega⟩ hl.1 (Nat.le_of_ble_eq_true rfl) (dq tk_LW_16 43 rfl) (fun H locs hw _ => ?_)
    refine lv_istore (lv' := [(6, .int b0), (5, .int 1), (4, .int (nI (6 * k))), (0, .ref b), (1, .ref (Z.1 + 0)), (2, .ref (Z.1 + 566)), (3, .ref (Z.1 + 674))]) hx hb (dq tk_LW_16 44 rfl) hl (by decide) rfl (fun ls hl => ?_)
    refine lv_aload_n hx hb (dq tk_LW_16 45 rfl) rfl (lv_at hl 5 rfl) ?_
    refine K_M_thrown hc hw lk_2085 hft ⟨Nat.le_of_ble_eq_true rfl, Nat.le_of_ble_eq_true rfl⟩ ⟨by show cells + 2 ≤ 601024; omega, by show slots + 12 ≤ 7293034; omega⟩ hl.1 (Nat.le_of_ble_eq_true rfl) (dq tk_LW_16 46 rfl) (fun H locs hw _ => ?_)
    refine lv_iload hx hb (dq tk_LW_16 47 rfl) (lv_at hl 1 rfl) ?_
    refine lv_icmp_eq (tgt := 1645) hx hb (dq tk_LW_16 48 rfl) (by decide) (fun _ => ?_) (fun g => absurd rfl g)
    refine lv_iload hx hb (dq tk_LW_16 51 rfl) (lv_at hl 1 rfl) ?_
    refine lv_if_ne (tgt := 1662) hx hb (dq tk_LW_16 52 rfl) (by decide) (fun _ => ?_) (fun g => absurd g (by decide))
    refine lv_goto (tgt := 2404) hx hb (dq tk_LW_17 2 rfl) (by decide) ?_
    refine W.widen (k := cells + 3) (n := slots + 18) (by omega) (by omega) ?_
    exact kk _ _ _ _ _ hI' hw (lv_sub hl [2, 3, 4, 5, 6] rfl)
  | some r =>
    replace hft : fM_thrown N μ' = some 0 := hft
    obtain rfl : r = b0 := hq r rfl
    refine lv_aload_n hx hb (dq tk_LW_16 18 rfl) rfl (lv_at hl 2 rfl) ?_
    refine lv_aload_n hx hb (dq tk_LW_16 19 rfl) rfl (lv_at hl 1 rfl) ?_
    refine lv_iload hx hb (dq tk_LW_16 20 rfl) (lv_at hl 0 rfl) ?_
    refine lv_iconst (v := 1) hx hb (dq tk_LW_16 21 rfl) (by decide) ?_
    refine lv_iadd hx hb (dq tk_LW_16 22 rfl) ?_
    refine l_sld hc hw hX hbl hbZ (k := 6 * k + 1) (a := a1) (nI_add (6 * k) 1) (by omega) hL ha1 (dq tk_LW_16 23 rfl) ?_
    refine lv_aload_n hx hb (dq tk_LW_16 24 rfl) rfl (lv_at hl 1 rfl) ?_
    refine lv_iload hx hb (dq tk_LW_16 25 rfl) (lv_at hl 0 rfl) ?_
    refine lv_iconst (v := 2) hx hb (dq tk_LW_16 26 rfl) (by decide) ?_
    refine lv_iadd hx hb (dq tk_LW_16 27 rfl) ?_
    refine l_sld hc hw hX hbl hbZ (k := 6 * k + 2) (a := a2) (nI_add (6 * k) 2) (by omega) hL ha2 (dq tk_LW_16 28 rfl) ?_
    refine lv_aload_n hx hb (dq tk_LW_16 29 rfl) rfl (lv_at hl 4 rfl) ?_
    refine KL_offer_s hst hc hw lk_1500 hfx ⟨Nat.le_of_ble_eq_true rfl, Nat.le_of_ble_eq_true rfl⟩ ⟨by show cells + 2 ≤ 601024; omega, by show slots + 12 ≤ 7293034; omega⟩ hl.1 (Nat.le_of_ble_eq_true rfl) (dq tk_LW_16 30 rfl) (fun H locs hw => ?_)
    refine lv_istore (lv' := [(5, .int 0), (4, .int (nI (6 * k))), (0, .ref b), (1, .ref (Z.1 + 0)), (2, .ref (Z.1 + 566)), (3, .ref (Z.1 + 674))]) hx hb (dq tk_LW_16 31 rfl) hl (by decide) rfl (fun ls hl => ?_)
    refine lv_aload_n hx hb (dq tk_LW_16 32 rfl) rfl (lv_at hl 4 rfl) ?_
    refine lv_aload_n hx hb (dq tk_LW_16 33 rfl) rfl (lv_at hl 2 rfl) ?_
    refine lv_iload hx hb (dq tk_LW_16 34 rfl) (lv_at hl 1 rfl) ?_
    refine lv_iconst (v := 1) hx hb (dq tk_LW_16 35 rfl) (by decide) ?_
    refine lv_iadd hx hb (dq tk_LW_16 36 rfl) ?_
    refine l_sld hc hw hX hbl hbZ (k := 6 * k + 1) (a := a1) (nI_add (6 * k) 1) (by omega) hL ha1 (dq tk_LW_16 37 rfl) ?_
    refine lv_aload_n hx hb (dq tk_LW_16 38 rfl) rfl (lv_at hl 2 rfl) ?_
    refine lv_iload hx hb (dq tk_LW_16 39 rfl) (lv_at hl 1 rfl) ?_
    refine lv_iconst (v := 2) hx hb (dq tk_LW_16 40 rfl) (by decide) ?_
    refine lv_iadd hx hb (dq tk_LW_16 41 rfl) ?_
    refine l_sld hc hw hX hbl hbZ (k := 6 * k + 2) (a := a2) (nI_add (6 * k) 2) (by omega) hL ha2 (dq tk_LW_16 42 rfl) ?_
    refine K_M_offer hc hw lk_2458 hfm ⟨Nat.le_of_ble_eq_true rfl, Nat.le_of_ble_eq_true rfl⟩ ⟨by show cells + 2 ≤ 601024; omega, by show slots + 12 ≤ 7293034; omega⟩ hl.1 (Nat.le_of_ble_eq_true rfl) (dq tk_LW_16 43 rfl) (fun H locs hw _ => ?_)
    refine lv_istore (lv' := [(6, .int r), (5, .int 0), (4, .int (nI (6 * k))), (0, .ref b), (1, .ref (Z.1 + 0)), (2, .ref (Z.1 + 566)), (3, .ref (Z.1 + 674))]) hx hb (dq tk_LW_16 44 rfl) hl (by decide) rfl (fun ls hl => ?_)
    refine lv_aload_n hx hb (dq tk_LW_16 45 rfl) rfl (lv_at hl 5 rfl) ?_
    refine K_M_thrown hc hw lk_2085 hft ⟨Nat.le_of_ble_eq_true rfl, Nat.le_of_ble_eq_true rfl⟩ ⟨by show cells + 2 ≤ 601024; omega, by show slots + 12 ≤ 7293034; omega⟩ hl.1 (Nat.le_of_ble_eq_true rfl) (dq tk_LW_16 46 rfl) (fun H locs hw _ => ?_)
    refine lv_iload hx hb (dq tk_LW_16 47 rfl) (lv_at hl 1 rfl) ?_
    refine lv_icmp_eq (tgt := 1645) hx hb (dq tk_LW_16 48 rfl) (by decide) (fun _ => ?_) (fun g => absurd rfl g)
    refine lv_iload hx hb (dq tk_LW_16 51 rfl) (lv_at hl 1 rfl) ?_
    refine lv_if_ne (tgt := 1662) hx hb (dq tk_LW_16 52 rfl) (by decide) (fun g => absurd rfl g) (fun _ => ?_)
    refine lv_aload_n hx hb (dq tk_LW_16 53 rfl) rfl (lv_at hl 6 rfl) ?_
    refine lv_iconst (v := 0) hx hb (dq tk_LW_16 54 rfl) (by decide) ?_
    refine l_lald hc hw (v := r.toInt64) sJ_at (dq tk_LW_16 55 rfl) ?_
    refine lv_iload hx hb (dq tk_LW_16 56 rfl) (lv_at hl 0 rfl) ?_
    refine lv_i2l hx hb (dq tk_LW_16 57 rfl) rfl ?_
    refine W.lcmp hx hb (dq tk_LW_16 58 rfl) ?_
    refine tst (congrArg Value.int lg_cmp_self) ?_
    refine lv_if_eq (tgt := 1662) hx hb (dq tk_LW_16 59 rfl) (by decide) (fun _ => ?_) (fun g => absurd rfl g)
    refine lv_goto (tgt := 2404) hx hb (dq tk_LW_17 2 rfl) (by decide) ?_
    refine W.widen (k := cells + 3) (n := slots + 18) (by omega) (by omega) ?_
    exact kk _ _ _ _ _ (hLO.1 _ _ _ hI') hw (lv_sub hl [2, 3, 4, 5, 6] rfl)
set_option maxRecDepth 10000 in
theorem w_law_22 {N b L k : Nat} {xs : Nat → Int32} {Inv : St → St → Prop} (hLO : LawOk N Inv) (hst : l.stackTraces = false) (hc : Cxz p s m meth c #[Value.ref b] code "LabourExchangeLaw" 8 Z) (hX : va_X b L xs s s.heap) (hbl : b < s.heap.size) (hbZ : b < Z.1) (hL : L ≤ 3072) (hk : 6 * k + 6 ≤ L) (hI : Inv σ μ) (hcl0 : cells + 3 ≤ 601024 ∧ slots + 18 ≤ 7293034) {ls : Array Slot} (hw : Wd Z (cmb σ μ) s H locs) (hl : lv_has ls 8 [(4, .int (nI (6 * k))), (0, .ref b), (1, .ref (Z.1 + 0)), (2, .ref (Z.1 + 566)), (3, .ref (Z.1 + 674))])
    (kk : ∀ (σ1 μ1 : St) (H1 : Heap) (locs1 : List Loc) (ls1 : Array Slot), Inv σ1 μ1 → Wd Z (cmb σ1 μ1) s H1 locs1 → lv_has ls1 8 [(4, .int (nI (6 * k))), (0, .ref b), (1, .ref (Z.1 + 0)), (2, .ref (Z.1 + 566)), (3, .ref (Z.1 + 674))] → W p l e room_1 s m #[Value.ref b] below meth c H1 locs1 (cells + 3) (slots + 18) Q (F0 m 2404 ls1 [])) : W p l e room_1 s m #[Value.ref b] below meth c H locs cells slots Q (F0 m 1665 ls []) := by
  have hx := hc.hx
  have hb := hc.hb
  obtain ⟨h1, h2⟩ := hcl0
  obtain ⟨a1, ha1⟩ : ∃ a, xs (6 * k + 1) = a := ⟨_, rfl⟩
  obtain ⟨a2, ha2⟩ : ∃ a, xs (6 * k + 2) = a := ⟨_, rfl⟩
  obtain ⟨q, b0, μ', hfx, hfm, hft, hq, hI'⟩ := (hLO.2.2.2.2.2.2.2.2.2.2.2.2.2.2.2.2.2.2.2.2.2.2.2.1 σ μ a1 a2 hI)
  cases q with
  | none =>
    replace hft : fM_thrown N μ' = some 1 := hft
    refine lv_aload_n hx hb (dq tk_LW_17 3 rfl) rfl (lv_at hl 2 rfl) ?_
    refine lv_aload_n hx hb (dq tk_LW_17 4 rfl) rfl (lv_at hl 1 rfl) ?_
    refine lv_iload hx hb (dq tk_LW_17 5 rfl) (lv_at hl 0 rfl) ?_
    refine lv_iconst (v := 1) hx hb (dq tk_LW_17 6 rfl) (by decide) ?_
    refine lv_iadd hx hb (dq tk_LW_17 7 rfl) ?_
    refine l_sld hc hw hX hbl hbZ (k := 6 * k + 1) (a := a1) (nI_add (6 * k) 1) (by omega) hL ha1 (dq tk_LW_17 8 rfl) ?_
    refine lv_aload_n hx hb (dq tk_LW_17 9 rfl) rfl (lv_at hl 1 rfl) ?_
    refine lv_iload hx hb (dq tk_LW_17 10 rfl) (lv_at hl 0 rfl) ?_
    refine lv_iconst (v := 2) hx hb (dq tk_LW_17 11 rfl) (by decide) ?_
    refine lv_iadd hx hb (dq tk_LW_17 12 rfl) ?_
    refine l_sld hc hw hX hbl hbZ (k := 6 * k + 2) (a := a2) (nI_add (6 * k) 2) (by omega) hL ha2 (dq tk_LW_17 13 rfl) ?_
    refine lv_aload_n hx hb (dq tk_LW_17 14 rfl) rfl (lv_at hl 4 rfl) ?_
    refine KL_offerOf_n hst hc hw lk_1512 hfx ⟨Nat.le_of_ble_eq_true rfl, Nat.le_of_ble_eq_true rfl⟩ ⟨by show cells + 2 ≤ 601024; omega, by show slots + 12 ≤ 7293034; omega⟩ hl.1 (Nat.le_of_ble_eq_true rfl) (dq tk_LW_17 15 rfl) (fun H locs hw => ?_)
    refine lv_istore (lv' := [(5, .int 1), (4, .int (nI (6 * k))), (0, .ref b), (1, .ref (Z.1 + 0)), (2, .ref (Z.1 + 566)), (3, .ref (Z.1 + 674))]) hx hb (dq tk_LW_17 16 rfl) hl (by decide) rfl (fun ls hl => ?_)
    refine lv_aload_n hx hb (dq tk_LW_17 17 rfl) rfl (lv_at hl 4 rfl) ?_
    refine lv_aload_n hx hb (dq tk_LW_17 18 rfl) rfl (lv_at hl 2 rfl) ?_
    refine lv_iload hx hb (dq tk_LW_17 19 rfl) (lv_at hl 1 rfl) ?_
    refine lv_iconst (v := 1) hx hb (dq tk_LW_17 20 rfl) (by decide) ?_
    refine lv_iadd hx hb (dq tk_LW_17 21 rfl) ?_
    refine l_sld hc hw hX hbl hbZ (k := 6 * k + 1) (a := a1) (nI_add (6 * k) 1) (by omega) hL ha1 (dq tk_LW_17 22 rfl) ?_
    refine lv_aload_n hx hb (dq tk_LW_17 23 rfl) rfl (lv_at hl 2 rfl) ?_
    refine lv_iload hx hb (dq tk_LW_17 24 rfl) (lv_at hl 1 rfl) ?_
    refine lv_iconst (v := 2) hx hb (dq tk_LW_17 25 rfl) (by decide) ?_
    refine lv_iadd hx hb (dq tk_LW_17 26 rfl) ?_
    refine l_sld hc hw hX hbl hbZ (k := 6 * k + 2) (a := a2) (nI_add (6 * k) 2) (by omega) hL ha2 (dq tk_LW_17 27 rfl) ?_
    refine K_M_offerOf hc hw lk_2470 hfm ⟨Nat.le_of_ble_eq_true rfl, Nat.le_of_ble_eq_true rfl⟩ ⟨by show cells + 2 ≤ 601024; omega, by show slots + 12 ≤ 7293034; omega⟩ hl.1 (Nat.le_of_ble_eq_true rfl) (dq tk_LW_17 28 rfl) (fun H locs hw _ => ?_)
    refine lv_istore (lv' := [(6, .int b0), (5, .int 1), (4, .int (nI (6 * k))), (0, .ref b), (1, .ref (Z.1 + 0)), (2, .ref (Z.1 + 566)), (3, .ref (Z.1 + 674))]) hx hb (dq tk_LW_17 29 rfl) hl (by decide) rfl (fun ls hl => ?_)
    refine lv_aload_n hx hb (dq tk_LW_17 30 rfl) rfl (lv_at hl 5 rfl) ?_
    refine K_M_thrown hc hw lk_2085 hft ⟨Nat.le_of_ble_eq_true rfl, Nat.le_of_ble_eq_true rfl⟩ ⟨by show cells + 2 ≤ 601024; omega, by show slots + 12 ≤ 7293034; omega⟩ hl.1 (Nat.le_of_ble_eq_true rfl) (dq tk_LW_17 31 rfl) (fun H locs hw _ => ?_)
    refine lv_iload hx hb (dq tk_LW_17 32 rfl) (lv_at hl 1 rfl) ?_
    refine lv_icmp_eq (tgt := 1713) hx hb (dq tk_LW_17 33 rfl) (by decide) (fun _ => ?_) (fun g => absurd rfl g)
    refine lv_iload hx hb (dq tk_LW_17 36 rfl) (lv_at hl 1 rfl) ?_
    refine lv_if_ne (tgt := 1730) hx hb (dq tk_LW_17 37 rfl) (by decide) (fun _ => ?_) (fun g => absurd g (by decide))
    refine lv_goto (tgt := 2404) hx hb (dq tk_LW_17 47 rfl) (by decide) ?_
    refine W.widen (k := cells + 3) (n := slots + 18) (by omega) (by omega) ?_
    exact kk _ _ _ _ _ hI' hw (lv_sub hl [2, 3, 4, 5, 6] rfl)
  | some r =>
    replace hft : fM_thrown N μ' = some 0 := hft
    obtain rfl : r = b0 := hq r rfl
    refine lv_aload_n hx hb (dq tk_LW_17 3 rfl) rfl (lv_at hl 2 rfl) ?_
    refine lv_aload_n hx hb (dq tk_LW_17 4 rfl) rfl (lv_at hl 1 rfl) ?_
    refine lv_iload hx hb (dq tk_LW_17 5 rfl) (lv_at hl 0 rfl) ?_
    refine lv_iconst (v := 1) hx hb (dq tk_LW_17 6 rfl) (by decide) ?_
    refine lv_iadd hx hb (dq tk_LW_17 7 rfl) ?_
    refine l_sld hc hw hX hbl hbZ (k := 6 * k + 1) (a := a1) (nI_add (6 * k) 1) (by omega) hL ha1 (dq tk_LW_17 8 rfl) ?_
    refine lv_aload_n hx hb (dq tk_LW_17 9 rfl) rfl (lv_at hl 1 rfl) ?_
    refine lv_iload hx hb (dq tk_LW_17 10 rfl) (lv_at hl 0 rfl) ?_
    refine lv_iconst (v := 2) hx hb (dq tk_LW_17 11 rfl) (by decide) ?_
    refine lv_iadd hx hb (dq tk_LW_17 12 rfl) ?_
    refine l_sld hc hw hX hbl hbZ (k := 6 * k + 2) (a := a2) (nI_add (6 * k) 2) (by omega) hL ha2 (dq tk_LW_17 13 rfl) ?_
    refine lv_aload_n hx hb (dq tk_LW_17 14 rfl) rfl (lv_at hl 4 rfl) ?_
    refine KL_offerOf_s hst hc hw lk_1512 hfx ⟨Nat.le_of_ble_eq_true rfl, Nat.le_of_ble_eq_true rfl⟩ ⟨by show cells + 2 ≤ 601024; omega, by show slots + 12 ≤ 7293034; omega⟩ hl.1 (Nat.le_of_ble_eq_true rfl) (dq tk_LW_17 15 rfl) (fun H locs hw => ?_)
    refine lv_istore (lv' := [(5, .int 0), (4, .int (nI (6 * k))), (0, .ref b), (1, .ref (Z.1 + 0)), (2, .ref (Z.1 + 566)), (3, .ref (Z.1 + 674))]) hx hb (dq tk_LW_17 16 rfl) hl (by decide) rfl (fun ls hl => ?_)
    refine lv_aload_n hx hb (dq tk_LW_17 17 rfl) rfl (lv_at hl 4 rfl) ?_
    refine lv_aload_n hx hb (dq tk_LW_17 18 rfl) rfl (lv_at hl 2 rfl) ?_
    refine lv_iload hx hb (dq tk_LW_17 19 rfl) (lv_at hl 1 rfl) ?_
    refine lv_iconst (v := 1) hx hb (dq tk_LW_17 20 rfl) (by decide) ?_
    refine lv_iadd hx hb (dq tk_LW_17 21 rfl) ?_
    refine l_sld hc hw hX hbl hbZ (k := 6 * k + 1) (a := a1) (nI_add (6 * k) 1) (by omega) hL ha1 (dq tk_LW_17 22 rfl) ?_
    refine lv_aload_n hx hb (dq tk_LW_17 23 rfl) rfl (lv_at hl 2 rfl) ?_
    refine lv_iload hx hb (dq tk_LW_17 24 rfl) (lv_at hl 1 rfl) ?_
    refine lv_iconst (v := 2) hx hb (dq tk_LW_17 25 rfl) (by decide) ?_
    refine lv_iadd hx hb (dq tk_LW_17 26 rfl) ?_
    refine l_sld hc hw hX hbl hbZ (k := 6 * k + 2) (a := a2) (nI_add (6 * k) 2) (by omega) hL ha2 (dq tk_LW_17 27 rfl) ?_
    refine K_M_offerOf hc hw lk_2470 hfm ⟨Nat.le_of_ble_eq_true rfl, Nat.le_of_ble_eq_true rfl⟩ ⟨by show cells + 2 ≤ 601024; omega, by show slots + 12 ≤ 7293034; omega⟩ hl.1 (Nat.le_of_ble_eq_true rfl) (dq tk_LW_17 28 rfl) (fun H locs hw _ => ?_)
    refine lv_istore (lv' := [(6, .int r), (5, .int 0), (4, .int (nI (6 * k))), (0, .ref b), (1, .ref (Z.1 + 0)), (2, .ref (Z.1 + 566)), (3, .ref (Z.1 + 674))]) hx hb (dq tk_LW_17 29 rfl) hl (by decide) rfl (fun ls hl => ?_)
    refine lv_aload_n hx hb (dq tk_LW_17 30 rfl) rfl (lv_at hl 5 rfl) ?_
    refine K_M_thrown hc hw lk_2085 hft ⟨Nat.le_of_ble_eq_true rfl, Nat.le_of_ble_eq_true rfl⟩ ⟨by show cells + 2 ≤ 601024; omega, by show slots + 12 ≤ 7293034; omega⟩ hl.1 (Nat.le_of_ble_eq_true rfl) (dq tk_LW_17 31 rfl) (fun H locs hw _ => ?_)
    refine lv_iload hx hb (dq tk_LW_17 32 rfl) (lv_at hl 1 rfl) ?_
    refine lv_icmp_eq (tgt := 1713) hx hb (dq tk_LW_17 33 rfl) (by decide) (fun _ => ?_) (fun g => absurd rfl g)
    refine lv_iload hx hb (dq tk_LW_17 36 rfl) (lv_at hl 1 rfl) ?_
    refine lv_if_ne (tgt := 1730) hx hb (dq tk_LW_17 37 rfl) (by decide) (fun g => absurd rfl g) (fun _ => ?_)
    refine lv_aload_n hx hb (dq tk_LW_17 38 rfl) rfl (lv_at hl 6 rfl) ?_
    refine lv_iconst (v := 0) hx hb (dq tk_LW_17 39 rfl) (by decide) ?_
    refine l_lald hc hw (v := r.toInt64) sJ_at (dq tk_LW_17 40 rfl) ?_
    refine lv_iload hx hb (dq tk_LW_17 41 rfl) (lv_at hl 0 rfl) ?_
    refine lv_i2l hx hb (dq tk_LW_17 42 rfl) rfl ?_
    refine W.lcmp hx hb (dq tk_LW_17 43 rfl) ?_
    refine tst (congrArg Value.int lg_cmp_self) ?_
    refine lv_if_eq (tgt := 1730) hx hb (dq tk_LW_17 44 rfl) (by decide) (fun _ => ?_) (fun g => absurd rfl g)
    refine lv_goto (tgt := 2404) hx hb (dq tk_LW_17 47 rfl) (by decide) ?_
    refine W.widen (k := cells + 3) (n := slots + 18) (by omega) (by omega) ?_
    exact kk _ _ _ _ _ (hLO.1 _ _ _ hI') hw (lv_sub hl [2, 3, 4, 5, 6] rfl)
set_option maxRecDepth 10000 in
theorem w_law_23 {N b L k : Nat} {xs : Nat → Int32} {Inv : St → St → Prop} (hLO : LawOk N Inv) (hst : l.stackTraces = false) (hc : Cxz p s m meth c #[Value.ref b] code "LabourExchangeLaw" 8 Z) (hX : va_X b L xs s s.heap) (hbl : b < s.heap.size) (hbZ : b < Z.1) (hL : L ≤ 3072) (hk : 6 * k + 6 ≤ L) (hI : Inv σ μ) (hcl0 : cells + 3 ≤ 601024 ∧ slots + 18 ≤ 7293034) {ls : Array Slot} (hw : Wd Z (cmb σ μ) s H locs) (hl : lv_has ls 8 [(4, .int (nI (6 * k))), (0, .ref b), (1, .ref (Z.1 + 0)), (2, .ref (Z.1 + 566)), (3, .ref (Z.1 + 674))])
    (kk : ∀ (σ1 μ1 : St) (H1 : Heap) (locs1 : List Loc) (ls1 : Array Slot), Inv σ1 μ1 → Wd Z (cmb σ1 μ1) s H1 locs1 → lv_has ls1 8 [(4, .int (nI (6 * k))), (0, .ref b), (1, .ref (Z.1 + 0)), (2, .ref (Z.1 + 566)), (3, .ref (Z.1 + 674))] → W p l e room_1 s m #[Value.ref b] below meth c H1 locs1 (cells + 3) (slots + 18) Q (F0 m 2404 ls1 [])) : W p l e room_1 s m #[Value.ref b] below meth c H locs cells slots Q (F0 m 1733 ls []) := by
  have hx := hc.hx
  have hb := hc.hb
  obtain ⟨h1, h2⟩ := hcl0
  obtain ⟨a1, ha1⟩ : ∃ a, xs (6 * k + 1) = a := ⟨_, rfl⟩
  obtain ⟨a2, ha2⟩ : ∃ a, xs (6 * k + 2) = a := ⟨_, rfl⟩
  by_cases hz : a2 = 0
  · skip
    obtain ⟨q, σ', b0, μ', hfx, hfm, hft, hq, hI'⟩ := (hLO.2.2.2.2.2.2.2.2.2.2.2.2.2.2.2.2.2.2.2.2.2.2.2.2.1 σ μ a1 0 hI (Or.inl rfl))
    cases q with
    | none =>
      replace hft : fM_thrown N μ' = some 1 := hft
      refine lv_aload_n hx hb (dq tk_LW_17 48 rfl) rfl (lv_at hl 2 rfl) ?_
      refine lv_aload_n hx hb (dq tk_LW_17 49 rfl) rfl (lv_at hl 1 rfl) ?_
      refine lv_iload hx hb (dq tk_LW_17 50 rfl) (lv_at hl 0 rfl) ?_
      refine lv_iconst (v := 1) hx hb (dq tk_LW_17 51 rfl) (by decide) ?_
      refine lv_iadd hx hb (dq tk_LW_17 52 rfl) ?_
      refine l_sld hc hw hX hbl hbZ (k := 6 * k + 1) (a := a1) (nI_add (6 * k) 1) (by omega) hL ha1 (dq tk_LW_17 53 rfl) ?_
      refine lv_aload_n hx hb (dq tk_LW_17 54 rfl) rfl (lv_at hl 1 rfl) ?_
      refine lv_iload hx hb (dq tk_LW_17 55 rfl) (lv_at hl 0 rfl) ?_
      refine lv_iconst (v := 2) hx hb (dq tk_LW_17 56 rfl) (by decide) ?_
      refine lv_iadd hx hb (dq tk_LW_17 57 rfl) ?_
      refine l_sld hc hw hX hbl hbZ (k := 6 * k + 2) (a := a2) (nI_add (6 * k) 2) (by omega) hL ha2 (dq tk_LW_17 58 rfl) ?_
      refine lv_if_eq (tgt := 1753) hx hb (dq tk_LW_17 59 rfl) (by decide) (fun _ => ?_) (fun g => absurd hz g)
      refine lv_iconst (v := 0) hx hb (dq tk_LW_18 2 rfl) (by decide) ?_
      refine lv_aload_n hx hb (dq tk_LW_18 3 rfl) rfl (lv_at hl 4 rfl) ?_
      refine KL_answer_n hst hc hw lk_1519 hfx ⟨Nat.le_of_ble_eq_true rfl, Nat.le_of_ble_eq_true rfl⟩ ⟨by show cells + 1 ≤ 601024; omega, by show slots + 6 ≤ 7293034; omega⟩ hl.1 (Nat.le_of_ble_eq_true rfl) (dq tk_LW_18 4 rfl) (fun H locs hw => ?_)
      refine lv_istore (lv' := [(5, .int 1), (4, .int (nI (6 * k))), (0, .ref b), (1, .ref (Z.1 + 0)), (2, .ref (Z.1 + 566)), (3, .ref (Z.1 + 674))]) hx hb (dq tk_LW_18 5 rfl) hl (by decide) rfl (fun ls hl => ?_)
      refine lv_aload_n hx hb (dq tk_LW_18 6 rfl) rfl (lv_at hl 4 rfl) ?_
      refine lv_aload_n hx hb (dq tk_LW_18 7 rfl) rfl (lv_at hl 2 rfl) ?_
      refine lv_iload hx hb (dq tk_LW_18 8 rfl) (lv_at hl 1 rfl) ?_
      refine lv_iconst (v := 1) hx hb (dq tk_LW_18 9 rfl) (by decide) ?_
      refine lv_iadd hx hb (dq tk_LW_18 10 rfl) ?_
      refine l_sld hc hw hX hbl hbZ (k := 6 * k + 1) (a := a1) (nI_add (6 * k) 1) (by omega) hL ha1 (dq tk_LW_18 11 rfl) ?_
      refine lv_aload_n hx hb (dq tk_LW_18 12 rfl) rfl (lv_at hl 2 rfl) ?_
      refine lv_iload hx hb (dq tk_LW_18 13 rfl) (lv_at hl 1 rfl) ?_
      refine lv_iconst (v := 2) hx hb (dq tk_LW_18 14 rfl) (by decide) ?_
      refine lv_iadd hx hb (dq tk_LW_18 15 rfl) ?_
      refine l_sld hc hw hX hbl hbZ (k := 6 * k + 2) (a := a2) (nI_add (6 * k) 2) (by omega) hL ha2 (dq tk_LW_18 16 rfl) ?_
      refine lv_if_eq (tgt := 1780) hx hb (dq tk_LW_18 17 rfl) (by decide) (fun _ => ?_) (fun g => absurd hz g)
      refine lv_iconst (v := 0) hx hb (dq tk_LW_18 20 rfl) (by decide) ?_
      refine K_M_answer hc hw lk_2474 hfm ⟨Nat.le_of_ble_eq_true rfl, Nat.le_of_ble_eq_true rfl⟩ ⟨by show cells + 1 ≤ 601024; omega, by show slots + 6 ≤ 7293034; omega⟩ hl.1 (Nat.le_of_ble_eq_true rfl) (dq tk_LW_18 21 rfl) (fun H locs hw _ => ?_)
      refine lv_istore (lv' := [(6, .int b0), (5, .int 1), (4, .int (nI (6 * k))), (0, .ref b), (1, .ref (Z.1 + 0)), (2, .ref (Z.1 + 566)), (3, .ref (Z.1 + 674))]) hx hb (dq tk_LW_18 22 rfl) hl (by decide) rfl (fun ls hl => ?_)
      refine lv_aload_n hx hb (dq tk_LW_18 23 rfl) rfl (lv_at hl 5 rfl) ?_
      refine K_M_thrown hc hw lk_2085 hft ⟨Nat.le_of_ble_eq_true rfl, Nat.le_of_ble_eq_true rfl⟩ ⟨by show cells + 1 ≤ 601024; omega, by show slots + 6 ≤ 7293034; omega⟩ hl.1 (Nat.le_of_ble_eq_true rfl) (dq tk_LW_18 24 rfl) (fun H locs hw _ => ?_)
      refine lv_iload hx hb (dq tk_LW_18 25 rfl) (lv_at hl 1 rfl) ?_
      refine lv_icmp_eq (tgt := 1797) hx hb (dq tk_LW_18 26 rfl) (by decide) (fun _ => ?_) (fun g => absurd rfl g)
      refine lv_iload hx hb (dq tk_LW_18 29 rfl) (lv_at hl 1 rfl) ?_
      refine lv_if_ne (tgt := 1814) hx hb (dq tk_LW_18 30 rfl) (by decide) (fun _ => ?_) (fun g => absurd g (by decide))
      refine lv_goto (tgt := 2404) hx hb (dq tk_LW_18 40 rfl) (by decide) ?_
      refine W.widen (k := cells + 3) (n := slots + 18) (by omega) (by omega) ?_
      exact kk _ _ _ _ _ hI' hw (lv_sub hl [2, 3, 4, 5, 6] rfl)
    | some r =>
      replace hft : fM_thrown N μ' = some 0 := hft
      obtain rfl : r = b0 := hq r rfl
      refine lv_aload_n hx hb (dq tk_LW_17 48 rfl) rfl (lv_at hl 2 rfl) ?_
      refine lv_aload_n hx hb (dq tk_LW_17 49 rfl) rfl (lv_at hl 1 rfl) ?_
      refine lv_iload hx hb (dq tk_LW_17 50 rfl) (lv_at hl 0 rfl) ?_
      refine lv_iconst (v := 1) hx hb (dq tk_LW_17 51 rfl) (by decide) ?_
      refine lv_iadd hx hb (dq tk_LW_17 52 rfl) ?_
      refine l_sld hc hw hX hbl hbZ (k := 6 * k + 1) (a := a1) (nI_add (6 * k) 1) (by omega) hL ha1 (dq tk_LW_17 53 rfl) ?_
      refine lv_aload_n hx hb (dq tk_LW_17 54 rfl) rfl (lv_at hl 1 rfl) ?_
      refine lv_iload hx hb (dq tk_LW_17 55 rfl) (lv_at hl 0 rfl) ?_
      refine lv_iconst (v := 2) hx hb (dq tk_LW_17 56 rfl) (by decide) ?_
      refine lv_iadd hx hb (dq tk_LW_17 57 rfl) ?_
      refine l_sld hc hw hX hbl hbZ (k := 6 * k + 2) (a := a2) (nI_add (6 * k) 2) (by omega) hL ha2 (dq tk_LW_17 58 rfl) ?_
      refine lv_if_eq (tgt := 1753) hx hb (dq tk_LW_17 59 rfl) (by decide) (fun _ => ?_) (fun g => absurd hz g)
      refine lv_iconst (v := 0) hx hb (dq tk_LW_18 2 rfl) (by decide) ?_
      refine lv_aload_n hx hb (dq tk_LW_18 3 rfl) rfl (lv_at hl 4 rfl) ?_
      refine KL_answer_s hst hc hw lk_1519 hfx ⟨Nat.le_of_ble_eq_true rfl, Nat.le_of_ble_eq_true rfl⟩ ⟨by show cells + 1 ≤ 601024; omega, by show slots + 6 ≤ 7293034; omega⟩ hl.1 (Nat.le_of_ble_eq_true rfl) (dq tk_LW_18 4 rfl) (fun H locs hw => ?_)
      refine lv_istore (lv' := [(5, .int 0), (4, .int (nI (6 * k))), (0, .ref b), (1, .ref (Z.1 + 0)), (2, .ref (Z.1 + 566)), (3, .ref (Z.1 + 674))]) hx hb (dq tk_LW_18 5 rfl) hl (by decide) rfl (fun ls hl => ?_)
      refine lv_aload_n hx hb (dq tk_LW_18 6 rfl) rfl (lv_at hl 4 rfl) ?_
      refine lv_aload_n hx hb (dq tk_LW_18 7 rfl) rfl (lv_at hl 2 rfl) ?_
      refine lv_iload hx hb (dq tk_LW_18 8 rfl) (lv_at hl 1 rfl) ?_
      refine lv_iconst (v := 1) hx hb (dq tk_LW_18 9 rfl) (by decide) ?_
      refine lv_iadd hx hb (dq tk_LW_18 10 rfl) ?_
      refine l_sld hc hw hX hbl hbZ (k := 6 * k + 1) (a := a1) (nI_add (6 * k) 1) (by omega) hL ha1 (dq tk_LW_18 11 rfl) ?_
      refine lv_aload_n hx hb (dq tk_LW_18 12 rfl) rfl (lv_at hl 2 rfl) ?_
      refine lv_iload hx hb (dq tk_LW_18 13 rfl) (lv_at hl 1 rfl) ?_
      refine lv_iconst (v := 2) hx hb (dq tk_LW_18 14 rfl) (by decide) ?_
      refine lv_iadd hx hb (dq tk_LW_18 15 rfl) ?_
      refine l_sld hc hw hX hbl hbZ (k := 6 * k + 2) (a := a2) (nI_add (6 * k) 2) (by omega) hL ha2 (dq tk_LW_18 16 rfl) ?_
      refine lv_if_eq (tgt := 1780) hx hb (dq tk_LW_18 17 rfl) (by decide) (fun _ => ?_) (fun g => absurd hz g)
      refine lv_iconst (v := 0) hx hb (dq tk_LW_18 20 rfl) (by decide) ?_
      refine K_M_answer hc hw lk_2474 hfm ⟨Nat.le_of_ble_eq_true rfl, Nat.le_of_ble_eq_true rfl⟩ ⟨by show cells + 1 ≤ 601024; omega, by show slots + 6 ≤ 7293034; omega⟩ hl.1 (Nat.le_of_ble_eq_true rfl) (dq tk_LW_18 21 rfl) (fun H locs hw _ => ?_)
      refine lv_istore (lv' := [(6, .int r), (5, .int 0), (4, .int (nI (6 * k))), (0, .ref b), (1, .ref (Z.1 + 0)), (2, .ref (Z.1 + 566)), (3, .ref (Z.1 + 674))]) hx hb (dq tk_LW_18 22 rfl) hl (by decide) rfl (fun ls hl => ?_)
      refine lv_aload_n hx hb (dq tk_LW_18 23 rfl) rfl (lv_at hl 5 rfl) ?_
      refine K_M_thrown hc hw lk_2085 hft ⟨Nat.le_of_ble_eq_true rfl, Nat.le_of_ble_eq_true rfl⟩ ⟨by show cells + 1 ≤ 601024; omega, by show slots + 6 ≤ 7293034; omega⟩ hl.1 (Nat.le_of_ble_eq_true rfl) (dq tk_LW_18 24 rfl) (fun H locs hw _ => ?_)
      refine lv_iload hx hb (dq tk_LW_18 25 rfl) (lv_at hl 1 rfl) ?_
      refine lv_icmp_eq (tgt := 1797) hx hb (dq tk_LW_18 26 rfl) (by decide) (fun _ => ?_) (fun g => absurd rfl g)
      refine lv_iload hx hb (dq tk_LW_18 29 rfl) (lv_at hl 1 rfl) ?_
      refine lv_if_ne (tgt := 1814) hx hb (dq tk_LW_18 30 rfl) (by decide) (fun g => absurd rfl g) (fun _ => ?_)
      refine lv_aload_n hx hb (dq tk_LW_18 31 rfl) rfl (lv_at hl 6 rfl) ?_
      refine lv_iconst (v := 0) hx hb (dq tk_LW_18 32 rfl) (by decide) ?_
      refine l_lald hc hw (v := r.toInt64) sJ_at (dq tk_LW_18 33 rfl) ?_
      refine lv_iload hx hb (dq tk_LW_18 34 rfl) (lv_at hl 0 rfl) ?_
      refine lv_i2l hx hb (dq tk_LW_18 35 rfl) rfl ?_
      refine W.lcmp hx hb (dq tk_LW_18 36 rfl) ?_
      refine tst (congrArg Value.int lg_cmp_self) ?_
      refine lv_if_eq (tgt := 1814) hx hb (dq tk_LW_18 37 rfl) (by decide) (fun _ => ?_) (fun g => absurd rfl g)
      refine lv_goto (tgt := 2404) hx hb (dq tk_LW_18 40 rfl) (by decide) ?_
      refine W.widen (k := cells + 3) (n := slots + 18) (by omega) (by omega) ?_
      exact kk _ _ _ _ _ (hLO.1 _ _ _ hI') hw (lv_sub hl [2, 3, 4, 5, 6] rfl)
  · skip
    obtain ⟨q, σ', b0, μ', hfx, hfm, hft, hq, hI'⟩ := (hLO.2.2.2.2.2.2.2.2.2.2.2.2.2.2.2.2.2.2.2.2.2.2.2.2.1 σ μ a1 1 hI (Or.inr rfl))
    cases q with
    | none =>
      replace hft : fM_thrown N μ' = some 1 := hft
      refine lv_aload_n hx hb (dq tk_LW_17 48 rfl) rfl (lv_at hl 2 rfl) ?_
      refine lv_aload_n hx hb (dq tk_LW_17 49 rfl) rfl (lv_at hl 1 rfl) ?_
      refine lv_iload hx hb (dq tk_LW_17 50 rfl) (lv_at hl 0 rfl) ?_
      refine lv_iconst (v := 1) hx hb (dq tk_LW_17 51 rfl) (by decide) ?_
      refine lv_iadd hx hb (dq tk_LW_17 52 rfl) ?_
      refine l_sld hc hw hX hbl hbZ (k := 6 * k + 1) (a := a1) (nI_add (6 * k) 1) (by omega) hL ha1 (dq tk_LW_17 53 rfl) ?_
      refine lv_aload_n hx hb (dq tk_LW_17 54 rfl) rfl (lv_at hl 1 rfl) ?_
      refine lv_iload hx hb (dq tk_LW_17 55 rfl) (lv_at hl 0 rfl) ?_
      refine lv_iconst (v := 2) hx hb (dq tk_LW_17 56 rfl) (by decide) ?_
      refine lv_iadd hx hb (dq tk_LW_17 57 rfl) ?_
      refine l_sld hc hw hX hbl hbZ (k := 6 * k + 2) (a := a2) (nI_add (6 * k) 2) (by omega) hL ha2 (dq tk_LW_17 58 rfl) ?_
      refine lv_if_eq (tgt := 1753) hx hb (dq tk_LW_17 59 rfl) (by decide) (fun g => absurd g hz) (fun _ => ?_)
      refine lv_iconst (v := 1) hx hb (dq tk_LW_18 0 rfl) (by decide) ?_
      refine lv_goto (tgt := 1754) hx hb (dq tk_LW_18 1 rfl) (by decide) ?_
      refine lv_aload_n hx hb (dq tk_LW_18 3 rfl) rfl (lv_at hl 4 rfl) ?_
      refine KL_answer_n hst hc hw lk_1519 hfx ⟨Nat.le_of_ble_eq_true rfl, Nat.le_of_ble_eq_true rfl⟩ ⟨by show cells + 1 ≤ 601024; omega, by show slots + 6 ≤ 7293034; omega⟩ hl.1 (Nat.le_of_ble_eq_true rfl) (dq tk_LW_18 4 rfl) (fun H locs hw => ?_)
      refine lv_istore (lv' := [(5, .int 1), (4, .int (nI (6 * k))), (0, .ref b), (1, .ref (Z.1 + 0)), (2, .ref (Z.1 + 566)), (3, .ref (Z.1 + 674))]) hx hb (dq tk_LW_18 5 rfl) hl (by decide) rfl (fun ls hl => ?_)
      refine lv_aload_n hx hb (dq tk_LW_18 6 rfl) rfl (lv_at hl 4 rfl) ?_
      refine lv_aload_n hx hb (dq tk_LW_18 7 rfl) rfl (lv_at hl 2 rfl) ?_
      refine lv_iload hx hb (dq tk_LW_18 8 rfl) (lv_at hl 1 rfl) ?_
      refine lv_iconst (v := 1) hx hb (dq tk_LW_18 9 rfl) (by decide) ?_
      refine lv_iadd hx hb (dq tk_LW_18 10 rfl) ?_
      refine l_sld hc hw hX hbl hbZ (k := 6 * k + 1) (a := a1) (nI_add (6 * k) 1) (by omega) hL ha1 (dq tk_LW_18 11 rfl) ?_
      refine lv_aload_n hx hb (dq tk_LW_18 12 rfl) rfl (lv_at hl 2 rfl) ?_
      refine lv_iload hx hb (dq tk_LW_18 13 rfl) (lv_at hl 1 rfl) ?_
      refine lv_iconst (v := 2) hx hb (dq tk_LW_18 14 rfl) (by decide) ?_
      refine lv_iadd hx hb (dq tk_LW_18 15 rfl) ?_
      refine l_sld hc hw hX hbl hbZ (k := 6 * k + 2) (a := a2) (nI_add (6 * k) 2) (by omega) hL ha2 (dq tk_LW_18 16 rfl) ?_
      refine lv_if_eq (tgt := 1780) hx hb (dq tk_LW_18 17 rfl) (by decide) (fun g => absurd g hz) (fun _ => ?_)
      refine lv_iconst (v := 1) hx hb (dq tk_LW_18 18 rfl) (by decide) ?_
      refine lv_goto (tgt := 1781) hx hb (dq tk_LW_18 19 rfl) (by decide) ?_
      refine K_M_answer hc hw lk_2474 hfm ⟨Nat.le_of_ble_eq_true rfl, Nat.le_of_ble_eq_true rfl⟩ ⟨by show cells + 1 ≤ 601024; omega, by show slots + 6 ≤ 7293034; omega⟩ hl.1 (Nat.le_of_ble_eq_true rfl) (dq tk_LW_18 21 rfl) (fun H locs hw _ => ?_)
      refine lv_istore (lv' := [(6, .int b0), (5, .int 1), (4, .int (nI (6 * k))), (0, .ref b), (1, .ref (Z.1 + 0)), (2, .ref (Z.1 + 566)), (3, .ref (Z.1 + 674))]) hx hb (dq tk_LW_18 22 rfl) hl (by decide) rfl (fun ls hl => ?_)
      refine lv_aload_n hx hb (dq tk_LW_18 23 rfl) rfl (lv_at hl 5 rfl) ?_
      refine K_M_thrown hc hw lk_2085 hft ⟨Nat.le_of_ble_eq_true rfl, Nat.le_of_ble_eq_true rfl⟩ ⟨by show cells + 1 ≤ 601024; omega, by show slots + 6 ≤ 7293034; omega⟩ hl.1 (Nat.le_of_ble_eq_true rfl) (dq tk_LW_18 24 rfl) (fun H locs hw _ => ?_)
      refine lv_iload hx hb (dq tk_LW_18 25 rfl) (lv_at hl 1 rfl) ?_
      refine lv_icmp_eq (tgt := 1797) hx hb (dq tk_LW_18 26 rfl) (by decide) (fun _ => ?_) (fun g => absurd rfl g)
      refine lv_iload hx hb (dq tk_LW_18 29 rfl) (lv_at hl 1 rfl) ?_
      refine lv_if_ne (tgt := 1814) hx hb (dq tk_LW_18 30 rfl) (by decide) (fun _ => ?_) (fun g => absurd g (by decide))
      refine lv_goto (tgt := 2404) hx hb (dq tk_LW_18 40 rfl) (by decide) ?_
      refine W.widen (k := cells + 3) (n := slots + 18) (by omega) (by omega) ?_
      exact kk _ _ _ _ _ hI' hw (lv_sub hl [2, 3, 4, 5, 6] rfl)
    | some r =>
      replace hft : fM_thrown N μ' = some 0 := hft
      obtain rfl : r = b0 := hq r rfl
      refine lv_aload_n hx hb (dq tk_LW_17 48 rfl) rfl (lv_at hl 2 rfl) ?_
      refine lv_aload_n hx hb (dq tk_LW_17 49 rfl) rfl (lv_at hl 1 rfl) ?_
      refine lv_iload hx hb (dq tk_LW_17 50 rfl) (lv_at hl 0 rfl) ?_
      refine lv_iconst (v := 1) hx hb (dq tk_LW_17 51 rfl) (by decide) ?_
      refine lv_iadd hx hb (dq tk_LW_17 52 rfl) ?_
      refine l_sld hc hw hX hbl hbZ (k := 6 * k + 1) (a := a1) (nI_add (6 * k) 1) (by omega) hL ha1 (dq tk_LW_17 53 rfl) ?_
      refine lv_aload_n hx hb (dq tk_LW_17 54 rfl) rfl (lv_at hl 1 rfl) ?_
      refine lv_iload hx hb (dq tk_LW_17 55 rfl) (lv_at hl 0 rfl) ?_
      refine lv_iconst (v := 2) hx hb (dq tk_LW_17 56 rfl) (by decide) ?_
      refine lv_iadd hx hb (dq tk_LW_17 57 rfl) ?_
      refine l_sld hc hw hX hbl hbZ (k := 6 * k + 2) (a := a2) (nI_add (6 * k) 2) (by omega) hL ha2 (dq tk_LW_17 58 rfl) ?_
      refine lv_if_eq (tgt := 1753) hx hb (dq tk_LW_17 59 rfl) (by decide) (fun g => absurd g hz) (fun _ => ?_)
      refine lv_iconst (v := 1) hx hb (dq tk_LW_18 0 rfl) (by decide) ?_
      refine lv_goto (tgt := 1754) hx hb (dq tk_LW_18 1 rfl) (by decide) ?_
      refine lv_aload_n hx hb (dq tk_LW_18 3 rfl) rfl (lv_at hl 4 rfl) ?_
      refine KL_answer_s hst hc hw lk_1519 hfx ⟨Nat.le_of_ble_eq_true rfl, Nat.le_of_ble_eq_true rfl⟩ ⟨by show cells + 1 ≤ 601024; omega, by show slots + 6 ≤ 7293034; omega⟩ hl.1 (Nat.le_of_ble_eq_true rfl) (dq tk_LW_18 4 rfl) (fun H locs hw => ?_)
      refine lv_istore (lv' := [(5, .int 0), (4, .int (nI (6 * k))), (0, .ref b), (1, .ref (Z.1 + 0)), (2, .ref (Z.1 + 566)), (3, .ref (Z.1 + 674))]) hx hb (dq tk_LW_18 5 rfl) hl (by decide) rfl (fun ls hl => ?_)
      refine lv_aload_n hx hb (dq tk_LW_18 6 rfl) rfl (lv_at hl 4 rfl) ?_
      refine lv_aload_n hx hb (dq tk_LW_18 7 rfl) rfl (lv_at hl 2 rfl) ?_
      refine lv_iload hx hb (dq tk_LW_18 8 rfl) (lv_at hl 1 rfl) ?_
      refine lv_iconst (v := 1) hx hb (dq tk_LW_18 9 rfl) (by decide) ?_
      refine lv_iadd hx hb (dq tk_LW_18 10 rfl) ?_
      refine l_sld hc hw hX hbl hbZ (k := 6 * k + 1) (a := a1) (nI_add (6 * k) 1) (by omega) hL ha1 (dq tk_LW_18 11 rfl) ?_
      refine lv_aload_n hx hb (dq tk_LW_18 12 rfl) rfl (lv_at hl 2 rfl) ?_
      refine lv_iload hx hb (dq tk_LW_18 13 rfl) (lv_at hl 1 rfl) ?_
      refine lv_iconst (v := 2) hx hb (dq tk_LW_18 14 rfl) (by decide) ?_
      refine lv_iadd hx hb (dq tk_LW_18 15 rfl) ?_
      refine l_sld hc hw hX hbl hbZ (k := 6 * k + 2) (a := a2) (nI_add (6 * k) 2) (by omega) hL ha2 (dq tk_LW_18 16 rfl) ?_
      refine lv_if_eq (tgt := 1780) hx hb (dq tk_LW_18 17 rfl) (by decide) (fun g => absurd g hz) (fun _ => ?_)
      refine lv_iconst (v := 1) hx hb (dq tk_LW_18 18 rfl) (by decide) ?_
      refine lv_goto (tgt := 1781) hx hb (dq tk_LW_18 19 rfl) (by decide) ?_
      refine K_M_answer hc hw lk_2474 hfm ⟨Nat.le_of_ble_eq_true rfl, Nat.le_of_ble_eq_true rfl⟩ ⟨by show cells + 1 ≤ 601024; omega, by show slots + 6 ≤ 7293034; omega⟩ hl.1 (Nat.le_of_ble_eq_true rfl) (dq tk_LW_18 21 rfl) (fun H locs hw _ => ?_)
      refine lv_istore (lv' := [(6, .int r), (5, .int 0), (4, .int (nI (6 * k))), (0, .ref b), (1, .ref (Z.1 + 0)), (2, .ref (Z.1 + 566)), (3, .ref (Z.1 + 674))]) hx hb (dq tk_LW_18 22 rfl) hl (by decide) rfl (fun ls hl => ?_)
      refine lv_aload_n hx hb (dq tk_LW_18 23 rfl) rfl (lv_at hl 5 rfl) ?_
      refine K_M_thrown hc hw lk_2085 hft ⟨Nat.le_of_ble_eq_true rfl, Nat.le_of_ble_eq_true rfl⟩ ⟨by show cells + 1 ≤ 601024; omega, by show slots + 6 ≤ 7293034; omega⟩ hl.1 (Nat.le_of_ble_eq_true rfl) (dq tk_LW_18 24 rfl) (fun H locs hw _ => ?_)
      refine lv_iload hx hb (dq tk_LW_18 25 rfl) (lv_at hl 1 rfl) ?_
      refine lv_icmp_eq (tgt := 1797) hx hb (dq tk_LW_18 26 rfl) (by decide) (fun _ => ?_) (fun g => absurd rfl g)
      refine lv_iload hx hb (dq tk_LW_18 29 rfl) (lv_at hl 1 rfl) ?_
      refine lv_if_ne (tgt := 1814) hx hb (dq tk_LW_18 30 rfl) (by decide) (fun g => absurd rfl g) (fun _ => ?_)
      refine lv_aload_n hx hb (dq tk_LW_18 31 rfl) rfl (lv_at hl 6 rfl) ?_
      refine lv_iconst (v := 0) hx hb (dq tk_LW_18 32 rfl) (by decide) ?_
      refine l_lald hc hw (v := r.toInt64) sJ_at (dq tk_LW_18 33 rfl) ?_
      refine lv_iload hx hb (dq tk_LW_18 34 rfl) (lv_at hl 0 rfl) ?_
      refine lv_i2l hx hb (dq tk_LW_18 35 rfl) rfl ?_
      refine W.lcmp hx hb (dq tk_LW_18 36 rfl) ?_
      refine tst (congrArg Value.int lg_cmp_self) ?_
      refine lv_if_eq (tgt := 1814) hx hb (dq tk_LW_18 37 rfl) (by decide) (fun _ => ?_) (fun g => absurd rfl g)
      refine lv_goto (tgt := 2404) hx hb (dq tk_LW_18 40 rfl) (by decide) ?_
      refine W.widen (k := cells + 3) (n := slots + 18) (by omega) (by omega) ?_
      exact kk _ _ _ _ _ (hLO.1 _ _ _ hI') hw (lv_sub hl [2, 3, 4, 5, 6] rfl)
set_option maxRecDepth 10000 in
theorem w_law_24 {N b L k : Nat} {xs : Nat → Int32} {Inv : St → St → Prop} (hLO : LawOk N Inv) (hst : l.stackTraces = false) (hc : Cxz p s m meth c #[Value.ref b] code "LabourExchangeLaw" 8 Z) (hX : va_X b L xs s s.heap) (hbl : b < s.heap.size) (hbZ : b < Z.1) (hL : L ≤ 3072) (hk : 6 * k + 6 ≤ L) (hI : Inv σ μ) (hcl0 : cells + 3 ≤ 601024 ∧ slots + 18 ≤ 7293034) {ls : Array Slot} (hw : Wd Z (cmb σ μ) s H locs) (hl : lv_has ls 8 [(4, .int (nI (6 * k))), (0, .ref b), (1, .ref (Z.1 + 0)), (2, .ref (Z.1 + 566)), (3, .ref (Z.1 + 674))])
    (kk : ∀ (σ1 μ1 : St) (H1 : Heap) (locs1 : List Loc) (ls1 : Array Slot), Inv σ1 μ1 → Wd Z (cmb σ1 μ1) s H1 locs1 → lv_has ls1 8 [(4, .int (nI (6 * k))), (0, .ref b), (1, .ref (Z.1 + 0)), (2, .ref (Z.1 + 566)), (3, .ref (Z.1 + 674))] → W p l e room_1 s m #[Value.ref b] below meth c H1 locs1 (cells + 3) (slots + 18) Q (F0 m 2404 ls1 [])) : W p l e room_1 s m #[Value.ref b] below meth c H locs cells slots Q (F0 m 1817 ls []) := by
  have hx := hc.hx
  have hb := hc.hb
  obtain ⟨h1, h2⟩ := hcl0
  obtain ⟨r, σ', μ', hfx, hfm, hI'⟩ := (hLO.2.2.2.2.2.2.2.2.2.2.2.2.2.2.2.2.2.2.2.2.2.2.2.2.2.1 σ μ hI)
  refine lv_aload_n hx hb (dq tk_LW_18 41 rfl) rfl (lv_at hl 2 rfl) ?_
  refine K_X_send hc hw lk_736 hfx ⟨Nat.le_of_ble_eq_true rfl, Nat.le_of_ble_eq_true rfl⟩ ⟨by show cells ≤ 601024; omega, by show slots ≤ 7293034; omega⟩ hl.1 (Nat.le_of_ble_eq_true rfl) (dq tk_LW_18 42 rfl) (fun H locs hw _ => ?_)
  refine lv_aload_n hx hb (dq tk_LW_18 43 rfl) rfl (lv_at hl 3 rfl) ?_
  refine K_M_send hc hw lk_2478 hfm ⟨Nat.le_of_ble_eq_true rfl, Nat.le_of_ble_eq_true rfl⟩ ⟨by show cells ≤ 601024; omega, by show slots ≤ 7293034; omega⟩ hl.1 (Nat.le_of_ble_eq_true rfl) (dq tk_LW_18 44 rfl) (fun H locs hw _ => ?_)
  refine lv_icmp_eq (tgt := 2404) hx hb (dq tk_LW_18 45 rfl) (by decide) (fun _ => ?_) (fun g => absurd rfl g)
  refine W.widen (k := cells + 3) (n := slots + 18) (by omega) (by omega) ?_
  exact kk _ _ _ _ _ hI' hw (lv_sub hl [0, 1, 2, 3, 4] rfl)
set_option maxRecDepth 10000 in
theorem w_law_25 {N b L k : Nat} {xs : Nat → Int32} {Inv : St → St → Prop} (hLO : LawOk N Inv) (hst : l.stackTraces = false) (hc : Cxz p s m meth c #[Value.ref b] code "LabourExchangeLaw" 8 Z) (hX : va_X b L xs s s.heap) (hbl : b < s.heap.size) (hbZ : b < Z.1) (hL : L ≤ 3072) (hk : 6 * k + 6 ≤ L) (hI : Inv σ μ) (hcl0 : cells + 3 ≤ 601024 ∧ slots + 18 ≤ 7293034) {ls : Array Slot} (hw : Wd Z (cmb σ μ) s H locs) (hl : lv_has ls 8 [(4, .int (nI (6 * k))), (0, .ref b), (1, .ref (Z.1 + 0)), (2, .ref (Z.1 + 566)), (3, .ref (Z.1 + 674))])
    (kk : ∀ (σ1 μ1 : St) (H1 : Heap) (locs1 : List Loc) (ls1 : Array Slot), Inv σ1 μ1 → Wd Z (cmb σ1 μ1) s H1 locs1 → lv_has ls1 8 [(4, .int (nI (6 * k))), (0, .ref b), (1, .ref (Z.1 + 0)), (2, .ref (Z.1 + 566)), (3, .ref (Z.1 + 674))] → W p l e room_1 s m #[Value.ref b] below meth c H1 locs1 (cells + 3) (slots + 18) Q (F0 m 2404 ls1 [])) : W p l e room_1 s m #[Value.ref b] below meth c H locs cells slots Q (F0 m 1830 ls []) := by
  have hx := hc.hx
  have hb := hc.hb
  obtain ⟨h1, h2⟩ := hcl0
  obtain ⟨a1, ha1⟩ : ∃ a, xs (6 * k + 1) = a := ⟨_, rfl⟩
  obtain ⟨q, b0, μ', hfx, hfm, hft, hq, hI'⟩ := (hLO.2.2.2.2.2.2.2.2.2.2.2.2.2.2.2.2.2.2.2.2.2.2.2.2.2.2.1 σ μ a1 hI)
  cases q with
  | none =>
    replace hft : fM_thrown N μ' = some 1 := hft
    refine lv_aload_n hx hb (dq tk_LW_18 48 rfl) rfl (lv_at hl 2 rfl) ?_
    refine lv_aload_n hx hb (dq tk_LW_18 49 rfl) rfl (lv_at hl 1 rfl) ?_
    refine lv_iload hx hb (dq tk_LW_18 50 rfl) (lv_at hl 0 rfl) ?_
    refine lv_iconst (v := 1) hx hb (dq tk_LW_18 51 rfl) (by decide) ?_
    refine lv_iadd hx hb (dq tk_LW_18 52 rfl) ?_
    refine l_sld hc hw hX hbl hbZ (k := 6 * k + 1) (a := a1) (nI_add (6 * k) 1) (by omega) hL ha1 (dq tk_LW_18 53 rfl) ?_
    refine lv_aload_n hx hb (dq tk_LW_18 54 rfl) rfl (lv_at hl 4 rfl) ?_
    refine KL_sent_n hst hc hw lk_1526 hfx ⟨Nat.le_of_ble_eq_true rfl, Nat.le_of_ble_eq_true rfl⟩ ⟨by show cells + 1 ≤ 601024; omega, by show slots + 6 ≤ 7293034; omega⟩ hl.1 (Nat.le_of_ble_eq_true rfl) (dq tk_LW_18 55 rfl) (fun H locs hw => ?_)
    refine lv_istore (lv' := [(5, .int 1), (4, .int (nI (6 * k))), (0, .ref b), (1, .ref (Z.1 + 0)), (2, .ref (Z.1 + 566)), (3, .ref (Z.1 + 674))]) hx hb (dq tk_LW_18 56 rfl) hl (by decide) rfl (fun ls hl => ?_)
    refine lv_aload_n hx hb (dq tk_LW_18 57 rfl) rfl (lv_at hl 4 rfl) ?_
    refine lv_aload_n hx hb (dq tk_LW_18 58 rfl) rfl (lv_at hl 2 rfl) ?_
    refine lv_iload hx hb (dq tk_LW_18 59 rfl) (lv_at hl 1 rfl) ?_
    refine lv_iconst (v := 1) hx hb (dq tk_LW_19 0 rfl) (by decide) ?_
    refine lv_iadd hx hb (dq tk_LW_19 1 rfl) ?_
    refine l_sld hc hw hX hbl hbZ (k := 6 * k + 1) (a := a1) (nI_add (6 * k) 1) (by omega) hL ha1 (dq tk_LW_19 2 rfl) ?_
    refine K_M_sent hc hw lk_2503 hfm ⟨Nat.le_of_ble_eq_true rfl, Nat.le_of_ble_eq_true rfl⟩ ⟨by show cells + 1 ≤ 601024; omega, by show slots + 6 ≤ 7293034; omega⟩ hl.1 (Nat.le_of_ble_eq_true rfl) (dq tk_LW_19 3 rfl) (fun H locs hw _ => ?_)
    refine lv_istore (lv' := [(6, .int b0), (5, .int 1), (4, .int (nI (6 * k))), (0, .ref b), (1, .ref (Z.1 + 0)), (2, .ref (Z.1 + 566)), (3, .ref (Z.1 + 674))]) hx hb (dq tk_LW_19 4 rfl) hl (by decide) rfl (fun ls hl => ?_)
    refine lv_aload_n hx hb (dq tk_LW_19 5 rfl) rfl (lv_at hl 5 rfl) ?_
    refine K_M_thrown hc hw lk_2085 hft ⟨Nat.le_of_ble_eq_true rfl, Nat.le_of_ble_eq_true rfl⟩ ⟨by show cells + 1 ≤ 601024; omega, by show slots + 6 ≤ 7293034; omega⟩ hl.1 (Nat.le_of_ble_eq_true rfl) (dq tk_LW_19 6 rfl) (fun H locs hw _ => ?_)
    refine lv_iload hx hb (dq tk_LW_19 7 rfl) (lv_at hl 1 rfl) ?_
    refine lv_icmp_eq (tgt := 1866) hx hb (dq tk_LW_19 8 rfl) (by decide) (fun _ => ?_) (fun g => absurd rfl g)
    refine lv_iload hx hb (dq tk_LW_19 11 rfl) (lv_at hl 1 rfl) ?_
    refine lv_if_ne (tgt := 1883) hx hb (dq tk_LW_19 12 rfl) (by decide) (fun _ => ?_) (fun g => absurd g (by decide))
    refine lv_goto (tgt := 2404) hx hb (dq tk_LW_19 22 rfl) (by decide) ?_
    refine W.widen (k := cells + 3) (n := slots + 18) (by omega) (by omega) ?_
    exact kk _ _ _ _ _ hI' hw (lv_sub hl [2, 3, 4, 5, 6] rfl)
  | some r =>
    replace hft : fM_thrown N μ' = some 0 := hft
    obtain rfl : r = b0 := hq r rfl
    refine lv_aload_n hx hb (dq tk_LW_18 48 rfl) rfl (lv_at hl 2 rfl) ?_
    refine lv_aload_n hx hb (dq tk_LW_18 49 rfl) rfl (lv_at hl 1 rfl) ?_
    refine lv_iload hx hb (dq tk_LW_18 50 rfl) (lv_at hl 0 rfl) ?_
    refine lv_iconst (v := 1) hx hb (dq tk_LW_18 51 rfl) (by decide) ?_
    refine lv_iadd hx hb (dq tk_LW_18 52 rfl) ?_
    refine l_sld hc hw hX hbl hbZ (k := 6 * k + 1) (a := a1) (nI_add (6 * k) 1) (by omega) hL ha1 (dq tk_LW_18 53 rfl) ?_
    refine lv_aload_n hx hb (dq tk_LW_18 54 rfl) rfl (lv_at hl 4 rfl) ?_
    refine KL_sent_s hst hc hw lk_1526 hfx ⟨Nat.le_of_ble_eq_true rfl, Nat.le_of_ble_eq_true rfl⟩ ⟨by show cells + 1 ≤ 601024; omega, by show slots + 6 ≤ 7293034; omega⟩ hl.1 (Nat.le_of_ble_eq_true rfl) (dq tk_LW_18 55 rfl) (fun H locs hw => ?_)
    refine lv_istore (lv' := [(5, .int 0), (4, .int (nI (6 * k))), (0, .ref b), (1, .ref (Z.1 + 0)), (2, .ref (Z.1 + 566)), (3, .ref (Z.1 + 674))]) hx hb (dq tk_LW_18 56 rfl) hl (by decide) rfl (fun ls hl => ?_)
    refine lv_aload_n hx hb (dq tk_LW_18 57 rfl) rfl (lv_at hl 4 rfl) ?_
    refine lv_aload_n hx hb (dq tk_LW_18 58 rfl) rfl (lv_at hl 2 rfl) ?_
    refine lv_iload hx hb (dq tk_LW_18 59 rfl) (lv_at hl 1 rfl) ?_
    refine lv_iconst (v := 1) hx hb (dq tk_LW_19 0 rfl) (by decide) ?_
    refine lv_iadd hx hb (dq tk_LW_19 1 rfl) ?_
    refine l_sld hc hw hX hbl hbZ (k := 6 * k + 1) (a := a1) (nI_add (6 * k) 1) (by omega) hL ha1 (dq tk_LW_19 2 rfl) ?_
    refine K_M_sent hc hw lk_2503 hfm ⟨Nat.le_of_ble_eq_true rfl, Nat.le_of_ble_eq_true rfl⟩ ⟨by show cells + 1 ≤ 601024; omega, by show slots + 6 ≤ 7293034; omega⟩ hl.1 (Nat.le_of_ble_eq_true rfl) (dq tk_LW_19 3 rfl) (fun H locs hw _ => ?_)
    refine lv_istore (lv' := [(6, .int r), (5, .int 0), (4, .int (nI (6 * k))), (0, .ref b), (1, .ref (Z.1 + 0)), (2, .ref (Z.1 + 566)), (3, .ref (Z.1 + 674))]) hx hb (dq tk_LW_19 4 rfl) hl (by decide) rfl (fun ls hl => ?_)
    refine lv_aload_n hx hb (dq tk_LW_19 5 rfl) rfl (lv_at hl 5 rfl) ?_
    refine K_M_thrown hc hw lk_2085 hft ⟨Nat.le_of_ble_eq_true rfl, Nat.le_of_ble_eq_true rfl⟩ ⟨by show cells + 1 ≤ 601024; omega, by show slots + 6 ≤ 7293034; omega⟩ hl.1 (Nat.le_of_ble_eq_true rfl) (dq tk_LW_19 6 rfl) (fun H locs hw _ => ?_)
    refine lv_iload hx hb (dq tk_LW_19 7 rfl) (lv_at hl 1 rfl) ?_
    refine lv_icmp_eq (tgt := 1866) hx hb (dq tk_LW_19 8 rfl) (by decide) (fun _ => ?_) (fun g => absurd rfl g)
    refine lv_iload hx hb (dq tk_LW_19 11 rfl) (lv_at hl 1 rfl) ?_
    refine lv_if_ne (tgt := 1883) hx hb (dq tk_LW_19 12 rfl) (by decide) (fun g => absurd rfl g) (fun _ => ?_)
    refine lv_aload_n hx hb (dq tk_LW_19 13 rfl) rfl (lv_at hl 6 rfl) ?_
    refine lv_iconst (v := 0) hx hb (dq tk_LW_19 14 rfl) (by decide) ?_
    refine l_lald hc hw (v := r.toInt64) sJ_at (dq tk_LW_19 15 rfl) ?_
    refine lv_iload hx hb (dq tk_LW_19 16 rfl) (lv_at hl 0 rfl) ?_
    refine lv_i2l hx hb (dq tk_LW_19 17 rfl) rfl ?_
    refine W.lcmp hx hb (dq tk_LW_19 18 rfl) ?_
    refine tst (congrArg Value.int lg_cmp_self) ?_
    refine lv_if_eq (tgt := 1883) hx hb (dq tk_LW_19 19 rfl) (by decide) (fun _ => ?_) (fun g => absurd rfl g)
    refine lv_goto (tgt := 2404) hx hb (dq tk_LW_19 22 rfl) (by decide) ?_
    refine W.widen (k := cells + 3) (n := slots + 18) (by omega) (by omega) ?_
    exact kk _ _ _ _ _ (hLO.1 _ _ _ hI') hw (lv_sub hl [2, 3, 4, 5, 6] rfl)
set_option maxRecDepth 10000 in
theorem w_law_26 {N b L k : Nat} {xs : Nat → Int32} {Inv : St → St → Prop} (hLO : LawOk N Inv) (hst : l.stackTraces = false) (hc : Cxz p s m meth c #[Value.ref b] code "LabourExchangeLaw" 8 Z) (hX : va_X b L xs s s.heap) (hbl : b < s.heap.size) (hbZ : b < Z.1) (hL : L ≤ 3072) (hk : 6 * k + 6 ≤ L) (hI : Inv σ μ) (hcl0 : cells + 3 ≤ 601024 ∧ slots + 18 ≤ 7293034) {ls : Array Slot} (hw : Wd Z (cmb σ μ) s H locs) (hl : lv_has ls 8 [(4, .int (nI (6 * k))), (0, .ref b), (1, .ref (Z.1 + 0)), (2, .ref (Z.1 + 566)), (3, .ref (Z.1 + 674))])
    (kk : ∀ (σ1 μ1 : St) (H1 : Heap) (locs1 : List Loc) (ls1 : Array Slot), Inv σ1 μ1 → Wd Z (cmb σ1 μ1) s H1 locs1 → lv_has ls1 8 [(4, .int (nI (6 * k))), (0, .ref b), (1, .ref (Z.1 + 0)), (2, .ref (Z.1 + 566)), (3, .ref (Z.1 + 674))] → W p l e room_1 s m #[Value.ref b] below meth c H1 locs1 (cells + 3) (slots + 18) Q (F0 m 2404 ls1 [])) : W p l e room_1 s m #[Value.ref b] below meth c H locs cells slots Q (F0 m 1886 ls []) := by
  have hx := hc.hx
  have hb := hc.hb
  obtain ⟨h1, h2⟩ := hcl0
  obtain ⟨a1, ha1⟩ : ∃ a, xs (6 * k + 1) = a := ⟨_, rfl⟩
  obtain ⟨a2, ha2⟩ : ∃ a, xs (6 * k + 2) = a := ⟨_, rfl⟩
  obtain ⟨a3, ha3⟩ : ∃ a, xs (6 * k + 3) = a := ⟨_, rfl⟩
  obtain ⟨r, σ', μ', hfx, hfm, hI'⟩ := (hLO.2.2.2.2.2.2.2.2.2.2.2.2.2.2.2.2.2.2.2.2.2.2.2.2.2.2.2.1 σ μ a1 a2 a3 hI)
  refine lv_aload_n hx hb (dq tk_LW_19 23 rfl) rfl (lv_at hl 2 rfl) ?_
  refine lv_aload_n hx hb (dq tk_LW_19 24 rfl) rfl (lv_at hl 1 rfl) ?_
  refine lv_iload hx hb (dq tk_LW_19 25 rfl) (lv_at hl 0 rfl) ?_
  refine lv_iconst (v := 1) hx hb (dq tk_LW_19 26 rfl) (by decide) ?_
  refine lv_iadd hx hb (dq tk_LW_19 27 rfl) ?_
  refine l_sld hc hw hX hbl hbZ (k := 6 * k + 1) (a := a1) (nI_add (6 * k) 1) (by omega) hL ha1 (dq tk_LW_19 28 rfl) ?_
  refine lv_aload_n hx hb (dq tk_LW_19 29 rfl) rfl (lv_at hl 1 rfl) ?_
  refine lv_iload hx hb (dq tk_LW_19 30 rfl) (lv_at hl 0 rfl) ?_
  refine lv_iconst (v := 2) hx hb (dq tk_LW_19 31 rfl) (by decide) ?_
  refine lv_iadd hx hb (dq tk_LW_19 32 rfl) ?_
  refine l_sld hc hw hX hbl hbZ (k := 6 * k + 2) (a := a2) (nI_add (6 * k) 2) (by omega) hL ha2 (dq tk_LW_19 33 rfl) ?_
  refine lv_aload_n hx hb (dq tk_LW_19 34 rfl) rfl (lv_at hl 1 rfl) ?_
  refine lv_iload hx hb (dq tk_LW_19 35 rfl) (lv_at hl 0 rfl) ?_
  refine lv_iconst (v := 3) hx hb (dq tk_LW_19 36 rfl) (by decide) ?_
  refine lv_iadd hx hb (dq tk_LW_19 37 rfl) ?_
  refine l_sld hc hw hX hbl hbZ (k := 6 * k + 3) (a := a3) (nI_add (6 * k) 3) (by omega) hL ha3 (dq tk_LW_19 38 rfl) ?_
  refine K_X_price hc hw lk_1004 hfx ⟨Nat.le_of_ble_eq_true rfl, Nat.le_of_ble_eq_true rfl⟩ ⟨by show cells ≤ 601024; omega, by show slots ≤ 7293034; omega⟩ hl.1 (Nat.le_of_ble_eq_true rfl) (dq tk_LW_19 39 rfl) (fun H locs hw _ => ?_)
  refine lv_aload_n hx hb (dq tk_LW_19 40 rfl) rfl (lv_at hl 3 rfl) ?_
  refine lv_aload_n hx hb (dq tk_LW_19 41 rfl) rfl (lv_at hl 1 rfl) ?_
  refine lv_iload hx hb (dq tk_LW_19 42 rfl) (lv_at hl 0 rfl) ?_
  refine lv_iconst (v := 1) hx hb (dq tk_LW_19 43 rfl) (by decide) ?_
  refine lv_iadd hx hb (dq tk_LW_19 44 rfl) ?_
  refine l_sld hc hw hX hbl hbZ (k := 6 * k + 1) (a := a1) (nI_add (6 * k) 1) (by omega) hL ha1 (dq tk_LW_19 45 rfl) ?_
  refine lv_aload_n hx hb (dq tk_LW_19 46 rfl) rfl (lv_at hl 1 rfl) ?_
  refine lv_iload hx hb (dq tk_LW_19 47 rfl) (lv_at hl 0 rfl) ?_
  refine lv_iconst (v := 2) hx hb (dq tk_LW_19 48 rfl) (by decide) ?_
  refine lv_iadd hx hb (dq tk_LW_19 49 rfl) ?_
  refine l_sld hc hw hX hbl hbZ (k := 6 * k + 2) (a := a2) (nI_add (6 * k) 2) (by omega) hL ha2 (dq tk_LW_19 50 rfl) ?_
  refine lv_aload_n hx hb (dq tk_LW_19 51 rfl) rfl (lv_at hl 1 rfl) ?_
  refine lv_iload hx hb (dq tk_LW_19 52 rfl) (lv_at hl 0 rfl) ?_
  refine lv_iconst (v := 3) hx hb (dq tk_LW_19 53 rfl) (by decide) ?_
  refine lv_iadd hx hb (dq tk_LW_19 54 rfl) ?_
  refine l_sld hc hw hX hbl hbZ (k := 6 * k + 3) (a := a3) (nI_add (6 * k) 3) (by omega) hL ha3 (dq tk_LW_19 55 rfl) ?_
  refine K_M_price hc hw lk_2507 hfm ⟨Nat.le_of_ble_eq_true rfl, Nat.le_of_ble_eq_true rfl⟩ ⟨by show cells ≤ 601024; omega, by show slots ≤ 7293034; omega⟩ hl.1 (Nat.le_of_ble_eq_true rfl) (dq tk_LW_19 56 rfl) (fun H locs hw _ => ?_)
  refine lv_icmp_eq (tgt := 2404) hx hb (dq tk_LW_19 57 rfl) (by decide) (fun _ => ?_) (fun g => absurd rfl g)
  refine W.widen (k := cells + 3) (n := slots + 18) (by omega) (by omega) ?_
  exact kk _ _ _ _ _ hI' hw (lv_sub hl [0, 1, 2, 3, 4] rfl)
set_option maxRecDepth 10000 in
theorem w_law_27 {N b L k : Nat} {xs : Nat → Int32} {Inv : St → St → Prop} (hLO : LawOk N Inv) (hst : l.stackTraces = false) (hc : Cxz p s m meth c #[Value.ref b] code "LabourExchangeLaw" 8 Z) (hX : va_X b L xs s s.heap) (hbl : b < s.heap.size) (hbZ : b < Z.1) (hL : L ≤ 3072) (hk : 6 * k + 6 ≤ L) (hI : Inv σ μ) (hcl0 : cells + 3 ≤ 601024 ∧ slots + 18 ≤ 7293034) {ls : Array Slot} (hw : Wd Z (cmb σ μ) s H locs) (hl : lv_has ls 8 [(4, .int (nI (6 * k))), (0, .ref b), (1, .ref (Z.1 + 0)), (2, .ref (Z.1 + 566)), (3, .ref (Z.1 + 674))])
    (kk : ∀ (σ1 μ1 : St) (H1 : Heap) (locs1 : List Loc) (ls1 : Array Slot), Inv σ1 μ1 → Wd Z (cmb σ1 μ1) s H1 locs1 → lv_has ls1 8 [(4, .int (nI (6 * k))), (0, .ref b), (1, .ref (Z.1 + 0)), (2, .ref (Z.1 + 566)), (3, .ref (Z.1 + 674))] → W p l e room_1 s m #[Value.ref b] below meth c H1 locs1 (cells + 3) (slots + 18) Q (F0 m 2404 ls1 [])) : W p l e room_1 s m #[Value.ref b] below meth c H locs cells slots Q (F0 m 1935 ls []) := by
  have hx := hc.hx
  have hb := hc.hb
  obtain ⟨h1, h2⟩ := hcl0
  obtain ⟨r, σ', μ', hfx, hfm, hI'⟩ := (hLO.2.2.2.2.2.2.2.2.2.2.2.2.2.2.2.2.2.2.2.2.2.2.2.2.2.2.2.2.1 σ μ hI)
  refine lv_aload_n hx hb (dq tk_LW_20 0 rfl) rfl (lv_at hl 2 rfl) ?_
  refine K_X_proves hc hw lk_1008 hfx ⟨Nat.le_of_ble_eq_true rfl, Nat.le_of_ble_eq_true rfl⟩ ⟨by show cells ≤ 601024; omega, by show slots ≤ 7293034; omega⟩ hl.1 (Nat.le_of_ble_eq_true rfl) (dq tk_LW_20 1 rfl) (fun H locs hw _ => ?_)
  refine lv_aload_n hx hb (dq tk_LW_20 2 rfl) rfl (lv_at hl 3 rfl) ?_
  refine K_M_proves hc hw lk_2511 hfm ⟨Nat.le_of_ble_eq_true rfl, Nat.le_of_ble_eq_true rfl⟩ ⟨by show cells ≤ 601024; omega, by show slots ≤ 7293034; omega⟩ hl.1 (Nat.le_of_ble_eq_true rfl) (dq tk_LW_20 3 rfl) (fun H locs hw _ => ?_)
  refine lv_icmp_eq (tgt := 2404) hx hb (dq tk_LW_20 4 rfl) (by decide) (fun _ => ?_) (fun g => absurd rfl g)
  refine W.widen (k := cells + 3) (n := slots + 18) (by omega) (by omega) ?_
  exact kk _ _ _ _ _ hI' hw (lv_sub hl [0, 1, 2, 3, 4] rfl)
set_option maxRecDepth 10000 in
theorem w_law_28 {N b L k : Nat} {xs : Nat → Int32} {Inv : St → St → Prop} (hLO : LawOk N Inv) (hst : l.stackTraces = false) (hc : Cxz p s m meth c #[Value.ref b] code "LabourExchangeLaw" 8 Z) (hX : va_X b L xs s s.heap) (hbl : b < s.heap.size) (hbZ : b < Z.1) (hL : L ≤ 3072) (hk : 6 * k + 6 ≤ L) (hI : Inv σ μ) (hcl0 : cells + 3 ≤ 601024 ∧ slots + 18 ≤ 7293034) {ls : Array Slot} (hw : Wd Z (cmb σ μ) s H locs) (hl : lv_has ls 8 [(4, .int (nI (6 * k))), (0, .ref b), (1, .ref (Z.1 + 0)), (2, .ref (Z.1 + 566)), (3, .ref (Z.1 + 674))])
    (kk : ∀ (σ1 μ1 : St) (H1 : Heap) (locs1 : List Loc) (ls1 : Array Slot), Inv σ1 μ1 → Wd Z (cmb σ1 μ1) s H1 locs1 → lv_has ls1 8 [(4, .int (nI (6 * k))), (0, .ref b), (1, .ref (Z.1 + 0)), (2, .ref (Z.1 + 566)), (3, .ref (Z.1 + 674))] → W p l e room_1 s m #[Value.ref b] below meth c H1 locs1 (cells + 3) (slots + 18) Q (F0 m 2404 ls1 [])) : W p l e room_1 s m #[Value.ref b] below meth c H locs cells slots Q (F0 m 1948 ls []) := by
  have hx := hc.hx
  have hb := hc.hb
  obtain ⟨h1, h2⟩ := hcl0
  obtain ⟨a1, ha1⟩ : ∃ a, xs (6 * k + 1) = a := ⟨_, rfl⟩
  obtain ⟨a2, ha2⟩ : ∃ a, xs (6 * k + 2) = a := ⟨_, rfl⟩
  obtain ⟨r, σ', μ', hfx, hfm, hI'⟩ := (hLO.2.2.2.2.2.2.2.2.2.2.2.2.2.2.2.2.2.2.2.2.2.2.2.2.2.2.2.2.2.1 σ μ a1 a2 hI)
  refine lv_aload_n hx hb (dq tk_LW_20 7 rfl) rfl (lv_at hl 2 rfl) ?_
  refine lv_aload_n hx hb (dq tk_LW_20 8 rfl) rfl (lv_at hl 1 rfl) ?_
  refine lv_iload hx hb (dq tk_LW_20 9 rfl) (lv_at hl 0 rfl) ?_
  refine lv_iconst (v := 1) hx hb (dq tk_LW_20 10 rfl) (by decide) ?_
  refine lv_iadd hx hb (dq tk_LW_20 11 rfl) ?_
  refine l_sld hc hw hX hbl hbZ (k := 6 * k + 1) (a := a1) (nI_add (6 * k) 1) (by omega) hL ha1 (dq tk_LW_20 12 rfl) ?_
  refine lv_aload_n hx hb (dq tk_LW_20 13 rfl) rfl (lv_at hl 1 rfl) ?_
  refine lv_iload hx hb (dq tk_LW_20 14 rfl) (lv_at hl 0 rfl) ?_
  refine lv_iconst (v := 2) hx hb (dq tk_LW_20 15 rfl) (by decide) ?_
  refine lv_iadd hx hb (dq tk_LW_20 16 rfl) ?_
  refine l_sld hc hw hX hbl hbZ (k := 6 * k + 2) (a := a2) (nI_add (6 * k) 2) (by omega) hL ha2 (dq tk_LW_20 17 rfl) ?_
  refine K_X_judge hc hw lk_1012 hfx ⟨Nat.le_of_ble_eq_true rfl, Nat.le_of_ble_eq_true rfl⟩ ⟨by show cells ≤ 601024; omega, by show slots ≤ 7293034; omega⟩ hl.1 (Nat.le_of_ble_eq_true rfl) (dq tk_LW_20 18 rfl) (fun H locs hw _ => ?_)
  refine lv_aload_n hx hb (dq tk_LW_20 19 rfl) rfl (lv_at hl 3 rfl) ?_
  refine lv_aload_n hx hb (dq tk_LW_20 20 rfl) rfl (lv_at hl 1 rfl) ?_
  refine lv_iload hx hb (dq tk_LW_20 21 rfl) (lv_at hl 0 rfl) ?_
  refine lv_iconst (v := 1) hx hb (dq tk_LW_20 22 rfl) (by decide) ?_
  refine lv_iadd hx hb (dq tk_LW_20 23 rfl) ?_
  refine l_sld hc hw hX hbl hbZ (k := 6 * k + 1) (a := a1) (nI_add (6 * k) 1) (by omega) hL ha1 (dq tk_LW_20 24 rfl) ?_
  refine lv_aload_n hx hb (dq tk_LW_20 25 rfl) rfl (lv_at hl 1 rfl) ?_
  refine lv_iload hx hb (dq tk_LW_20 26 rfl) (lv_at hl 0 rfl) ?_
  refine lv_iconst (v := 2) hx hb (dq tk_LW_20 27 rfl) (by decide) ?_
  refine lv_iadd hx hb (dq tk_LW_20 28 rfl) ?_
  refine l_sld hc hw hX hbl hbZ (k := 6 * k + 2) (a := a2) (nI_add (6 * k) 2) (by omega) hL ha2 (dq tk_LW_20 29 rfl) ?_
  refine K_M_judge hc hw lk_2515 hfm ⟨Nat.le_of_ble_eq_true rfl, Nat.le_of_ble_eq_true rfl⟩ ⟨by show cells ≤ 601024; omega, by show slots ≤ 7293034; omega⟩ hl.1 (Nat.le_of_ble_eq_true rfl) (dq tk_LW_20 30 rfl) (fun H locs hw _ => ?_)
  refine lv_icmp_eq (tgt := 2404) hx hb (dq tk_LW_20 31 rfl) (by decide) (fun _ => ?_) (fun g => absurd rfl g)
  refine W.widen (k := cells + 3) (n := slots + 18) (by omega) (by omega) ?_
  exact kk _ _ _ _ _ hI' hw (lv_sub hl [0, 1, 2, 3, 4] rfl)
set_option maxRecDepth 10000 in
theorem w_law_29 {N b L k : Nat} {xs : Nat → Int32} {Inv : St → St → Prop} (hLO : LawOk N Inv) (hst : l.stackTraces = false) (hc : Cxz p s m meth c #[Value.ref b] code "LabourExchangeLaw" 8 Z) (hX : va_X b L xs s s.heap) (hbl : b < s.heap.size) (hbZ : b < Z.1) (hL : L ≤ 3072) (hk : 6 * k + 6 ≤ L) (hI : Inv σ μ) (hcl0 : cells + 3 ≤ 601024 ∧ slots + 18 ≤ 7293034) {ls : Array Slot} (hw : Wd Z (cmb σ μ) s H locs) (hl : lv_has ls 8 [(4, .int (nI (6 * k))), (0, .ref b), (1, .ref (Z.1 + 0)), (2, .ref (Z.1 + 566)), (3, .ref (Z.1 + 674))])
    (kk : ∀ (σ1 μ1 : St) (H1 : Heap) (locs1 : List Loc) (ls1 : Array Slot), Inv σ1 μ1 → Wd Z (cmb σ1 μ1) s H1 locs1 → lv_has ls1 8 [(4, .int (nI (6 * k))), (0, .ref b), (1, .ref (Z.1 + 0)), (2, .ref (Z.1 + 566)), (3, .ref (Z.1 + 674))] → W p l e room_1 s m #[Value.ref b] below meth c H1 locs1 (cells + 3) (slots + 18) Q (F0 m 2404 ls1 [])) : W p l e room_1 s m #[Value.ref b] below meth c H locs cells slots Q (F0 m 1985 ls []) := by
  have hx := hc.hx
  have hb := hc.hb
  obtain ⟨h1, h2⟩ := hcl0
  obtain ⟨a1, ha1⟩ : ∃ a, xs (6 * k + 1) = a := ⟨_, rfl⟩
  obtain ⟨q, σ', b0, μ', hfx, hfm, hft, hq, hI'⟩ := (hLO.2.2.2.2.2.2.2.2.2.2.2.2.2.2.2.2.2.2.2.2.2.2.2.2.2.2.2.2.2.2.1 σ μ a1 hI)
  cases q with
  | none =>
    replace hft : fM_thrown N μ' = some 1 := hft
    refine lv_aload_n hx hb (dq tk_LW_20 34 rfl) rfl (lv_at hl 2 rfl) ?_
    refine lv_aload_n hx hb (dq tk_LW_20 35 rfl) rfl (lv_at hl 1 rfl) ?_
    refine lv_iload hx hb (dq tk_LW_20 36 rfl) (lv_at hl 0 rfl) ?_
    refine lv_iconst (v := 1) hx hb (dq tk_LW_20 37 rfl) (by decide) ?_
    refine lv_iadd hx hb (dq tk_LW_20 38 rfl) ?_
    refine l_sld hc hw hX hbl hbZ (k := 6 * k + 1) (a := a1) (nI_add (6 * k) 1) (by omega) hL ha1 (dq tk_LW_20 39 rfl) ?_
    refine lv_aload_n hx hb (dq tk_LW_20 40 rfl) rfl (lv_at hl 4 rfl) ?_
    refine KL_appeal_n hst hc hw lk_1533 hfx ⟨Nat.le_of_ble_eq_true rfl, Nat.le_of_ble_eq_true rfl⟩ ⟨by show cells + 1 ≤ 601024; omega, by show slots + 6 ≤ 7293034; omega⟩ hl.1 (Nat.le_of_ble_eq_true rfl) (dq tk_LW_20 41 rfl) (fun H locs hw => ?_)
    refine lv_istore (lv' := [(5, .int 1), (4, .int (nI (6 * k))), (0, .ref b), (1, .ref (Z.1 + 0)), (2, .ref (Z.1 + 566)), (3, .ref (Z.1 + 674))]) hx hb (dq tk_LW_20 42 rfl) hl (by decide) rfl (fun ls hl => ?_)
    refine lv_aload_n hx hb (dq tk_LW_20 43 rfl) rfl (lv_at hl 4 rfl) ?_
    refine lv_aload_n hx hb (dq tk_LW_20 44 rfl) rfl (lv_at hl 2 rfl) ?_
    refine lv_iload hx hb (dq tk_LW_20 45 rfl) (lv_at hl 1 rfl) ?_
    refine lv_iconst (v := 1) hx hb (dq tk_LW_20 46 rfl) (by decide) ?_
    refine lv_iadd hx hb (dq tk_LW_20 47 rfl) ?_
    refine l_sld hc hw hX hbl hbZ (k := 6 * k + 1) (a := a1) (nI_add (6 * k) 1) (by omega) hL ha1 (dq tk_LW_20 48 rfl) ?_
    refine K_M_appeal hc hw lk_2519 hfm ⟨Nat.le_of_ble_eq_true rfl, Nat.le_of_ble_eq_true rfl⟩ ⟨by show cells + 1 ≤ 601024; omega, by show slots + 6 ≤ 7293034; omega⟩ hl.1 (Nat.le_of_ble_eq_true rfl) (dq tk_LW_20 49 rfl) (fun H locs hw _ => ?_)
    refine lv_istore (lv' := [(6, .int b0), (5, .int 1), (4, .int (nI (6 * k))), (0, .ref b), (1, .ref (Z.1 + 0)), (2, .ref (Z.1 + 566)), (3, .ref (Z.1 + 674))]) hx hb (dq tk_LW_20 50 rfl) hl (by decide) rfl (fun ls hl => ?_)
    refine lv_aload_n hx hb (dq tk_LW_20 51 rfl) rfl (lv_at hl 5 rfl) ?_
    refine K_M_thrown hc hw lk_2085 hft ⟨Nat.le_of_ble_eq_true rfl, Nat.le_of_ble_eq_true rfl⟩ ⟨by show cells + 1 ≤ 601024; omega, by show slots + 6 ≤ 7293034; omega⟩ hl.1 (Nat.le_of_ble_eq_true rfl) (dq tk_LW_20 52 rfl) (fun H locs hw _ => ?_)
    refine lv_iload hx hb (dq tk_LW_20 53 rfl) (lv_at hl 1 rfl) ?_
    refine lv_icmp_eq (tgt := 2021) hx hb (dq tk_LW_20 54 rfl) (by decide) (fun _ => ?_) (fun g => absurd rfl g)
    refine lv_iload hx hb (dq tk_LW_20 57 rfl) (lv_at hl 1 rfl) ?_
    refine lv_if_ne (tgt := 2038) hx hb (dq tk_LW_20 58 rfl) (by decide) (fun _ => ?_) (fun g => absurd g (by decide))
    refine lv_goto (tgt := 2404) hx hb (dq tk_LW_21 8 rfl) (by decide) ?_
    refine W.widen (k := cells + 3) (n := slots + 18) (by omega) (by omega) ?_
    exact kk _ _ _ _ _ hI' hw (lv_sub hl [2, 3, 4, 5, 6] rfl)
  | some r =>
    replace hft : fM_thrown N μ' = some 0 := hft
    obtain rfl : r = b0 := hq r rfl
    refine lv_aload_n hx hb (dq tk_LW_20 34 rfl) rfl (lv_at hl 2 rfl) ?_
    refine lv_aload_n hx hb (dq tk_LW_20 35 rfl) rfl (lv_at hl 1 rfl) ?_
    refine lv_iload hx hb (dq tk_LW_20 36 rfl) (lv_at hl 0 rfl) ?_
    refine lv_iconst (v := 1) hx hb (dq tk_LW_20 37 rfl) (by decide) ?_
    refine lv_iadd hx hb (dq tk_LW_20 38 rfl) ?_
    refine l_sld hc hw hX hbl hbZ (k := 6 * k + 1) (a := a1) (nI_add (6 * k) 1) (by omega) hL ha1 (dq tk_LW_20 39 rfl) ?_
    refine lv_aload_n hx hb (dq tk_LW_20 40 rfl) rfl (lv_at hl 4 rfl) ?_
    refine KL_appeal_s hst hc hw lk_1533 hfx ⟨Nat.le_of_ble_eq_true rfl, Nat.le_of_ble_eq_true rfl⟩ ⟨by show cells + 1 ≤ 601024; omega, by show slots + 6 ≤ 7293034; omega⟩ hl.1 (Nat.le_of_ble_eq_true rfl) (dq tk_LW_20 41 rfl) (fun H locs hw => ?_)
    refine lv_istore (lv' := [(5, .int 0), (4, .int (nI (6 * k))), (0, .ref b), (1, .ref (Z.1 + 0)), (2, .ref (Z.1 + 566)), (3, .ref (Z.1 + 674))]) hx hb (dq tk_LW_20 42 rfl) hl (by decide) rfl (fun ls hl => ?_)
    refine lv_aload_n hx hb (dq tk_LW_20 43 rfl) rfl (lv_at hl 4 rfl) ?_
    refine lv_aload_n hx hb (dq tk_LW_20 44 rfl) rfl (lv_at hl 2 rfl) ?_
    refine lv_iload hx hb (dq tk_LW_20 45 rfl) (lv_at hl 1 rfl) ?_
    refine lv_iconst (v := 1) hx hb (dq tk_LW_20 46 rfl) (by decide) ?_
    refine lv_iadd hx hb (dq tk_LW_20 47 rfl) ?_
    refine l_sld hc hw hX hbl hbZ (k := 6 * k + 1) (a := a1) (nI_add (6 * k) 1) (by omega) hL ha1 (dq tk_LW_20 48 rfl) ?_
    refine K_M_appeal hc hw lk_2519 hfm ⟨Nat.le_of_ble_eq_true rfl, Nat.le_of_ble_eq_true rfl⟩ ⟨by show cells + 1 ≤ 601024; omega, by show slots + 6 ≤ 7293034; omega⟩ hl.1 (Nat.le_of_ble_eq_true rfl) (dq tk_LW_20 49 rfl) (fun H locs hw _ => ?_)
    refine lv_istore (lv' := [(6, .int r), (5, .int 0), (4, .int (nI (6 * k))), (0, .ref b), (1, .ref (Z.1 + 0)), (2, .ref (Z.1 + 566)), (3, .ref (Z.1 + 674))]) hx hb (dq tk_LW_20 50 rfl) hl (by decide) rfl (fun ls hl => ?_)
    refine lv_aload_n hx hb (dq tk_LW_20 51 rfl) rfl (lv_at hl 5 rfl) ?_
    refine K_M_thrown hc hw lk_2085 hft ⟨Nat.le_of_ble_eq_true rfl, Nat.le_of_ble_eq_true rfl⟩ ⟨by show cells + 1 ≤ 601024; omega, by show slots + 6 ≤ 7293034; omega⟩ hl.1 (Nat.le_of_ble_eq_true rfl) (dq tk_LW_20 52 rfl) (fun H locs hw _ => ?_)
    refine lv_iload hx hb (dq tk_LW_20 53 rfl) (lv_at hl 1 rfl) ?_
    refine lv_icmp_eq (tgt := 2021) hx hb (dq tk_LW_20 54 rfl) (by decide) (fun _ => ?_) (fun g => absurd rfl g)
    refine lv_iload hx hb (dq tk_LW_20 57 rfl) (lv_at hl 1 rfl) ?_
    refine lv_if_ne (tgt := 2038) hx hb (dq tk_LW_20 58 rfl) (by decide) (fun g => absurd rfl g) (fun _ => ?_)
    refine lv_aload_n hx hb (dq tk_LW_20 59 rfl) rfl (lv_at hl 6 rfl) ?_
    refine lv_iconst (v := 0) hx hb (dq tk_LW_21 0 rfl) (by decide) ?_
    refine l_lald hc hw (v := r.toInt64) sJ_at (dq tk_LW_21 1 rfl) ?_
    refine lv_iload hx hb (dq tk_LW_21 2 rfl) (lv_at hl 0 rfl) ?_
    refine lv_i2l hx hb (dq tk_LW_21 3 rfl) rfl ?_
    refine W.lcmp hx hb (dq tk_LW_21 4 rfl) ?_
    refine tst (congrArg Value.int lg_cmp_self) ?_
    refine lv_if_eq (tgt := 2038) hx hb (dq tk_LW_21 5 rfl) (by decide) (fun _ => ?_) (fun g => absurd rfl g)
    refine lv_goto (tgt := 2404) hx hb (dq tk_LW_21 8 rfl) (by decide) ?_
    refine W.widen (k := cells + 3) (n := slots + 18) (by omega) (by omega) ?_
    exact kk _ _ _ _ _ (hLO.1 _ _ _ hI') hw (lv_sub hl [2, 3, 4, 5, 6] rfl)
set_option maxRecDepth 10000 in
theorem w_law_30 {N b L k : Nat} {xs : Nat → Int32} {Inv : St → St → Prop} (hLO : LawOk N Inv) (hst : l.stackTraces = false) (hc : Cxz p s m meth c #[Value.ref b] code "LabourExchangeLaw" 8 Z) (hX : va_X b L xs s s.heap) (hbl : b < s.heap.size) (hbZ : b < Z.1) (hL : L ≤ 3072) (hk : 6 * k + 6 ≤ L) (hI : Inv σ μ) (hcl0 : cells + 3 ≤ 601024 ∧ slots + 18 ≤ 7293034) {ls : Array Slot} (hw : Wd Z (cmb σ μ) s H locs) (hl : lv_has ls 8 [(4, .int (nI (6 * k))), (0, .ref b), (1, .ref (Z.1 + 0)), (2, .ref (Z.1 + 566)), (3, .ref (Z.1 + 674))])
    (kk : ∀ (σ1 μ1 : St) (H1 : Heap) (locs1 : List Loc) (ls1 : Array Slot), Inv σ1 μ1 → Wd Z (cmb σ1 μ1) s H1 locs1 → lv_has ls1 8 [(4, .int (nI (6 * k))), (0, .ref b), (1, .ref (Z.1 + 0)), (2, .ref (Z.1 + 566)), (3, .ref (Z.1 + 674))] → W p l e room_1 s m #[Value.ref b] below meth c H1 locs1 (cells + 3) (slots + 18) Q (F0 m 2404 ls1 [])) : W p l e room_1 s m #[Value.ref b] below meth c H locs cells slots Q (F0 m 2041 ls []) := by
  have hx := hc.hx
  have hb := hc.hb
  obtain ⟨h1, h2⟩ := hcl0
  obtain ⟨a1, ha1⟩ : ∃ a, xs (6 * k + 1) = a := ⟨_, rfl⟩
  obtain ⟨a2, ha2⟩ : ∃ a, xs (6 * k + 2) = a := ⟨_, rfl⟩
  by_cases hz : a2 = 0
  · skip
    obtain ⟨q, σ', b0, μ', hfx, hfm, hft, hq, hI'⟩ := (hLO.2.2.2.2.2.2.2.2.2.2.2.2.2.2.2.2.2.2.2.2.2.2.2.2.2.2.2.2.2.2.2.1 σ μ a1 0 hI (Or.inl rfl))
    cases q with
    | none =>
      replace hft : fM_thrown N μ' = some 1 := hft
      refine lv_aload_n hx hb (dq tk_LW_21 9 rfl) rfl (lv_at hl 2 rfl) ?_
      refine lv_aload_n hx hb (dq tk_LW_21 10 rfl) rfl (lv_at hl 1 rfl) ?_
      refine lv_iload hx hb (dq tk_LW_21 11 rfl) (lv_at hl 0 rfl) ?_
      refine lv_iconst (v := 1) hx hb (dq tk_LW_21 12 rfl) (by decide) ?_
      refine lv_iadd hx hb (dq tk_LW_21 13 rfl) ?_
      refine l_sld hc hw hX hbl hbZ (k := 6 * k + 1) (a := a1) (nI_add (6 * k) 1) (by omega) hL ha1 (dq tk_LW_21 14 rfl) ?_
      refine lv_aload_n hx hb (dq tk_LW_21 15 rfl) rfl (lv_at hl 1 rfl) ?_
      refine lv_iload hx hb (dq tk_LW_21 16 rfl) (lv_at hl 0 rfl) ?_
      refine lv_iconst (v := 2) hx hb (dq tk_LW_21 17 rfl) (by decide) ?_
      refine lv_iadd hx hb (dq tk_LW_21 18 rfl) ?_
      refine l_sld hc hw hX hbl hbZ (k := 6 * k + 2) (a := a2) (nI_add (6 * k) 2) (by omega) hL ha2 (dq tk_LW_21 19 rfl) ?_
      refine lv_if_eq (tgt := 2061) hx hb (dq tk_LW_21 20 rfl) (by decide) (fun _ => ?_) (fun g => absurd hz g)
      refine lv_iconst (v := 0) hx hb (dq tk_LW_21 23 rfl) (by decide) ?_
      refine lv_aload_n hx hb (dq tk_LW_21 24 rfl) rfl (lv_at hl 4 rfl) ?_
      refine KL_close_n hst hc hw lk_1553 hfx ⟨Nat.le_of_ble_eq_true rfl, Nat.le_of_ble_eq_true rfl⟩ ⟨by show cells + 1 ≤ 601024; omega, by show slots + 6 ≤ 7293034; omega⟩ hl.1 (Nat.le_of_ble_eq_true rfl) (dq tk_LW_21 25 rfl) (fun H locs hw => ?_)
      refine lv_istore (lv' := [(5, .int 1), (4, .int (nI (6 * k))), (0, .ref b), (1, .ref (Z.1 + 0)), (2, .ref (Z.1 + 566)), (3, .ref (Z.1 + 674))]) hx hb (dq tk_LW_21 26 rfl) hl (by decide) rfl (fun ls hl => ?_)
      refine lv_aload_n hx hb (dq tk_LW_21 27 rfl) rfl (lv_at hl 4 rfl) ?_
      refine lv_aload_n hx hb (dq tk_LW_21 28 rfl) rfl (lv_at hl 2 rfl) ?_
      refine lv_iload hx hb (dq tk_LW_21 29 rfl) (lv_at hl 1 rfl) ?_
      refine lv_iconst (v := 1) hx hb (dq tk_LW_21 30 rfl) (by decide) ?_
      refine lv_iadd hx hb (dq tk_LW_21 31 rfl) ?_
      refine l_sld hc hw hX hbl hbZ (k := 6 * k + 1) (a := a1) (nI_add (6 * k) 1) (by omega) hL ha1 (dq tk_LW_21 32 rfl) ?_
      refine lv_aload_n hx hb (dq tk_LW_21 33 rfl) rfl (lv_at hl 2 rfl) ?_
      refine lv_iload hx hb (dq tk_LW_21 34 rfl) (lv_at hl 1 rfl) ?_
      refine lv_iconst (v := 2) hx hb (dq tk_LW_21 35 rfl) (by decide) ?_
      refine lv_iadd hx hb (dq tk_LW_21 36 rfl) ?_
      refine l_sld hc hw hX hbl hbZ (k := 6 * k + 2) (a := a2) (nI_add (6 * k) 2) (by omega) hL ha2 (dq tk_LW_21 37 rfl) ?_
      refine lv_if_eq (tgt := 2088) hx hb (dq tk_LW_21 38 rfl) (by decide) (fun _ => ?_) (fun g => absurd hz g)
      refine lv_iconst (v := 0) hx hb (dq tk_LW_21 41 rfl) (by decide) ?_
      refine K_M_close hc hw lk_2531 hfm ⟨Nat.le_of_ble_eq_true rfl, Nat.le_of_ble_eq_true rfl⟩ ⟨by show cells + 1 ≤ 601024; omega, by show slots + 6 ≤ 7293034; omega⟩ hl.1 (Nat.le_of_ble_eq_true rfl) (dq tk_LW_21 42 rfl) (fun H locs hw _ => ?_)
      refine lv_istore (lv' := [(6, .int b0), (5, .int 1), (4, .int (nI (6 * k))), (0, .ref b), (1, .ref (Z.1 + 0)), (2, .ref (Z.1 + 566)), (3, .ref (Z.1 + 674))]) hx hb (dq tk_LW_21 43 rfl) hl (by decide) rfl (fun ls hl => ?_)
      refine lv_aload_n hx hb (dq tk_LW_21 44 rfl) rfl (lv_at hl 5 rfl) ?_
      refine K_M_thrown hc hw lk_2085 hft ⟨Nat.le_of_ble_eq_true rfl, Nat.le_of_ble_eq_true rfl⟩ ⟨by show cells + 1 ≤ 601024; omega, by show slots + 6 ≤ 7293034; omega⟩ hl.1 (Nat.le_of_ble_eq_true rfl) (dq tk_LW_21 45 rfl) (fun H locs hw _ => ?_)
      refine lv_iload hx hb (dq tk_LW_21 46 rfl) (lv_at hl 1 rfl) ?_
      refine lv_icmp_eq (tgt := 2105) hx hb (dq tk_LW_21 47 rfl) (by decide) (fun _ => ?_) (fun g => absurd rfl g)
      refine lv_iload hx hb (dq tk_LW_21 50 rfl) (lv_at hl 1 rfl) ?_
      refine lv_if_ne (tgt := 2129) hx hb (dq tk_LW_21 51 rfl) (by decide) (fun _ => ?_) (fun g => absurd g (by decide))
      refine lv_goto (tgt := 2404) hx hb (dq tk_LW_22 4 rfl) (by decide) ?_
      refine W.widen (k := cells + 3) (n := slots + 18) (by omega) (by omega) ?_
      exact kk _ _ _ _ _ hI' hw (lv_sub hl [2, 3, 4, 5, 6] rfl)
    | some r =>
      replace hft : fM_thrown N μ' = some 0 := hft
      obtain rfl : r = b0 := hq r rfl
      by_cases hr0 : r = 0
      · skip
        refine lv_aload_n hx hb (dq tk_LW_21 9 rfl) rfl (lv_at hl 2 rfl) ?_
        refine lv_aload_n hx hb (dq tk_LW_21 10 rfl) rfl (lv_at hl 1 rfl) ?_
        refine lv_iload hx hb (dq tk_LW_21 11 rfl) (lv_at hl 0 rfl) ?_
        refine lv_iconst (v := 1) hx hb (dq tk_LW_21 12 rfl) (by decide) ?_
        refine lv_iadd hx hb (dq tk_LW_21 13 rfl) ?_
        refine l_sld hc hw hX hbl hbZ (k := 6 * k + 1) (a := a1) (nI_add (6 * k) 1) (by omega) hL ha1 (dq tk_LW_21 14 rfl) ?_
        refine lv_aload_n hx hb (dq tk_LW_21 15 rfl) rfl (lv_at hl 1 rfl) ?_
        refine lv_iload hx hb (dq tk_LW_21 16 rfl) (lv_at hl 0 rfl) ?_
        refine lv_iconst (v := 2) hx hb (dq tk_LW_21 17 rfl) (by decide) ?_
        refine lv_iadd hx hb (dq tk_LW_21 18 rfl) ?_
        refine l_sld hc hw hX hbl hbZ (k := 6 * k + 2) (a := a2) (nI_add (6 * k) 2) (by omega) hL ha2 (dq tk_LW_21 19 rfl) ?_
        refine lv_if_eq (tgt := 2061) hx hb (dq tk_LW_21 20 rfl) (by decide) (fun _ => ?_) (fun g => absurd hz g)
        refine lv_iconst (v := 0) hx hb (dq tk_LW_21 23 rfl) (by decide) ?_
        refine lv_aload_n hx hb (dq tk_LW_21 24 rfl) rfl (lv_at hl 4 rfl) ?_
        refine KL_close_s hst hc hw lk_1553 hfx ⟨Nat.le_of_ble_eq_true rfl, Nat.le_of_ble_eq_true rfl⟩ ⟨by show cells + 1 ≤ 601024; omega, by show slots + 6 ≤ 7293034; omega⟩ hl.1 (Nat.le_of_ble_eq_true rfl) (dq tk_LW_21 25 rfl) (fun H locs hw => ?_)
        refine lv_istore (lv' := [(5, .int 0), (4, .int (nI (6 * k))), (0, .ref b), (1, .ref (Z.1 + 0)), (2, .ref (Z.1 + 566)), (3, .ref (Z.1 + 674))]) hx hb (dq tk_LW_21 26 rfl) hl (by decide) rfl (fun ls hl => ?_)
        refine lv_aload_n hx hb (dq tk_LW_21 27 rfl) rfl (lv_at hl 4 rfl) ?_
        refine lv_aload_n hx hb (dq tk_LW_21 28 rfl) rfl (lv_at hl 2 rfl) ?_
        refine lv_iload hx hb (dq tk_LW_21 29 rfl) (lv_at hl 1 rfl) ?_
        refine lv_iconst (v := 1) hx hb (dq tk_LW_21 30 rfl) (by decide) ?_
        refine lv_iadd hx hb (dq tk_LW_21 31 rfl) ?_
        refine l_sld hc hw hX hbl hbZ (k := 6 * k + 1) (a := a1) (nI_add (6 * k) 1) (by omega) hL ha1 (dq tk_LW_21 32 rfl) ?_
        refine lv_aload_n hx hb (dq tk_LW_21 33 rfl) rfl (lv_at hl 2 rfl) ?_
        refine lv_iload hx hb (dq tk_LW_21 34 rfl) (lv_at hl 1 rfl) ?_
        refine lv_iconst (v := 2) hx hb (dq tk_LW_21 35 rfl) (by decide) ?_
        refine lv_iadd hx hb (dq tk_LW_21 36 rfl) ?_
        refine l_sld hc hw hX hbl hbZ (k := 6 * k + 2) (a := a2) (nI_add (6 * k) 2) (by omega) hL ha2 (dq tk_LW_21 37 rfl) ?_
        refine lv_if_eq (tgt := 2088) hx hb (dq tk_LW_21 38 rfl) (by decide) (fun _ => ?_) (fun g => absurd hz g)
        refine lv_iconst (v := 0) hx hb (dq tk_LW_21 41 rfl) (by decide) ?_
        refine K_M_close hc hw lk_2531 hfm ⟨Nat.le_of_ble_eq_true rfl, Nat.le_of_ble_eq_true rfl⟩ ⟨by show cells + 1 ≤ 601024; omega, by show slots + 6 ≤ 7293034; omega⟩ hl.1 (Nat.le_of_ble_eq_true rfl) (dq tk_LW_21 42 rfl) (fun H locs hw _ => ?_)
        refine lv_istore (lv' := [(6, .int r), (5, .int 0), (4, .int (nI (6 * k))), (0, .ref b), (1, .ref (Z.1 + 0)), (2, .ref (Z.1 + 566)), (3, .ref (Z.1 + 674))]) hx hb (dq tk_LW_21 43 rfl) hl (by decide) rfl (fun ls hl => ?_)
        refine lv_aload_n hx hb (dq tk_LW_21 44 rfl) rfl (lv_at hl 5 rfl) ?_
        refine K_M_thrown hc hw lk_2085 hft ⟨Nat.le_of_ble_eq_true rfl, Nat.le_of_ble_eq_true rfl⟩ ⟨by show cells + 1 ≤ 601024; omega, by show slots + 6 ≤ 7293034; omega⟩ hl.1 (Nat.le_of_ble_eq_true rfl) (dq tk_LW_21 45 rfl) (fun H locs hw _ => ?_)
        refine lv_iload hx hb (dq tk_LW_21 46 rfl) (lv_at hl 1 rfl) ?_
        refine lv_icmp_eq (tgt := 2105) hx hb (dq tk_LW_21 47 rfl) (by decide) (fun _ => ?_) (fun g => absurd rfl g)
        refine lv_iload hx hb (dq tk_LW_21 50 rfl) (lv_at hl 1 rfl) ?_
        refine lv_if_ne (tgt := 2129) hx hb (dq tk_LW_21 51 rfl) (by decide) (fun g => absurd rfl g) (fun _ => ?_)
        refine lv_aload_n hx hb (dq tk_LW_21 52 rfl) rfl (lv_at hl 6 rfl) ?_
        refine lv_iconst (v := 0) hx hb (dq tk_LW_21 53 rfl) (by decide) ?_
        refine l_lald hc hw (v := 0) (sJ_at.trans (if_pos hr0)) (dq tk_LW_21 54 rfl) ?_
        refine lv_iload hx hb (dq tk_LW_21 55 rfl) (lv_at hl 0 rfl) ?_
        refine lv_if_eq (tgt := 2122) hx hb (dq tk_LW_21 56 rfl) (by decide) (fun _ => ?_) (fun g => absurd hr0 g)
        refine lv_lconst (v := 0) hx hb (dq tk_LW_21 59 rfl) (by decide) ?_
        refine W.lcmp hx hb (dq tk_LW_22 0 rfl) ?_
        refine tst (congrArg Value.int lg_cmp_self) ?_
        refine lv_if_eq (tgt := 2129) hx hb (dq tk_LW_22 1 rfl) (by decide) (fun _ => ?_) (fun g => absurd rfl g)
        refine lv_goto (tgt := 2404) hx hb (dq tk_LW_22 4 rfl) (by decide) ?_
        refine W.widen (k := cells + 3) (n := slots + 18) (by omega) (by omega) ?_
        exact kk _ _ _ _ _ (hLO.1 _ _ _ hI') hw (lv_sub hl [2, 3, 4, 5, 6] rfl)
      · skip
        refine lv_aload_n hx hb (dq tk_LW_21 9 rfl) rfl (lv_at hl 2 rfl) ?_
        refine lv_aload_n hx hb (dq tk_LW_21 10 rfl) rfl (lv_at hl 1 rfl) ?_
        refine lv_iload hx hb (dq tk_LW_21 11 rfl) (lv_at hl 0 rfl) ?_
        refine lv_iconst (v := 1) hx hb (dq tk_LW_21 12 rfl) (by decide) ?_
        refine lv_iadd hx hb (dq tk_LW_21 13 rfl) ?_
        refine l_sld hc hw hX hbl hbZ (k := 6 * k + 1) (a := a1) (nI_add (6 * k) 1) (by omega) hL ha1 (dq tk_LW_21 14 rfl) ?_
        refine lv_aload_n hx hb (dq tk_LW_21 15 rfl) rfl (lv_at hl 1 rfl) ?_
        refine lv_iload hx hb (dq tk_LW_21 16 rfl) (lv_at hl 0 rfl) ?_
        refine lv_iconst (v := 2) hx hb (dq tk_LW_21 17 rfl) (by decide) ?_
        refine lv_iadd hx hb (dq tk_LW_21 18 rfl) ?_
        refine l_sld hc hw hX hbl hbZ (k := 6 * k + 2) (a := a2) (nI_add (6 * k) 2) (by omega) hL ha2 (dq tk_LW_21 19 rfl) ?_
        refine lv_if_eq (tgt := 2061) hx hb (dq tk_LW_21 20 rfl) (by decide) (fun _ => ?_) (fun g => absurd hz g)
        refine lv_iconst (v := 0) hx hb (dq tk_LW_21 23 rfl) (by decide) ?_
        refine lv_aload_n hx hb (dq tk_LW_21 24 rfl) rfl (lv_at hl 4 rfl) ?_
        refine KL_close_s hst hc hw lk_1553 hfx ⟨Nat.le_of_ble_eq_true rfl, Nat.le_of_ble_eq_true rfl⟩ ⟨by show cells + 1 ≤ 601024; omega, by show slots + 6 ≤ 7293034; omega⟩ hl.1 (Nat.le_of_ble_eq_true rfl) (dq tk_LW_21 25 rfl) (fun H locs hw => ?_)
        refine lv_istore (lv' := [(5, .int 0), (4, .int (nI (6 * k))), (0, .ref b), (1, .ref (Z.1 + 0)), (2, .ref (Z.1 + 566)), (3, .ref (Z.1 + 674))]) hx hb (dq tk_LW_21 26 rfl) hl (by decide) rfl (fun ls hl => ?_)
        refine lv_aload_n hx hb (dq tk_LW_21 27 rfl) rfl (lv_at hl 4 rfl) ?_
        refine lv_aload_n hx hb (dq tk_LW_21 28 rfl) rfl (lv_at hl 2 rfl) ?_
        refine lv_iload hx hb (dq tk_LW_21 29 rfl) (lv_at hl 1 rfl) ?_
        refine lv_iconst (v := 1) hx hb (dq tk_LW_21 30 rfl) (by decide) ?_
        refine lv_iadd hx hb (dq tk_LW_21 31 rfl) ?_
        refine l_sld hc hw hX hbl hbZ (k := 6 * k + 1) (a := a1) (nI_add (6 * k) 1) (by omega) hL ha1 (dq tk_LW_21 32 rfl) ?_
        refine lv_aload_n hx hb (dq tk_LW_21 33 rfl) rfl (lv_at hl 2 rfl) ?_
        refine lv_iload hx hb (dq tk_LW_21 34 rfl) (lv_at hl 1 rfl) ?_
        refine lv_iconst (v := 2) hx hb (dq tk_LW_21 35 rfl) (by decide) ?_
        refine lv_iadd hx hb (dq tk_LW_21 36 rfl) ?_
        refine l_sld hc hw hX hbl hbZ (k := 6 * k + 2) (a := a2) (nI_add (6 * k) 2) (by omega) hL ha2 (dq tk_LW_21 37 rfl) ?_
        refine lv_if_eq (tgt := 2088) hx hb (dq tk_LW_21 38 rfl) (by decide) (fun _ => ?_) (fun g => absurd hz g)
        refine lv_iconst (v := 0) hx hb (dq tk_LW_21 41 rfl) (by decide) ?_
        refine K_M_close hc hw lk_2531 hfm ⟨Nat.le_of_ble_eq_true rfl, Nat.le_of_ble_eq_true rfl⟩ ⟨by show cells + 1 ≤ 601024; omega, by show slots + 6 ≤ 7293034; omega⟩ hl.1 (Nat.le_of_ble_eq_true rfl) (dq tk_LW_21 42 rfl) (fun H locs hw _ => ?_)
        refine lv_istore (lv' := [(6, .int r), (5, .int 0), (4, .int (nI (6 * k))), (0, .ref b), (1, .ref (Z.1 + 0)), (2, .ref (Z.1 + 566)), (3, .ref (Z.1 + 674))]) hx hb (dq tk_LW_21 43 rfl) hl (by decide) rfl (fun ls hl => ?_)
        refine lv_aload_n hx hb (dq tk_LW_21 44 rfl) rfl (lv_at hl 5 rfl) ?_
        refine K_M_thrown hc hw lk_2085 hft ⟨Nat.le_of_ble_eq_true rfl, Nat.le_of_ble_eq_true rfl⟩ ⟨by show cells + 1 ≤ 601024; omega, by show slots + 6 ≤ 7293034; omega⟩ hl.1 (Nat.le_of_ble_eq_true rfl) (dq tk_LW_21 45 rfl) (fun H locs hw _ => ?_)
        refine lv_iload hx hb (dq tk_LW_21 46 rfl) (lv_at hl 1 rfl) ?_
        refine lv_icmp_eq (tgt := 2105) hx hb (dq tk_LW_21 47 rfl) (by decide) (fun _ => ?_) (fun g => absurd rfl g)
        refine lv_iload hx hb (dq tk_LW_21 50 rfl) (lv_at hl 1 rfl) ?_
        refine lv_if_ne (tgt := 2129) hx hb (dq tk_LW_21 51 rfl) (by decide) (fun g => absurd rfl g) (fun _ => ?_)
        refine lv_aload_n hx hb (dq tk_LW_21 52 rfl) rfl (lv_at hl 6 rfl) ?_
        refine lv_iconst (v := 0) hx hb (dq tk_LW_21 53 rfl) (by decide) ?_
        refine l_lald hc hw (v := 1) (sJ_at.trans (if_neg hr0)) (dq tk_LW_21 54 rfl) ?_
        refine lv_iload hx hb (dq tk_LW_21 55 rfl) (lv_at hl 0 rfl) ?_
        refine lv_if_eq (tgt := 2122) hx hb (dq tk_LW_21 56 rfl) (by decide) (fun g => absurd g hr0) (fun _ => ?_)
        refine lv_lconst (v := 1) hx hb (dq tk_LW_21 57 rfl) (by decide) ?_
        refine lv_goto (tgt := 2123) hx hb (dq tk_LW_21 58 rfl) (by decide) ?_
        refine W.lcmp hx hb (dq tk_LW_22 0 rfl) ?_
        refine tst (congrArg Value.int lg_cmp_self) ?_
        refine lv_if_eq (tgt := 2129) hx hb (dq tk_LW_22 1 rfl) (by decide) (fun _ => ?_) (fun g => absurd rfl g)
        refine lv_goto (tgt := 2404) hx hb (dq tk_LW_22 4 rfl) (by decide) ?_
        refine W.widen (k := cells + 3) (n := slots + 18) (by omega) (by omega) ?_
        exact kk _ _ _ _ _ (hLO.1 _ _ _ hI') hw (lv_sub hl [2, 3, 4, 5, 6] rfl)
  · skip
    obtain ⟨q, σ', b0, μ', hfx, hfm, hft, hq, hI'⟩ := (hLO.2.2.2.2.2.2.2.2.2.2.2.2.2.2.2.2.2.2.2.2.2.2.2.2.2.2.2.2.2.2.2.1 σ μ a1 1 hI (Or.inr rfl))
    cases q with
    | none =>
      replace hft : fM_thrown N μ' = some 1 := hft
      refine lv_aload_n hx hb (dq tk_LW_21 9 rfl) rfl (lv_at hl 2 rfl) ?_
      refine lv_aload_n hx hb (dq tk_LW_21 10 rfl) rfl (lv_at hl 1 rfl) ?_
      refine lv_iload hx hb (dq tk_LW_21 11 rfl) (lv_at hl 0 rfl) ?_
      refine lv_iconst (v := 1) hx hb (dq tk_LW_21 12 rfl) (by decide) ?_
      refine lv_iadd hx hb (dq tk_LW_21 13 rfl) ?_
      refine l_sld hc hw hX hbl hbZ (k := 6 * k + 1) (a := a1) (nI_add (6 * k) 1) (by omega) hL ha1 (dq tk_LW_21 14 rfl) ?_
      refine lv_aload_n hx hb (dq tk_LW_21 15 rfl) rfl (lv_at hl 1 rfl) ?_
      refine lv_iload hx hb (dq tk_LW_21 16 rfl) (lv_at hl 0 rfl) ?_
      refine lv_iconst (v := 2) hx hb (dq tk_LW_21 17 rfl) (by decide) ?_
      refine lv_iadd hx hb (dq tk_LW_21 18 rfl) ?_
      refine l_sld hc hw hX hbl hbZ (k := 6 * k + 2) (a := a2) (nI_add (6 * k) 2) (by omega) hL ha2 (dq tk_LW_21 19 rfl) ?_
      refine lv_if_eq (tgt := 2061) hx hb (dq tk_LW_21 20 rfl) (by decide) (fun g => absurd g hz) (fun _ => ?_)
      refine lv_iconst (v := 1) hx hb (dq tk_LW_21 21 rfl) (by decide) ?_
      refine lv_goto (tgt := 2062) hx hb (dq tk_LW_21 22 rfl) (by decide) ?_
      refine lv_aload_n hx hb (dq tk_LW_21 24 rfl) rfl (lv_at hl 4 rfl) ?_
      refine KL_close_n hst hc hw lk_1553 hfx ⟨Nat.le_of_ble_eq_true rfl, Nat.le_of_ble_eq_true rfl⟩ ⟨by show cells + 1 ≤ 601024; omega, by show slots + 6 ≤ 7293034; omega⟩ hl.1 (Nat.le_of_ble_eq_true rfl) (dq tk_LW_21 25 rfl) (fun H locs hw => ?_)
      refine lv_istore (lv' := [(5, .int 1), (4, .int (nI (6 * k))), (0, .ref b), (1, .ref (Z.1 + 0)), (2, .ref (Z.1 + 566)), (3, .ref (Z.1 + 674))]) hx hb (dq tk_LW_21 26 rfl) hl (by decide) rfl (fun ls hl => ?_)
      refine lv_aload_n hx hb (dq tk_LW_21 27 rfl) rfl (lv_at hl 4 rfl) ?_
      refine lv_aload_n hx hb (dq tk_LW_21 28 rfl) rfl (lv_at hl 2 rfl) ?_
      refine lv_iload hx hb (dq tk_LW_21 29 rfl) (lv_at hl 1 rfl) ?_
      refine lv_iconst (v := 1) hx hb (dq tk_LW_21 30 rfl) (by decide) ?_
      refine lv_iadd hx hb (dq tk_LW_21 31 rfl) ?_
      refine l_sld hc hw hX hbl hbZ (k := 6 * k + 1) (a := a1) (nI_add (6 * k) 1) (by omega) hL ha1 (dq tk_LW_21 32 rfl) ?_
      refine lv_aload_n hx hb (dq tk_LW_21 33 rfl) rfl (lv_at hl 2 rfl) ?_
      refine lv_iload hx hb (dq tk_LW_21 34 rfl) (lv_at hl 1 rfl) ?_
      refine lv_iconst (v := 2) hx hb (dq tk_LW_21 35 rfl) (by decide) ?_
      refine lv_iadd hx hb (dq tk_LW_21 36 rfl) ?_
      refine l_sld hc hw hX hbl hbZ (k := 6 * k + 2) (a := a2) (nI_add (6 * k) 2) (by omega) hL ha2 (dq tk_LW_21 37 rfl) ?_
      refine lv_if_eq (tgt := 2088) hx hb (dq tk_LW_21 38 rfl) (by decide) (fun g => absurd g hz) (fun _ => ?_)
      refine lv_iconst (v := 1) hx hb (dq tk_LW_21 39 rfl) (by decide) ?_
      refine lv_goto (tgt := 2089) hx hb (dq tk_LW_21 40 rfl) (by decide) ?_
      refine K_M_close hc hw lk_2531 hfm ⟨Nat.le_of_ble_eq_true rfl, Nat.le_of_ble_eq_true rfl⟩ ⟨by show cells + 1 ≤ 601024; omega, by show slots + 6 ≤ 7293034; omega⟩ hl.1 (Nat.le_of_ble_eq_true rfl) (dq tk_LW_21 42 rfl) (fun H locs hw _ => ?_)
      refine lv_istore (lv' := [(6, .int b0), (5, .int 1), (4, .int (nI (6 * k))), (0, .ref b), (1, .ref (Z.1 + 0)), (2, .ref (Z.1 + 566)), (3, .ref (Z.1 + 674))]) hx hb (dq tk_LW_21 43 rfl) hl (by decide) rfl (fun ls hl => ?_)
      refine lv_aload_n hx hb (dq tk_LW_21 44 rfl) rfl (lv_at hl 5 rfl) ?_
      refine K_M_thrown hc hw lk_2085 hft ⟨Nat.le_of_ble_eq_true rfl, Nat.le_of_ble_eq_true rfl⟩ ⟨by show cells + 1 ≤ 601024; omega, by show slots + 6 ≤ 7293034; omega⟩ hl.1 (Nat.le_of_ble_eq_true rfl) (dq tk_LW_21 45 rfl) (fun H locs hw _ => ?_)
      refine lv_iload hx hb (dq tk_LW_21 46 rfl) (lv_at hl 1 rfl) ?_
      refine lv_icmp_eq (tgt := 2105) hx hb (dq tk_LW_21 47 rfl) (by decide) (fun _ => ?_) (fun g => absurd rfl g)
      refine lv_iload hx hb (dq tk_LW_21 50 rfl) (lv_at hl 1 rfl) ?_
      refine lv_if_ne (tgt := 2129) hx hb (dq tk_LW_21 51 rfl) (by decide) (fun _ => ?_) (fun g => absurd g (by decide))
      refine lv_goto (tgt := 2404) hx hb (dq tk_LW_22 4 rfl) (by decide) ?_
      refine W.widen (k := cells + 3) (n := slots + 18) (by omega) (by omega) ?_
      exact kk _ _ _ _ _ hI' hw (lv_sub hl [2, 3, 4, 5, 6] rfl)
    | some r =>
      replace hft : fM_thrown N μ' = some 0 := hft
      obtain rfl : r = b0 := hq r rfl
      by_cases hr0 : r = 0
      · skip
        refine lv_aload_n hx hb (dq tk_LW_21 9 rfl) rfl (lv_at hl 2 rfl) ?_
        refine lv_aload_n hx hb (dq tk_LW_21 10 rfl) rfl (lv_at hl 1 rfl) ?_
        refine lv_iload hx hb (dq tk_LW_21 11 rfl) (lv_at hl 0 rfl) ?_
        refine lv_iconst (v := 1) hx hb (dq tk_LW_21 12 rfl) (by decide) ?_
        refine lv_iadd hx hb (dq tk_LW_21 13 rfl) ?_
        refine l_sld hc hw hX hbl hbZ (k := 6 * k + 1) (a := a1) (nI_add (6 * k) 1) (by omega) hL ha1 (dq tk_LW_21 14 rfl) ?_
        refine lv_aload_n hx hb (dq tk_LW_21 15 rfl) rfl (lv_at hl 1 rfl) ?_
        refine lv_iload hx hb (dq tk_LW_21 16 rfl) (lv_at hl 0 rfl) ?_
        refine lv_iconst (v := 2) hx hb (dq tk_LW_21 17 rfl) (by decide) ?_
        refine lv_iadd hx hb (dq tk_LW_21 18 rfl) ?_
        refine l_sld hc hw hX hbl hbZ (k := 6 * k + 2) (a := a2) (nI_add (6 * k) 2) (by omega) hL ha2 (dq tk_LW_21 19 rfl) ?_
        refine lv_if_eq (tgt := 2061) hx hb (dq tk_LW_21 20 rfl) (by decide) (fun g => absurd g hz) (fun _ => ?_)
        refine lv_iconst (v := 1) hx hb (dq tk_LW_21 21 rfl) (by decide) ?_
        refine lv_goto (tgt := 2062) hx hb (dq tk_LW_21 22 rfl) (by decide) ?_
        refine lv_aload_n hx hb (dq tk_LW_21 24 rfl) rfl (lv_at hl 4 rfl) ?_
        refine KL_close_s hst hc hw lk_1553 hfx ⟨Nat.le_of_ble_eq_true rfl, Nat.le_of_ble_eq_true rfl⟩ ⟨by show cells + 1 ≤ 601024; omega, by show slots + 6 ≤ 7293034; omega⟩ hl.1 (Nat.le_of_ble_eq_true rfl) (dq tk_LW_21 25 rfl) (fun H locs hw => ?_)
        refine lv_istore (lv' := [(5, .int 0), (4, .int (nI (6 * k))), (0, .ref b), (1, .ref (Z.1 + 0)), (2, .ref (Z.1 + 566)), (3, .ref (Z.1 + 674))]) hx hb (dq tk_LW_21 26 rfl) hl (by decide) rfl (fun ls hl => ?_)
        refine lv_aload_n hx hb (dq tk_LW_21 27 rfl) rfl (lv_at hl 4 rfl) ?_
        refine lv_aload_n hx hb (dq tk_LW_21 28 rfl) rfl (lv_at hl 2 rfl) ?_
        refine lv_iload hx hb (dq tk_LW_21 29 rfl) (lv_at hl 1 rfl) ?_
        refine lv_iconst (v := 1) hx hb (dq tk_LW_21 30 rfl) (by decide) ?_
        refine lv_iadd hx hb (dq tk_LW_21 31 rfl) ?_
        refine l_sld hc hw hX hbl hbZ (k := 6 * k + 1) (a := a1) (nI_add (6 * k) 1) (by omega) hL ha1 (dq tk_LW_21 32 rfl) ?_
        refine lv_aload_n hx hb (dq tk_LW_21 33 rfl) rfl (lv_at hl 2 rfl) ?_
        refine lv_iload hx hb (dq tk_LW_21 34 rfl) (lv_at hl 1 rfl) ?_
        refine lv_iconst (v := 2) hx hb (dq tk_LW_21 35 rfl) (by decide) ?_
        refine lv_iadd hx hb (dq tk_LW_21 36 rfl) ?_
        refine l_sld hc hw hX hbl hbZ (k := 6 * k + 2) (a := a2) (nI_add (6 * k) 2) (by omega) hL ha2 (dq tk_LW_21 37 rfl) ?_
        refine lv_if_eq (tgt := 2088) hx hb (dq tk_LW_21 38 rfl) (by decide) (fun g => absurd g hz) (fun _ => ?_)
        refine lv_iconst (v := 1) hx hb (dq tk_LW_21 39 rfl) (by decide) ?_
        refine lv_goto (tgt := 2089) hx hb (dq tk_LW_21 40 rfl) (by decide) ?_
        refine K_M_close hc hw lk_2531 hfm ⟨Nat.le_of_ble_eq_true rfl, Nat.le_of_ble_eq_true rfl⟩ ⟨by show cells + 1 ≤ 601024; omega, by show slots + 6 ≤ 7293034; omega⟩ hl.1 (Nat.le_of_ble_eq_true rfl) (dq tk_LW_21 42 rfl) (fun H locs hw _ => ?_)
        refine lv_istore (lv' := [(6, .int r), (5, .int 0), (4, .int (nI (6 * k))), (0, .ref b), (1, .ref (Z.1 + 0)), (2, .ref (Z.1 + 566)), (3, .ref (Z.1 + 674))]) hx hb (dq tk_LW_21 43 rfl) hl (by decide) rfl (fun ls hl => ?_)
        refine lv_aload_n hx hb (dq tk_LW_21 44 rfl) rfl (lv_at hl 5 rfl) ?_
        refine K_M_thrown hc hw lk_2085 hft ⟨Nat.le_of_ble_eq_true rfl, Nat.le_of_ble_eq_true rfl⟩ ⟨by show cells + 1 ≤ 601024; omega, by show slots + 6 ≤ 7293034; omega⟩ hl.1 (Nat.le_of_ble_eq_true rfl) (dq tk_LW_21 45 rfl) (fun H locs hw _ => ?_)
        refine lv_iload hx hb (dq tk_LW_21 46 rfl) (lv_at hl 1 rfl) ?_
        refine lv_icmp_eq (tgt := 2105) hx hb (dq tk_LW_21 47 rfl) (by decide) (fun _ => ?_) (fun g => absurd rfl g)
        refine lv_iload hx hb (dq tk_LW_21 50 rfl) (lv_at hl 1 rfl) ?_
        refine lv_if_ne (tgt := 2129) hx hb (dq tk_LW_21 51 rfl) (by decide) (fun g => absurd rfl g) (fun _ => ?_)
        refine lv_aload_n hx hb (dq tk_LW_21 52 rfl) rfl (lv_at hl 6 rfl) ?_
        refine lv_iconst (v := 0) hx hb (dq tk_LW_21 53 rfl) (by decide) ?_
        refine l_lald hc hw (v := 0) (sJ_at.trans (if_pos hr0)) (dq tk_LW_21 54 rfl) ?_
        refine lv_iload hx hb (dq tk_LW_21 55 rfl) (lv_at hl 0 rfl) ?_
        refine lv_if_eq (tgt := 2122) hx hb (dq tk_LW_21 56 rfl) (by decide) (fun _ => ?_) (fun g => absurd hr0 g)
        refine lv_lconst (v := 0) hx hb (dq tk_LW_21 59 rfl) (by decide) ?_
        refine W.lcmp hx hb (dq tk_LW_22 0 rfl) ?_
        refine tst (congrArg Value.int lg_cmp_self) ?_
        refine lv_if_eq (tgt := 2129) hx hb (dq tk_LW_22 1 rfl) (by decide) (fun _ => ?_) (fun g => absurd rfl g)
        refine lv_goto (tgt := 2404) hx hb (dq tk_LW_22 4 rfl) (by decide) ?_
        refine W.widen (k := cells + 3) (n := slots + 18) (by omega) (by omega) ?_
        exact kk _ _ _ _ _ (hLO.1 _ _ _ hI') hw (lv_sub hl [2, 3, 4, 5, 6] rfl)
      · skip
        refine lv_aload_n hx hb (dq tk_LW_21 9 rfl) rfl (lv_at hl 2 rfl) ?_
        refine lv_aload_n hx hb (dq tk_LW_21 10 rfl) rfl (lv_at hl 1 rfl) ?_
        refine lv_iload hx hb (dq tk_LW_21 11 rfl) (lv_at hl 0 rfl) ?_
        refine lv_iconst (v := 1) hx hb (dq tk_LW_21 12 rfl) (by decide) ?_
        refine lv_iadd hx hb (dq tk_LW_21 13 rfl) ?_
        refine l_sld hc hw hX hbl hbZ (k := 6 * k + 1) (a := a1) (nI_add (6 * k) 1) (by omega) hL ha1 (dq tk_LW_21 14 rfl) ?_
        refine lv_aload_n hx hb (dq tk_LW_21 15 rfl) rfl (lv_at hl 1 rfl) ?_
        refine lv_iload hx hb (dq tk_LW_21 16 rfl) (lv_at hl 0 rfl) ?_
        refine lv_iconst (v := 2) hx hb (dq tk_LW_21 17 rfl) (by decide) ?_
        refine lv_iadd hx hb (dq tk_LW_21 18 rfl) ?_
        refine l_sld hc hw hX hbl hbZ (k := 6 * k + 2) (a := a2) (nI_add (6 * k) 2) (by omega) hL ha2 (dq tk_LW_21 19 rfl) ?_
        refine lv_if_eq (tgt := 2061) hx hb (dq tk_LW_21 20 rfl) (by decide) (fun g => absurd g hz) (fun _ => ?_)
        refine lv_iconst (v := 1) hx hb (dq tk_LW_21 21 rfl) (by decide) ?_
        refine lv_goto (tgt := 2062) hx hb (dq tk_LW_21 22 rfl) (by decide) ?_
        refine lv_aload_n hx hb (dq tk_LW_21 24 rfl) rfl (lv_at hl 4 rfl) ?_
        refine KL_close_s hst hc hw lk_1553 hfx ⟨Nat.le_of_ble_eq_true rfl, Nat.le_of_ble_eq_true rfl⟩ ⟨by show cells + 1 ≤ 601024; omega, by show slots + 6 ≤ 7293034; omega⟩ hl.1 (Nat.le_of_ble_eq_true rfl) (dq tk_LW_21 25 rfl) (fun H locs hw => ?_)
        refine lv_istore (lv' := [(5, .int 0), (4, .int (nI (6 * k))), (0, .ref b), (1, .ref (Z.1 + 0)), (2, .ref (Z.1 + 566)), (3, .ref (Z.1 + 674))]) hx hb (dq tk_LW_21 26 rfl) hl (by decide) rfl (fun ls hl => ?_)
        refine lv_aload_n hx hb (dq tk_LW_21 27 rfl) rfl (lv_at hl 4 rfl) ?_
        refine lv_aload_n hx hb (dq tk_LW_21 28 rfl) rfl (lv_at hl 2 rfl) ?_
        refine lv_iload hx hb (dq tk_LW_21 29 rfl) (lv_at hl 1 rfl) ?_
        refine lv_iconst (v := 1) hx hb (dq tk_LW_21 30 rfl) (by decide) ?_
        refine lv_iadd hx hb (dq tk_LW_21 31 rfl) ?_
        refine l_sld hc hw hX hbl hbZ (k := 6 * k + 1) (a := a1) (nI_add (6 * k) 1) (by omega) hL ha1 (dq tk_LW_21 32 rfl) ?_
        refine lv_aload_n hx hb (dq tk_LW_21 33 rfl) rfl (lv_at hl 2 rfl) ?_
        refine lv_iload hx hb (dq tk_LW_21 34 rfl) (lv_at hl 1 rfl) ?_
        refine lv_iconst (v := 2) hx hb (dq tk_LW_21 35 rfl) (by decide) ?_
        refine lv_iadd hx hb (dq tk_LW_21 36 rfl) ?_
        refine l_sld hc hw hX hbl hbZ (k := 6 * k + 2) (a := a2) (nI_add (6 * k) 2) (by omega) hL ha2 (dq tk_LW_21 37 rfl) ?_
        refine lv_if_eq (tgt := 2088) hx hb (dq tk_LW_21 38 rfl) (by decide) (fun g => absurd g hz) (fun _ => ?_)
        refine lv_iconst (v := 1) hx hb (dq tk_LW_21 39 rfl) (by decide) ?_
        refine lv_goto (tgt := 2089) hx hb (dq tk_LW_21 40 rfl) (by decide) ?_
        refine K_M_close hc hw lk_2531 hfm ⟨Nat.le_of_ble_eq_true rfl, Nat.le_of_ble_eq_true rfl⟩ ⟨by show cells + 1 ≤ 601024; omega, by show slots + 6 ≤ 7293034; omega⟩ hl.1 (Nat.le_of_ble_eq_true rfl) (dq tk_LW_21 42 rfl) (fun H locs hw _ => ?_)
        refine lv_istore (lv' := [(6, .int r), (5, .int 0), (4, .int (nI (6 * k))), (0, .ref b), (1, .ref (Z.1 + 0)), (2, .ref (Z.1 + 566)), (3, .ref (Z.1 + 674))]) hx hb (dq tk_LW_21 43 rfl) hl (by decide) rfl (fun ls hl => ?_)
        refine lv_aload_n hx hb (dq tk_LW_21 44 rfl) rfl (lv_at hl 5 rfl) ?_
        refine K_M_thrown hc hw lk_2085 hft ⟨Nat.le_of_ble_eq_true rfl, Nat.le_of_ble_eq_true rfl⟩ ⟨by show cells + 1 ≤ 601024; omega, by show slots + 6 ≤ 7293034; omega⟩ hl.1 (Nat.le_of_ble_eq_true rfl) (dq tk_LW_21 45 rfl) (fun H locs hw _ => ?_)
        refine lv_iload hx hb (dq tk_LW_21 46 rfl) (lv_at hl 1 rfl) ?_
        refine lv_icmp_eq (tgt := 2105) hx hb (dq tk_LW_21 47 rfl) (by decide) (fun _ => ?_) (fun g => absurd rfl g)
        refine lv_iload hx hb (dq tk_LW_21 50 rfl) (lv_at hl 1 rfl) ?_
        refine lv_if_ne (tgt := 2129) hx hb (dq tk_LW_21 51 rfl) (by decide) (fun g => absurd rfl g) (fun _ => ?_)
        refine lv_aload_n hx hb (dq tk_LW_21 52 rfl) rfl (lv_at hl 6 rfl) ?_
        refine lv_iconst (v := 0) hx hb (dq tk_LW_21 53 rfl) (by decide) ?_
        refine l_lald hc hw (v := 1) (sJ_at.trans (if_neg hr0)) (dq tk_LW_21 54 rfl) ?_
        refine lv_iload hx hb (dq tk_LW_21 55 rfl) (lv_at hl 0 rfl) ?_
        refine lv_if_eq (tgt := 2122) hx hb (dq tk_LW_21 56 rfl) (by decide) (fun g => absurd g hr0) (fun _ => ?_)
        refine lv_lconst (v := 1) hx hb (dq tk_LW_21 57 rfl) (by decide) ?_
        refine lv_goto (tgt := 2123) hx hb (dq tk_LW_21 58 rfl) (by decide) ?_
        refine W.lcmp hx hb (dq tk_LW_22 0 rfl) ?_
        refine tst (congrArg Value.int lg_cmp_self) ?_
        refine lv_if_eq (tgt := 2129) hx hb (dq tk_LW_22 1 rfl) (by decide) (fun _ => ?_) (fun g => absurd rfl g)
        refine lv_goto (tgt := 2404) hx hb (dq tk_LW_22 4 rfl) (by decide) ?_
        refine W.widen (k := cells + 3) (n := slots + 18) (by omega) (by omega) ?_
        exact kk _ _ _ _ _ (hLO.1 _ _ _ hI') hw (lv_sub hl [2, 3, 4, 5, 6] rfl)
set_option maxRecDepth 10000 in
theorem w_law_31 {N b L k : Nat} {xs : Nat → Int32} {Inv : St → St → Prop} (hLO : LawOk N Inv) (hst : l.stackTraces = false) (hc : Cxz p s m meth c #[Value.ref b] code "LabourExchangeLaw" 8 Z) (hX : va_X b L xs s s.heap) (hbl : b < s.heap.size) (hbZ : b < Z.1) (hL : L ≤ 3072) (hk : 6 * k + 6 ≤ L) (hI : Inv σ μ) (hcl0 : cells + 3 ≤ 601024 ∧ slots + 18 ≤ 7293034) {ls : Array Slot} (hw : Wd Z (cmb σ μ) s H locs) (hl : lv_has ls 8 [(4, .int (nI (6 * k))), (0, .ref b), (1, .ref (Z.1 + 0)), (2, .ref (Z.1 + 566)), (3, .ref (Z.1 + 674))])
    (kk : ∀ (σ1 μ1 : St) (H1 : Heap) (locs1 : List Loc) (ls1 : Array Slot), Inv σ1 μ1 → Wd Z (cmb σ1 μ1) s H1 locs1 → lv_has ls1 8 [(4, .int (nI (6 * k))), (0, .ref b), (1, .ref (Z.1 + 0)), (2, .ref (Z.1 + 566)), (3, .ref (Z.1 + 674))] → W p l e room_1 s m #[Value.ref b] below meth c H1 locs1 (cells + 3) (slots + 18) Q (F0 m 2404 ls1 [])) : W p l e room_1 s m #[Value.ref b] below meth c H locs cells slots Q (F0 m 2132 ls []) := by
  have hx := hc.hx
  have hb := hc.hb
  obtain ⟨h1, h2⟩ := hcl0
  obtain ⟨a1, ha1⟩ : ∃ a, xs (6 * k + 1) = a := ⟨_, rfl⟩
  obtain ⟨a2, ha2⟩ : ∃ a, xs (6 * k + 2) = a := ⟨_, rfl⟩
  obtain ⟨q, σ', b0, μ', hfx, hfm, hft, hq, hI'⟩ := (hLO.2.2.2.2.2.2.2.2.2.2.2.2.2.2.2.2.2.2.2.2.2.2.2.2.2.2.2.2.2.2.2.2.1 σ μ a1 a2 hI)
  cases q with
  | none =>
    replace hft : fM_thrown N μ' = some 1 := hft
    refine lv_aload_n hx hb (dq tk_LW_22 5 rfl) rfl (lv_at hl 2 rfl) ?_
    refine lv_aload_n hx hb (dq tk_LW_22 6 rfl) rfl (lv_at hl 1 rfl) ?_
    refine lv_iload hx hb (dq tk_LW_22 7 rfl) (lv_at hl 0 rfl) ?_
    refine lv_iconst (v := 1) hx hb (dq tk_LW_22 8 rfl) (by decide) ?_
    refine lv_iadd hx hb (dq tk_LW_22 9 rfl) ?_
    refine l_sld hc hw hX hbl hbZ (k := 6 * k + 1) (a := a1) (nI_add (6 * k) 1) (by omega) hL ha1 (dq tk_LW_22 10 rfl) ?_
    refine lv_aload_n hx hb (dq tk_LW_22 11 rfl) rfl (lv_at hl 1 rfl) ?_
    refine lv_iload hx hb (dq tk_LW_22 12 rfl) (lv_at hl 0 rfl) ?_
    refine lv_iconst (v := 2) hx hb (dq tk_LW_22 13 rfl) (by decide) ?_
    refine lv_iadd hx hb (dq tk_LW_22 14 rfl) ?_
    refine l_sld hc hw hX hbl hbZ (k := 6 * k + 2) (a := a2) (nI_add (6 * k) 2) (by omega) hL ha2 (dq tk_LW_22 15 rfl) ?_
    refine lv_aload_n hx hb (dq tk_LW_22 16 rfl) rfl (lv_at hl 4 rfl) ?_
    refine KL_caseOf_n hst hc hw lk_1560 hfx ⟨Nat.le_of_ble_eq_true rfl, Nat.le_of_ble_eq_true rfl⟩ ⟨by show cells + 2 ≤ 601024; omega, by show slots + 12 ≤ 7293034; omega⟩ hl.1 (Nat.le_of_ble_eq_true rfl) (dq tk_LW_22 17 rfl) (fun H locs hw => ?_)
    refine lv_istore (lv' := [(5, .int 1), (4, .int (nI (6 * k))), (0, .ref b), (1, .ref (Z.1 + 0)), (2, .ref (Z.1 + 566)), (3, .ref (Z.1 + 674))]) hx hb (dq tk_LW_22 18 rfl) hl (by decide) rfl (fun ls hl => ?_)
    refine lv_aload_n hx hb (dq tk_LW_22 19 rfl) rfl (lv_at hl 4 rfl) ?_
    refine lv_aload_n hx hb (dq tk_LW_22 20 rfl) rfl (lv_at hl 2 rfl) ?_
    refine lv_iload hx hb (dq tk_LW_22 21 rfl) (lv_at hl 1 rfl) ?_
    refine lv_iconst (v := 1) hx hb (dq tk_LW_22 22 rfl) (by decide) ?_
    refine lv_iadd hx hb (dq tk_LW_22 23 rfl) ?_
    refine l_sld hc hw hX hbl hbZ (k := 6 * k + 1) (a := a1) (nI_add (6 * k) 1) (by omega) hL ha1 (dq tk_LW_22 24 rfl) ?_
    refine lv_aload_n hx hb (dq tk_LW_22 25 rfl) rfl (lv_at hl 2 rfl) ?_
    refine lv_iload hx hb (dq tk_LW_22 26 rfl) (lv_at hl 1 rfl) ?_
    refine lv_iconst (v := 2) hx hb (dq tk_LW_22 27 rfl) (by decide) ?_
    refine lv_iadd hx hb (dq tk_LW_22 28 rfl) ?_
    refine l_sld hc hw hX hbl hbZ (k := 6 * k + 2) (a := a2) (nI_add (6 * k) 2) (by omega) hL ha2 (dq tk_LW_22 29 rfl) ?_
    refine K_M_caseOf hc hw lk_2535 hfm ⟨Nat.le_of_ble_eq_true rfl, Nat.le_of_ble_eq_true rfl⟩ ⟨by show cells + 2 ≤ 601024; omega, by show slots + 12 ≤ 7293034; omega⟩ hl.1 (Nat.le_of_ble_eq_true rfl) (dq tk_LW_22 30 rfl) (fun H locs hw _ => ?_)
    refine lv_istore (lv' := [(6, .int b0), (5, .int 1), (4, .int (nI (6 * k))), (0, .ref b), (1, .ref (Z.1 + 0)), (2, .ref (Z.1 + 566)), (3, .ref (Z.1 + 674))]) hx hb (dq tk_LW_22 31 rfl) hl (by decide) rfl (fun ls hl => ?_)
    refine lv_aload_n hx hb (dq tk_LW_22 32 rfl) rfl (lv_at hl 5 rfl) ?_
    refine K_M_thrown hc hw lk_2085 hft ⟨Nat.le_of_ble_eq_true rfl, Nat.le_of_ble_eq_true rfl⟩ ⟨by show cells + 2 ≤ 601024; omega, by show slots + 12 ≤ 7293034; omega⟩ hl.1 (Nat.le_of_ble_eq_true rfl) (dq tk_LW_22 33 rfl) (fun H locs hw _ => ?_)
    refine lv_iload hx hb (dq tk_LW_22 34 rfl) (lv_at hl 1 rfl) ?_
    refine lv_icmp_eq (tgt := 2180) hx hb (dq tk_LW_22 35 rfl) (by decide) (fun _ => ?_) (fun g => absurd rfl g)
    refine lv_iload hx hb (dq tk_LW_22 38 rfl) (lv_at hl 1 rfl) ?_
    refine lv_if_ne (tgt := 2197) hx hb (dq tk_LW_22 39 rfl) (by decide) (fun _ => ?_) (fun g => absurd g (by decide))
    refine lv_goto (tgt := 2404) hx hb (dq tk_LW_22 49 rfl) (by decide) ?_
    refine W.widen (k := cells + 3) (n := slots + 18) (by omega) (by omega) ?_
    exact kk _ _ _ _ _ hI' hw (lv_sub hl [2, 3, 4, 5, 6] rfl)
  | some r =>
    replace hft : fM_thrown N μ' = some 0 := hft
    obtain rfl : r = b0 := hq r rfl
    refine lv_aload_n hx hb (dq tk_LW_22 5 rfl) rfl (lv_at hl 2 rfl) ?_
    refine lv_aload_n hx hb (dq tk_LW_22 6 rfl) rfl (lv_at hl 1 rfl) ?_
    refine lv_iload hx hb (dq tk_LW_22 7 rfl) (lv_at hl 0 rfl) ?_
    refine lv_iconst (v := 1) hx hb (dq tk_LW_22 8 rfl) (by decide) ?_
    refine lv_iadd hx hb (dq tk_LW_22 9 rfl) ?_
    refine l_sld hc hw hX hbl hbZ (k := 6 * k + 1) (a := a1) (nI_add (6 * k) 1) (by omega) hL ha1 (dq tk_LW_22 10 rfl) ?_
    refine lv_aload_n hx hb (dq tk_LW_22 11 rfl) rfl (lv_at hl 1 rfl) ?_
    refine lv_iload hx hb (dq tk_LW_22 12 rfl) (lv_at hl 0 rfl) ?_
    refine lv_iconst (v := 2) hx hb (dq tk_LW_22 13 rfl) (by decide) ?_
    refine lv_iadd hx hb (dq tk_LW_22 14 rfl) ?_
    refine l_sld hc hw hX hbl hbZ (k := 6 * k + 2) (a := a2) (nI_add (6 * k) 2) (by omega) hL ha2 (dq tk_LW_22 15 rfl) ?_
    refine lv_aload_n hx hb (dq tk_LW_22 16 rfl) rfl (lv_at hl 4 rfl) ?_
    refine KL_caseOf_s hst hc hw lk_1560 hfx ⟨Nat.le_of_ble_eq_true rfl, Nat.le_of_ble_eq_true rfl⟩ ⟨by show cells + 2 ≤ 601024; omega, by show slots + 12 ≤ 7293034; omega⟩ hl.1 (Nat.le_of_ble_eq_true rfl) (dq tk_LW_22 17 rfl) (fun H locs hw => ?_)
    refine lv_istore (lv' := [(5, .int 0), (4, .int (nI (6 * k))), (0, .ref b), (1, .ref (Z.1 + 0)), (2, .ref (Z.1 + 566)), (3, .ref (Z.1 + 674))]) hx hb (dq tk_LW_22 18 rfl) hl (by decide) rfl (fun ls hl => ?_)
    refine lv_aload_n hx hb (dq tk_LW_22 19 rfl) rfl (lv_at hl 4 rfl) ?_
    refine lv_aload_n hx hb (dq tk_LW_22 20 rfl) rfl (lv_at hl 2 rfl) ?_
    refine lv_iload hx hb (dq tk_LW_22 21 rfl) (lv_at hl 1 rfl) ?_
    refine lv_iconst (v := 1) hx hb (dq tk_LW_22 22 rfl) (by decide) ?_
    refine lv_iadd hx hb (dq tk_LW_22 23 rfl) ?_
    refine l_sld hc hw hX hbl hbZ (k := 6 * k + 1) (a := a1) (nI_add (6 * k) 1) (by omega) hL ha1 (dq tk_LW_22 24 rfl) ?_
    refine lv_aload_n hx hb (dq tk_LW_22 25 rfl) rfl (lv_at hl 2 rfl) ?_
    refine lv_iload hx hb (dq tk_LW_22 26 rfl) (lv_at hl 1 rfl) ?_
    refine lv_iconst (v := 2) hx hb (dq tk_LW_22 27 rfl) (by decide) ?_
    refine lv_iadd hx hb (dq tk_LW_22 28 rfl) ?_
    refine l_sld hc hw hX hbl hbZ (k := 6 * k + 2) (a := a2) (nI_add (6 * k) 2) (by omega) hL ha2 (dq tk_LW_22 29 rfl) ?_
    refine K_M_caseOf hc hw lk_2535 hfm ⟨Nat.le_of_ble_eq_true rfl, Nat.le_of_ble_eq_true rfl⟩ ⟨by show cells + 2 ≤ 601024; omega, by show slots + 12 ≤ 7293034; omega⟩ hl.1 (Nat.le_of_ble_eq_true rfl) (dq tk_LW_22 30 rfl) (fun H locs hw _ => ?_)
    refine lv_istore (lv' := [(6, .int r), (5, .int 0), (4, .int (nI (6 * k))), (0, .ref b), (1, .ref (Z.1 + 0)), (2, .ref (Z.1 + 566)), (3, .ref (Z.1 + 674))]) hx hb (dq tk_LW_22 31 rfl) hl (by decide) rfl (fun ls hl => ?_)
    refine lv_aload_n hx hb (dq tk_LW_22 32 rfl) rfl (lv_at hl 5 rfl) ?_
    refine K_M_thrown hc hw lk_2085 hft ⟨Nat.le_of_ble_eq_true rfl, Nat.le_of_ble_eq_true rfl⟩ ⟨by show cells + 2 ≤ 601024; omega, by show slots + 12 ≤ 7293034; omega⟩ hl.1 (Nat.le_of_ble_eq_true rfl) (dq tk_LW_22 33 rfl) (fun H locs hw _ => ?_)
    refine lv_iload hx hb (dq tk_LW_22 34 rfl) (lv_at hl 1 rfl) ?_
    refine lv_icmp_eq (tgt := 2180) hx hb (dq tk_LW_22 35 rfl) (by decide) (fun _ => ?_) (fun g => absurd rfl g)
    refine lv_iload hx hb (dq tk_LW_22 38 rfl) (lv_at hl 1 rfl) ?_
    refine lv_if_ne (tgt := 2197) hx hb (dq tk_LW_22 39 rfl) (by decide) (fun g => absurd rfl g) (fun _ => ?_)
    refine lv_aload_n hx hb (dq tk_LW_22 40 rfl) rfl (lv_at hl 6 rfl) ?_
    refine lv_iconst (v := 0) hx hb (dq tk_LW_22 41 rfl) (by decide) ?_
    refine l_lald hc hw (v := r.toInt64) sJ_at (dq tk_LW_22 42 rfl) ?_
    refine lv_iload hx hb (dq tk_LW_22 43 rfl) (lv_at hl 0 rfl) ?_
    refine lv_i2l hx hb (dq tk_LW_22 44 rfl) rfl ?_
    refine W.lcmp hx hb (dq tk_LW_22 45 rfl) ?_
    refine tst (congrArg Value.int lg_cmp_self) ?_
    refine lv_if_eq (tgt := 2197) hx hb (dq tk_LW_22 46 rfl) (by decide) (fun _ => ?_) (fun g => absurd rfl g)
    refine lv_goto (tgt := 2404) hx hb (dq tk_LW_22 49 rfl) (by decide) ?_
    refine W.widen (k := cells + 3) (n := slots + 18) (by omega) (by omega) ?_
    exact kk _ _ _ _ _ (hLO.1 _ _ _ hI') hw (lv_sub hl [2, 3, 4, 5, 6] rfl)
set_option maxRecDepth 10000 in
theorem w_law_32 {N b L k : Nat} {xs : Nat → Int32} {Inv : St → St → Prop} (hLO : LawOk N Inv) (hst : l.stackTraces = false) (hc : Cxz p s m meth c #[Value.ref b] code "LabourExchangeLaw" 8 Z) (hX : va_X b L xs s s.heap) (hbl : b < s.heap.size) (hbZ : b < Z.1) (hL : L ≤ 3072) (hk : 6 * k + 6 ≤ L) (hI : Inv σ μ) (hcl0 : cells + 3 ≤ 601024 ∧ slots + 18 ≤ 7293034) {ls : Array Slot} (hw : Wd Z (cmb σ μ) s H locs) (hl : lv_has ls 8 [(4, .int (nI (6 * k))), (0, .ref b), (1, .ref (Z.1 + 0)), (2, .ref (Z.1 + 566)), (3, .ref (Z.1 + 674))])
    (kk : ∀ (σ1 μ1 : St) (H1 : Heap) (locs1 : List Loc) (ls1 : Array Slot), Inv σ1 μ1 → Wd Z (cmb σ1 μ1) s H1 locs1 → lv_has ls1 8 [(4, .int (nI (6 * k))), (0, .ref b), (1, .ref (Z.1 + 0)), (2, .ref (Z.1 + 566)), (3, .ref (Z.1 + 674))] → W p l e room_1 s m #[Value.ref b] below meth c H1 locs1 (cells + 3) (slots + 18) Q (F0 m 2404 ls1 [])) : W p l e room_1 s m #[Value.ref b] below meth c H locs cells slots Q (F0 m 2200 ls []) := by
  have hx := hc.hx
  have hb := hc.hb
  obtain ⟨h1, h2⟩ := hcl0
  obtain ⟨a1, ha1⟩ : ∃ a, xs (6 * k + 1) = a := ⟨_, rfl⟩
  obtain ⟨a2, ha2⟩ : ∃ a, xs (6 * k + 2) = a := ⟨_, rfl⟩
  obtain ⟨a3, ha3⟩ : ∃ a, xs (6 * k + 3) = a := ⟨_, rfl⟩
  obtain ⟨q, σ', b0, μ', hfx, hfm, hft, hq, hI'⟩ := (hLO.2.2.2.2.2.2.2.2.2.2.2.2.2.2.2.2.2.2.2.2.2.2.2.2.2.2.2.2.2.2.2.2.2.1 σ μ a1 a2 a3 hI)
  cases q with
  | none =>
    replace hft : fM_thrown N μ' = some 1 := hft
    refine lv_aload_n hx hb (dq tk_LW_22 50 rfl) rfl (lv_at hl 2 rfl) ?_
    refine lv_aload_n hx hb (dq tk_LW_22 51 rfl) rfl (lv_at hl 1 rfl) ?_
    refine lv_iload hx hb (dq tk_LW_22 52 rfl) (lv_at hl 0 rfl) ?_
    refine lv_iconst (v := 1) hx hb (dq tk_LW_22 53 rfl) (by decide) ?_
    refine lv_iadd hx hb (dq tk_LW_22 54 rfl) ?_
    refine l_sld hc hw hX hbl hbZ (k := 6 * k + 1) (a := a1) (nI_add (6 * k) 1) (by omega) hL ha1 (dq tk_LW_22 55 rfl) ?_
    refine lv_aload_n hx hb (dq tk_LW_22 56 rfl) rfl (lv_at hl 1 rfl) ?_
    refine lv_iload hx hb (dq tk_LW_22 57 rfl) (lv_at hl 0 rfl) ?_
    refine lv_iconst (v := 2) hx hb (dq tk_LW_22 58 rfl) (by decide) ?_
    refine lv_iadd hx hb (dq tk_LW_22 59 rfl) ?_
    refine l_sld hc hw hX hbl hbZ (k := 6 * k + 2) (a := a2) (nI_add (6 * k) 2) (by omega) hL ha2 (dq tk_LW_23 0 rfl) ?_
    refine lv_aload_n hx hb (dq tk_LW_23 1 rfl) rfl (lv_at hl 1 rfl) ?_
    refine lv_iload hx hb (dq tk_LW_23 2 rfl) (lv_at hl 0 rfl) ?_
    refine lv_iconst (v := 3) hx hb (dq tk_LW_23 3 rfl) (by decide) ?_
    refine lv_iadd hx hb (dq tk_LW_23 4 rfl) ?_
    refine l_sld hc hw hX hbl hbZ (k := 6 * k + 3) (a := a3) (nI_add (6 * k) 3) (by omega) hL ha3 (dq tk_LW_23 5 rfl) ?_
    refine lv_aload_n hx hb (dq tk_LW_23 6 rfl) rfl (lv_at hl 4 rfl) ?_
    refine KL_attempt_n hst hc hw lk_1571 hfx ⟨Nat.le_of_ble_eq_true rfl, Nat.le_of_ble_eq_true rfl⟩ ⟨by show cells + 1 ≤ 601024; omega, by show slots + 6 ≤ 7293034; omega⟩ hl.1 (Nat.le_of_ble_eq_true rfl) (dq tk_LW_23 7 rfl) (fun H locs hw => ?_)
    refine lv_istore (lv' := [(5, .int 1), (4, .int (nI (6 * k))), (0, .ref b), (1, .ref (Z.1 + 0)), (2, .ref (Z.1 + 566)), (3, .ref (Z.1 + 674))]) hx hb (dq tk_LW_23 8 rfl) hl (by decide) rfl (fun ls hl => ?_)
    refine lv_aload_n hx hb (dq tk_LW_23 9 rfl) rfl (lv_at hl 4 rfl) ?_
    refine lv_aload_n hx hb (dq tk_LW_23 10 rfl) rfl (lv_at hl 2 rfl) ?_
    refine lv_iload hx hb (dq tk_LW_23 11 rfl) (lv_at hl 1 rfl) ?_
    refine lv_iconst (v := 1) hx hb (dq tk_LW_23 12 rfl) (by decide) ?_
    refine lv_iadd hx hb (dq tk_LW_23 13 rfl) ?_
    refine l_sld hc hw hX hbl hbZ (k := 6 * k + 1) (a := a1) (nI_add (6 * k) 1) (by omega) hL ha1 (dq tk_LW_23 14 rfl) ?_
    refine lv_aload_n hx hb (dq tk_LW_23 15 rfl) rfl (lv_at hl 2 rfl) ?_
    refine lv_iload hx hb (dq tk_LW_23 16 rfl) (lv_at hl 1 rfl) ?_
    refine lv_iconst (v := 2) hx hb (dq tk_LW_23 17 rfl) (by decide) ?_
    refine lv_iadd hx hb (dq tk_LW_23 18 rfl) ?_
    refine l_sld hc hw hX hbl hbZ (k := 6 * k + 2) (a := a2) (nI_add (6 * k) 2) (by omega) hL ha2 (dq tk_LW_23 19 rfl) ?_
    refine lv_aload_n hx hb (dq tk_LW_23 20 rfl) rfl (lv_at hl 2 rfl) ?_
    refine lv_iload hx hb (dq tk_LW_23 21 rfl) (lv_at hl 1 rfl) ?_
    refine lv_iconst (v := 3) hx hb (dq tk_LW_23 22 rfl) (by decide) ?_
    refine lv_iadd hx hb (dq tk_LW_23 23 rfl) ?_
    refine l_sld hc hw hX hbl hbZ (k := 6 * k + 3) (a := a3) (nI_add (6 * k) 3) (by omega) hL ha3 (dq tk_LW_23 24 rfl) ?_
    refine K_M_attempt hc hw lk_2543 hfm ⟨Nat.le_of_ble_eq_true rfl, Nat.le_of_ble_eq_true rfl⟩ ⟨by show cells + 1 ≤ 601024; omega, by show slots + 6 ≤ 7293034; omega⟩ hl.1 (Nat.le_of_ble_eq_true rfl) (dq tk_LW_23 25 rfl) (fun H locs hw _ => ?_)
    refine lv_istore (lv' := [(6, .int b0), (5, .int 1), (4, .int (nI (6 * k))), (0, .ref b), (1, .ref (Z.1 + 0)), (2, .ref (Z.1 + 566)), (3, .ref (Z.1 + 674))]) hx hb (dq tk_LW_23 26 rfl) hl (by decide) rfl (fun ls hl => ?_)
    refine lv_aload_n hx hb (dq tk_LW_23 27 rfl) rfl (lv_at hl 5 rfl) ?_
    refine K_M_thrown hc hw lk_2085 hft ⟨Nat.le_of_ble_eq_true rfl, Nat.le_of_ble_eq_true rfl⟩ ⟨by show cells + 1 ≤ 601024; omega, by show slots + 6 ≤ 7293034; omega⟩ hl.1 (Nat.le_of_ble_eq_true rfl) (dq tk_LW_23 28 rfl) (fun H locs hw _ => ?_)
    refine lv_iload hx hb (dq tk_LW_23 29 rfl) (lv_at hl 1 rfl) ?_
    refine lv_icmp_eq (tgt := 2260) hx hb (dq tk_LW_23 30 rfl) (by decide) (fun _ => ?_) (fun g => absurd rfl g)
    refine lv_iload hx hb (dq tk_LW_23 33 rfl) (lv_at hl 1 rfl) ?_
    refine lv_if_ne (tgt := 2277) hx hb (dq tk_LW_23 34 rfl) (by decide) (fun _ => ?_) (fun g => absurd g (by decide))
    refine lv_goto (tgt := 2404) hx hb (dq tk_LW_23 44 rfl) (by decide) ?_
    refine W.widen (k := cells + 3) (n := slots + 18) (by omega) (by omega) ?_
    exact kk _ _ _ _ _ hI' hw (lv_sub hl [2, 3, 4, 5, 6] rfl)
  | some r =>
    replace hft : fM_thrown N μ' = some 0 := hft
    obtain rfl : r = b0 := hq r rfl
    refine lv_aload_n hx hb (dq tk_LW_22 50 rfl) rfl (lv_at hl 2 rfl) ?_
    refine lv_aload_n hx hb (dq tk_LW_22 51 rfl) rfl (lv_at hl 1 rfl) ?_
    refine lv_iload hx hb (dq tk_LW_22 52 rfl) (lv_at hl 0 rfl) ?_
    refine lv_iconst (v := 1) hx hb (dq tk_LW_22 53 rfl) (by decide) ?_
    refine lv_iadd hx hb (dq tk_LW_22 54 rfl) ?_
    refine l_sld hc hw hX hbl hbZ (k := 6 * k + 1) (a := a1) (nI_add (6 * k) 1) (by omega) hL ha1 (dq tk_LW_22 55 rfl) ?_
    refine lv_aload_n hx hb (dq tk_LW_22 56 rfl) rfl (lv_at hl 1 rfl) ?_
    refine lv_iload hx hb (dq tk_LW_22 57 rfl) (lv_at hl 0 rfl) ?_
    refine lv_iconst (v := 2) hx hb (dq tk_LW_22 58 rfl) (by decide) ?_
    refine lv_iadd hx hb (dq tk_LW_22 59 rfl) ?_
    refine l_sld hc hw hX hbl hbZ (k := 6 * k + 2) (a := a2) (nI_add (6 * k) 2) (by omega) hL ha2 (dq tk_LW_23 0 rfl) ?_
    refine lv_aload_n hx hb (dq tk_LW_23 1 rfl) rfl (lv_at hl 1 rfl) ?_
    refine lv_iload hx hb (dq tk_LW_23 2 rfl) (lv_at hl 0 rfl) ?_
    refine lv_iconst (v := 3) hx hb (dq tk_LW_23 3 rfl) (by decide) ?_
    refine lv_iadd hx hb (dq tk_LW_23 4 rfl) ?_
    refine l_sld hc hw hX hbl hbZ (k := 6 * k + 3) (a := a3) (nI_add (6 * k) 3) (by omega) hL ha3 (dq tk_LW_23 5 rfl) ?_
    refine lv_aload_n hx hb (dq tk_LW_23 6 rfl) rfl (lv_at hl 4 rfl) ?_
    refine KL_attempt_s hst hc hw lk_1571 hfx ⟨Nat.le_of_ble_eq_true rfl, Nat.le_of_ble_eq_true rfl⟩ ⟨by show cells + 1 ≤ 601024; omega, by show slots + 6 ≤ 7293034; omega⟩ hl.1 (Nat.le_of_ble_eq_true rfl) (dq tk_LW_23 7 rfl) (fun H locs hw => ?_)
    refine lv_istore (lv' := [(5, .int 0), (4, .int (nI (6 * k))), (0, .ref b), (1, .ref (Z.1 + 0)), (2, .ref (Z.1 + 566)), (3, .ref (Z.1 + 674))]) hx hb (dq tk_LW_23 8 rfl) hl (by decide) rfl (fun ls hl => ?_)
    refine lv_aload_n hx hb (dq tk_LW_23 9 rfl) rfl (lv_at hl 4 rfl) ?_
    refine lv_aload_n hx hb (dq tk_LW_23 10 rfl) rfl (lv_at hl 2 rfl) ?_
    refine lv_iload hx hb (dq tk_LW_23 11 rfl) (lv_at hl 1 rfl) ?_
    refine lv_iconst (v := 1) hx hb (dq tk_LW_23 12 rfl) (by decide) ?_
    refine lv_iadd hx hb (dq tk_LW_23 13 rfl) ?_
    refine l_sld hc hw hX hbl hbZ (k := 6 * k + 1) (a := a1) (nI_add (6 * k) 1) (by omega) hL ha1 (dq tk_LW_23 14 rfl) ?_
    refine lv_aload_n hx hb (dq tk_LW_23 15 rfl) rfl (lv_at hl 2 rfl) ?_
    refine lv_iload hx hb (dq tk_LW_23 16 rfl) (lv_at hl 1 rfl) ?_
    refine lv_iconst (v := 2) hx hb (dq tk_LW_23 17 rfl) (by decide) ?_
    refine lv_iadd hx hb (dq tk_LW_23 18 rfl) ?_
    refine l_sld hc hw hX hbl hbZ (k := 6 * k + 2) (a := a2) (nI_add (6 * k) 2) (by omega) hL ha2 (dq tk_LW_23 19 rfl) ?_
    refine lv_aload_n hx hb (dq tk_LW_23 20 rfl) rfl (lv_at hl 2 rfl) ?_
    refine lv_iload hx hb (dq tk_LW_23 21 rfl) (lv_at hl 1 rfl) ?_
    refine lv_iconst (v := 3) hx hb (dq tk_LW_23 22 rfl) (by decide) ?_
    refine lv_iadd hx hb (dq tk_LW_23 23 rfl) ?_
    refine l_sld hc hw hX hbl hbZ (k := 6 * k + 3) (a := a3) (nI_add (6 * k) 3) (by omega) hL ha3 (dq tk_LW_23 24 rfl) ?_
    refine K_M_attempt hc hw lk_2543 hfm ⟨Nat.le_of_ble_eq_true rfl, Nat.le_of_ble_eq_true rfl⟩ ⟨by show cells + 1 ≤ 601024; omega, by show slots + 6 ≤ 7293034; omega⟩ hl.1 (Nat.le_of_ble_eq_true rfl) (dq tk_LW_23 25 rfl) (fun H locs hw _ => ?_)
    refine lv_istore (lv' := [(6, .int r), (5, .int 0), (4, .int (nI (6 * k))), (0, .ref b), (1, .ref (Z.1 + 0)), (2, .ref (Z.1 + 566)), (3, .ref (Z.1 + 674))]) hx hb (dq tk_LW_23 26 rfl) hl (by decide) rfl (fun ls hl => ?_)
    refine lv_aload_n hx hb (dq tk_LW_23 27 rfl) rfl (lv_at hl 5 rfl) ?_
    refine K_M_thrown hc hw lk_2085 hft ⟨Nat.le_of_ble_eq_true rfl, Nat.le_of_ble_eq_true rfl⟩ ⟨by show cells + 1 ≤ 601024; omega, by show slots + 6 ≤ 7293034; omega⟩ hl.1 (Nat.le_of_ble_eq_true rfl) (dq tk_LW_23 28 rfl) (fun H locs hw _ => ?_)
    refine lv_iload hx hb (dq tk_LW_23 29 rfl) (lv_at hl 1 rfl) ?_
    refine lv_icmp_eq (tgt := 2260) hx hb (dq tk_LW_23 30 rfl) (by decide) (fun _ => ?_) (fun g => absurd rfl g)
    refine lv_iload hx hb (dq tk_LW_23 33 rfl) (lv_at hl 1 rfl) ?_
    refine lv_if_ne (tgt := 2277) hx hb (dq tk_LW_23 34 rfl) (by decide) (fun g => absurd rfl g) (fun _ => ?_)
    refine lv_aload_n hx hb (dq tk_LW_23 35 rfl) rfl (lv_at hl 6 rfl) ?_
    refine lv_iconst (v := 0) hx hb (dq tk_LW_23 36 rfl) (by decide) ?_
    refine l_lald hc hw (v := r.toInt64) sJ_at (dq tk_LW_23 37 rfl) ?_
    refine lv_iload hx hb (dq tk_LW_23 38 rfl) (lv_at hl 0 rfl) ?_
    refine lv_i2l hx hb (dq tk_LW_23 39 rfl) rfl ?_
    refine W.lcmp hx hb (dq tk_LW_23 40 rfl) ?_
    refine tst (congrArg Value.int lg_cmp_self) ?_
    refine lv_if_eq (tgt := 2277) hx hb (dq tk_LW_23 41 rfl) (by decide) (fun _ => ?_) (fun g => absurd rfl g)
    refine lv_goto (tgt := 2404) hx hb (dq tk_LW_23 44 rfl) (by decide) ?_
    refine W.widen (k := cells + 3) (n := slots + 18) (by omega) (by omega) ?_
    exact kk _ _ _ _ _ (hLO.1 _ _ _ hI') hw (lv_sub hl [2, 3, 4, 5, 6] rfl)
set_option maxRecDepth 10000 in
theorem w_law_33 {N b L k : Nat} {xs : Nat → Int32} {Inv : St → St → Prop} (hLO : LawOk N Inv) (hst : l.stackTraces = false) (hc : Cxz p s m meth c #[Value.ref b] code "LabourExchangeLaw" 8 Z) (hX : va_X b L xs s s.heap) (hbl : b < s.heap.size) (hbZ : b < Z.1) (hL : L ≤ 3072) (hk : 6 * k + 6 ≤ L) (hI : Inv σ μ) (hcl0 : cells + 3 ≤ 601024 ∧ slots + 18 ≤ 7293034) {ls : Array Slot} (hw : Wd Z (cmb σ μ) s H locs) (hl : lv_has ls 8 [(4, .int (nI (6 * k))), (0, .ref b), (1, .ref (Z.1 + 0)), (2, .ref (Z.1 + 566)), (3, .ref (Z.1 + 674))])
    (kk : ∀ (σ1 μ1 : St) (H1 : Heap) (locs1 : List Loc) (ls1 : Array Slot), Inv σ1 μ1 → Wd Z (cmb σ1 μ1) s H1 locs1 → lv_has ls1 8 [(4, .int (nI (6 * k))), (0, .ref b), (1, .ref (Z.1 + 0)), (2, .ref (Z.1 + 566)), (3, .ref (Z.1 + 674))] → W p l e room_1 s m #[Value.ref b] below meth c H1 locs1 (cells + 3) (slots + 18) Q (F0 m 2404 ls1 [])) : W p l e room_1 s m #[Value.ref b] below meth c H locs cells slots Q (F0 m 2280 ls []) := by
  have hx := hc.hx
  have hb := hc.hb
  obtain ⟨h1, h2⟩ := hcl0
  obtain ⟨a1, ha1⟩ : ∃ a, xs (6 * k + 1) = a := ⟨_, rfl⟩
  obtain ⟨a2, ha2⟩ : ∃ a, xs (6 * k + 2) = a := ⟨_, rfl⟩
  obtain ⟨q, b0, μ', hfx, hfm, hft, hq, hI'⟩ := (hLO.2.2.2.2.2.2.2.2.2.2.2.2.2.2.2.2.2.2.2.2.2.2.2.2.2.2.2.2.2.2.2.2.2.2.1 σ μ a1 a2 hI)
  cases q with
  | none =>
    replace hft : fM_thrown N μ' = some 1 := hft
    refine lv_aload_n hx hb (dq tk_LW_23 45 rfl) rfl (lv_at hl 2 rfl) ?_
    refine lv_aload_n hx hb (dq tk_LW_23 46 rfl) rfl (lv_at hl 1 rfl) ?_
    refine lv_iload hx hb (dq tk_LW_23 47 rfl) (lv_at hl 0 rfl) ?_
    refine lv_iconst (v := 1) hx hb (dq tk_LW_23 48 rfl) (by decide) ?_
    refine lv_iadd hx hb (dq tk_LW_23 49 rfl) ?_
    refine l_sld hc hw hX hbl hbZ (k := 6 * k + 1) (a := a1) (nI_add (6 * k) 1) (by omega) hL ha1 (dq tk_LW_23 50 rfl) ?_
    refine lv_aload_n hx hb (dq tk_LW_23 51 rfl) rfl (lv_at hl 1 rfl) ?_
    refine lv_iload hx hb (dq tk_LW_23 52 rfl) (lv_at hl 0 rfl) ?_
    refine lv_iconst (v := 2) hx hb (dq tk_LW_23 53 rfl) (by decide) ?_
    refine lv_iadd hx hb (dq tk_LW_23 54 rfl) ?_
    refine l_sld hc hw hX hbl hbZ (k := 6 * k + 2) (a := a2) (nI_add (6 * k) 2) (by omega) hL ha2 (dq tk_LW_23 55 rfl) ?_
    refine lv_aload_n hx hb (dq tk_LW_23 56 rfl) rfl (lv_at hl 4 rfl) ?_
    refine KL_tried_n hst hc hw lk_1587 hfx ⟨Nat.le_of_ble_eq_true rfl, Nat.le_of_ble_eq_true rfl⟩ ⟨by show cells + 3 ≤ 601024; omega, by show slots + 18 ≤ 7293034; omega⟩ hl.1 (Nat.le_of_ble_eq_true rfl) (dq tk_LW_23 57 rfl) (fun H locs hw => ?_)
    refine lv_istore (lv' := [(5, .int 1), (4, .int (nI (6 * k))), (0, .ref b), (1, .ref (Z.1 + 0)), (2, .ref (Z.1 + 566)), (3, .ref (Z.1 + 674))]) hx hb (dq tk_LW_23 58 rfl) hl (by decide) rfl (fun ls hl => ?_)
    refine lv_aload_n hx hb (dq tk_LW_23 59 rfl) rfl (lv_at hl 4 rfl) ?_
    refine lv_aload_n hx hb (dq tk_LW_24 0 rfl) rfl (lv_at hl 2 rfl) ?_
    refine lv_iload hx hb (dq tk_LW_24 1 rfl) (lv_at hl 1 rfl) ?_
    refine lv_iconst (v := 1) hx hb (dq tk_LW_24 2 rfl) (by decide) ?_
    refine lv_iadd hx hb (dq tk_LW_24 3 rfl) ?_
    refine l_sld hc hw hX hbl hbZ (k := 6 * k + 1) (a := a1) (nI_add (6 * k) 1) (by omega) hL ha1 (dq tk_LW_24 4 rfl) ?_
    refine lv_aload_n hx hb (dq tk_LW_24 5 rfl) rfl (lv_at hl 2 rfl) ?_
    refine lv_iload hx hb (dq tk_LW_24 6 rfl) (lv_at hl 1 rfl) ?_
    refine lv_iconst (v := 2) hx hb (dq tk_LW_24 7 rfl) (by decide) ?_
    refine lv_iadd hx hb (dq tk_LW_24 8 rfl) ?_
    refine l_sld hc hw hX hbl hbZ (k := 6 * k + 2) (a := a2) (nI_add (6 * k) 2) (by omega) hL ha2 (dq tk_LW_24 9 rfl) ?_
    refine K_M_tried hc hw lk_2551 hfm ⟨Nat.le_of_ble_eq_true rfl, Nat.le_of_ble_eq_true rfl⟩ ⟨by show cells + 3 ≤ 601024; omega, by show slots + 18 ≤ 7293034; omega⟩ hl.1 (Nat.le_of_ble_eq_true rfl) (dq tk_LW_24 10 rfl) (fun H locs hw _ => ?_)
    refine lv_istore (lv' := [(6, .int b0), (5, .int 1), (4, .int (nI (6 * k))), (0, .ref b), (1, .ref (Z.1 + 0)), (2, .ref (Z.1 + 566)), (3, .ref (Z.1 + 674))]) hx hb (dq tk_LW_24 11 rfl) hl (by decide) rfl (fun ls hl => ?_)
    refine lv_aload_n hx hb (dq tk_LW_24 12 rfl) rfl (lv_at hl 5 rfl) ?_
    refine K_M_thrown hc hw lk_2085 hft ⟨Nat.le_of_ble_eq_true rfl, Nat.le_of_ble_eq_true rfl⟩ ⟨by show cells + 3 ≤ 601024; omega, by show slots + 18 ≤ 7293034; omega⟩ hl.1 (Nat.le_of_ble_eq_true rfl) (dq tk_LW_24 13 rfl) (fun H locs hw _ => ?_)
    refine lv_iload hx hb (dq tk_LW_24 14 rfl) (lv_at hl 1 rfl) ?_
    refine lv_icmp_eq (tgt := 2328) hx hb (dq tk_LW_24 15 rfl) (by decide) (fun _ => ?_) (fun g => absurd rfl g)
    refine lv_iload hx hb (dq tk_LW_24 18 rfl) (lv_at hl 1 rfl) ?_
    refine lv_if_ne (tgt := 2345) hx hb (dq tk_LW_24 19 rfl) (by decide) (fun _ => ?_) (fun g => absurd g (by decide))
    refine lv_goto (tgt := 2404) hx hb (dq tk_LW_24 29 rfl) (by decide) ?_
    refine W.widen (k := cells + 3) (n := slots + 18) (by omega) (by omega) ?_
    exact kk _ _ _ _ _ hI' hw (lv_sub hl [2, 3, 4, 5, 6] rfl)
  | some r =>
    replace hft : fM_thrown N μ' = some 0 := hft
    obtain rfl : r = b0 := hq r rfl
    refine lv_aload_n hx hb (dq tk_LW_23 45 rfl) rfl (lv_at hl 2 rfl) ?_
    refine lv_aload_n hx hb (dq tk_LW_23 46 rfl) rfl (lv_at hl 1 rfl) ?_
    refine lv_iload hx hb (dq tk_LW_23 47 rfl) (lv_at hl 0 rfl) ?_
    refine lv_iconst (v := 1) hx hb (dq tk_LW_23 48 rfl) (by decide) ?_
    refine lv_iadd hx hb (dq tk_LW_23 49 rfl) ?_
    refine l_sld hc hw hX hbl hbZ (k := 6 * k + 1) (a := a1) (nI_add (6 * k) 1) (by omega) hL ha1 (dq tk_LW_23 50 rfl) ?_
    refine lv_aload_n hx hb (dq tk_LW_23 51 rfl) rfl (lv_at hl 1 rfl) ?_
    refine lv_iload hx hb (dq tk_LW_23 52 rfl) (lv_at hl 0 rfl) ?_
    refine lv_iconst (v := 2) hx hb (dq tk_LW_23 53 rfl) (by decide) ?_
    refine lv_iadd hx hb (dq tk_LW_23 54 rfl) ?_
    refine l_sld hc hw hX hbl hbZ (k := 6 * k + 2) (a := a2) (nI_add (6 * k) 2) (by omega) hL ha2 (dq tk_LW_23 55 rfl) ?_
    refine lv_aload_n hx hb (dq tk_LW_23 56 rfl) rfl (lv_at hl 4 rfl) ?_
    refine KL_tried_s hst hc hw lk_1587 hfx ⟨Nat.le_of_ble_eq_true rfl, Nat.le_of_ble_eq_true rfl⟩ ⟨by show cells + 3 ≤ 601024; omega, by show slots + 18 ≤ 7293034; omega⟩ hl.1 (Nat.le_of_ble_eq_true rfl) (dq tk_LW_23 57 rfl) (fun H locs hw => ?_)
    refine lv_istore (lv' := [(5, .int 0), (4, .int (nI (6 * k))), (0, .ref b), (1, .ref (Z.1 + 0)), (2, .ref (Z.1 + 566)), (3, .ref (Z.1 + 674))]) hx hb (dq tk_LW_23 58 rfl) hl (by decide) rfl (fun ls hl => ?_)
    refine lv_aload_n hx hb (dq tk_LW_23 59 rfl) rfl (lv_at hl 4 rfl) ?_
    refine lv_aload_n hx hb (dq tk_LW_24 0 rfl) rfl (lv_at hl 2 rfl) ?_
    refine lv_iload hx hb (dq tk_LW_24 1 rfl) (lv_at hl 1 rfl) ?_
    refine lv_iconst (v := 1) hx hb (dq tk_LW_24 2 rfl) (by decide) ?_
    refine lv_iadd hx hb (dq tk_LW_24 3 rfl) ?_
    refine l_sld hc hw hX hbl hbZ (k := 6 * k + 1) (a := a1) (nI_add (6 * k) 1) (by omega) hL ha1 (dq tk_LW_24 4 rfl) ?_
    refine lv_aload_n hx hb (dq tk_LW_24 5 rfl) rfl (lv_at hl 2 rfl) ?_
    refine lv_iload hx hb (dq tk_LW_24 6 rfl) (lv_at hl 1 rfl) ?_
    refine lv_iconst (v := 2) hx hb (dq tk_LW_24 7 rfl) (by decide) ?_
    refine lv_iadd hx hb (dq tk_LW_24 8 rfl) ?_
    refine l_sld hc hw hX hbl hbZ (k := 6 * k + 2) (a := a2) (nI_add (6 * k) 2) (by omega) hL ha2 (dq tk_LW_24 9 rfl) ?_
    refine K_M_tried hc hw lk_2551 hfm ⟨Nat.le_of_ble_eq_true rfl, Nat.le_of_ble_eq_true rfl⟩ ⟨by show cells + 3 ≤ 601024; omega, by show slots + 18 ≤ 7293034; omega⟩ hl.1 (Nat.le_of_ble_eq_true rfl) (dq tk_LW_24 10 rfl) (fun H locs hw _ => ?_)
    refine lv_istore (lv' := [(6, .int r), (5, .int 0), (4, .int (nI (6 * k))), (0, .ref b), (1, .ref (Z.1 + 0)), (2, .ref (Z.1 + 566)), (3, .ref (Z.1 + 674))]) hx hb (dq tk_LW_24 11 rfl) hl (by decide) rfl (fun ls hl => ?_)
    refine lv_aload_n hx hb (dq tk_LW_24 12 rfl) rfl (lv_at hl 5 rfl) ?_
    refine K_M_thrown hc hw lk_2085 hft ⟨Nat.le_of_ble_eq_true rfl, Nat.le_of_ble_eq_true rfl⟩ ⟨by show cells + 3 ≤ 601024; omega, by show slots + 18 ≤ 7293034; omega⟩ hl.1 (Nat.le_of_ble_eq_true rfl) (dq tk_LW_24 13 rfl) (fun H locs hw _ => ?_)
    refine lv_iload hx hb (dq tk_LW_24 14 rfl) (lv_at hl 1 rfl) ?_
    refine lv_icmp_eq (tgt := 2328) hx hb (dq tk_LW_24 15 rfl) (by decide) (fun _ => ?_) (fun g => absurd rfl g)
    refine lv_iload hx hb (dq tk_LW_24 18 rfl) (lv_at hl 1 rfl) ?_
    refine lv_if_ne (tgt := 2345) hx hb (dq tk_LW_24 19 rfl) (by decide) (fun g => absurd rfl g) (fun _ => ?_)
    refine lv_aload_n hx hb (dq tk_LW_24 20 rfl) rfl (lv_at hl 6 rfl) ?_
    refine lv_iconst (v := 0) hx hb (dq tk_LW_24 21 rfl) (by decide) ?_
    refine l_lald hc hw (v := r.toInt64) sJ_at (dq tk_LW_24 22 rfl) ?_
    refine lv_iload hx hb (dq tk_LW_24 23 rfl) (lv_at hl 0 rfl) ?_
    refine lv_i2l hx hb (dq tk_LW_24 24 rfl) rfl ?_
    refine W.lcmp hx hb (dq tk_LW_24 25 rfl) ?_
    refine tst (congrArg Value.int lg_cmp_self) ?_
    refine lv_if_eq (tgt := 2345) hx hb (dq tk_LW_24 26 rfl) (by decide) (fun _ => ?_) (fun g => absurd rfl g)
    refine lv_goto (tgt := 2404) hx hb (dq tk_LW_24 29 rfl) (by decide) ?_
    refine W.widen (k := cells + 3) (n := slots + 18) (by omega) (by omega) ?_
    exact kk _ _ _ _ _ (hLO.1 _ _ _ hI') hw (lv_sub hl [2, 3, 4, 5, 6] rfl)
set_option maxRecDepth 10000 in
theorem w_law_34 {N b L k : Nat} {xs : Nat → Int32} {Inv : St → St → Prop} (hLO : LawOk N Inv) (hst : l.stackTraces = false) (hc : Cxz p s m meth c #[Value.ref b] code "LabourExchangeLaw" 8 Z) (hX : va_X b L xs s s.heap) (hbl : b < s.heap.size) (hbZ : b < Z.1) (hL : L ≤ 3072) (hk : 6 * k + 6 ≤ L) (hI : Inv σ μ) (hcl0 : cells + 3 ≤ 601024 ∧ slots + 18 ≤ 7293034) {ls : Array Slot} (hw : Wd Z (cmb σ μ) s H locs) (hl : lv_has ls 8 [(4, .int (nI (6 * k))), (0, .ref b), (1, .ref (Z.1 + 0)), (2, .ref (Z.1 + 566)), (3, .ref (Z.1 + 674))])
    (kk : ∀ (σ1 μ1 : St) (H1 : Heap) (locs1 : List Loc) (ls1 : Array Slot), Inv σ1 μ1 → Wd Z (cmb σ1 μ1) s H1 locs1 → lv_has ls1 8 [(4, .int (nI (6 * k))), (0, .ref b), (1, .ref (Z.1 + 0)), (2, .ref (Z.1 + 566)), (3, .ref (Z.1 + 674))] → W p l e room_1 s m #[Value.ref b] below meth c H1 locs1 (cells + 3) (slots + 18) Q (F0 m 2404 ls1 [])) : W p l e room_1 s m #[Value.ref b] below meth c H locs cells slots Q (F0 m 2348 ls []) := by
  have hx := hc.hx
  have hb := hc.hb
  obtain ⟨h1, h2⟩ := hcl0
  obtain ⟨a1, ha1⟩ : ∃ a, xs (6 * k + 1) = a := ⟨_, rfl⟩
  obtain ⟨q, b0, μ', hfx, hfm, hft, hq, hI'⟩ := (hLO.2.2.2.2.2.2.2.2.2.2.2.2.2.2.2.2.2.2.2.2.2.2.2.2.2.2.2.2.2.2.2.2.2.2.2 σ μ a1 hI)
  cases q with
  | none =>
    replace hft : fM_thrown N μ' = some 1 := hft
    refine lv_aload_n hx hb (dq tk_LW_24 30 rfl) rfl (lv_at hl 2 rfl) ?_
    refine lv_aload_n hx hb (dq tk_LW_24 31 rfl) rfl (lv_at hl 1 rfl) ?_
    refine lv_iload hx hb (dq tk_LW_24 32 rfl) (lv_at hl 0 rfl) ?_
    refine lv_iconst (v := 1) hx hb (dq tk_LW_24 33 rfl) (by decide) ?_
    refine lv_iadd hx hb (dq tk_LW_24 34 rfl) ?_
    refine l_sld hc hw hX hbl hbZ (k := 6 * k + 1) (a := a1) (nI_add (6 * k) 1) (by omega) hL ha1 (dq tk_LW_24 35 rfl) ?_
    refine lv_aload_n hx hb (dq tk_LW_24 36 rfl) rfl (lv_at hl 4 rfl) ?_
    refine KL_count_n hst hc hw lk_1594 hfx ⟨Nat.le_of_ble_eq_true rfl, Nat.le_of_ble_eq_true rfl⟩ ⟨by show cells + 1 ≤ 601024; omega, by show slots + 6 ≤ 7293034; omega⟩ hl.1 (Nat.le_of_ble_eq_true rfl) (dq tk_LW_24 37 rfl) (fun H locs hw => ?_)
    refine lv_istore (lv' := [(5, .int 1), (4, .int (nI (6 * k))), (0, .ref b), (1, .ref (Z.1 + 0)), (2, .ref (Z.1 + 566)), (3, .ref (Z.1 + 674))]) hx hb (dq tk_LW_24 38 rfl) hl (by decide) rfl (fun ls hl => ?_)
    refine lv_aload_n hx hb (dq tk_LW_24 39 rfl) rfl (lv_at hl 4 rfl) ?_
    refine lv_aload_n hx hb (dq tk_LW_24 40 rfl) rfl (lv_at hl 2 rfl) ?_
    refine lv_iload hx hb (dq tk_LW_24 41 rfl) (lv_at hl 1 rfl) ?_
    refine lv_iconst (v := 1) hx hb (dq tk_LW_24 42 rfl) (by decide) ?_
    refine lv_iadd hx hb (dq tk_LW_24 43 rfl) ?_
    refine l_sld hc hw hX hbl hbZ (k := 6 * k + 1) (a := a1) (nI_add (6 * k) 1) (by omega) hL ha1 (dq tk_LW_24 44 rfl) ?_
    refine K_M_count hc hw lk_2555 hfm ⟨Nat.le_of_ble_eq_true rfl, Nat.le_of_ble_eq_true rfl⟩ ⟨by show cells + 1 ≤ 601024; omega, by show slots + 6 ≤ 7293034; omega⟩ hl.1 (Nat.le_of_ble_eq_true rfl) (dq tk_LW_24 45 rfl) (fun H locs hw _ => ?_)
    refine lv_istore (lv' := [(6, .int b0), (5, .int 1), (4, .int (nI (6 * k))), (0, .ref b), (1, .ref (Z.1 + 0)), (2, .ref (Z.1 + 566)), (3, .ref (Z.1 + 674))]) hx hb (dq tk_LW_24 46 rfl) hl (by decide) rfl (fun ls hl => ?_)
    refine lv_aload_n hx hb (dq tk_LW_24 47 rfl) rfl (lv_at hl 5 rfl) ?_
    refine K_M_thrown hc hw lk_2085 hft ⟨Nat.le_of_ble_eq_true rfl, Nat.le_of_ble_eq_true rfl⟩ ⟨by show cells + 1 ≤ 601024; omega, by show slots + 6 ≤ 7293034; omega⟩ hl.1 (Nat.le_of_ble_eq_true rfl) (dq tk_LW_24 48 rfl) (fun H locs hw _ => ?_)
    refine lv_iload hx hb (dq tk_LW_24 49 rfl) (lv_at hl 1 rfl) ?_
    refine lv_icmp_eq (tgt := 2384) hx hb (dq tk_LW_24 50 rfl) (by decide) (fun _ => ?_) (fun g => absurd rfl g)
    refine lv_iload hx hb (dq tk_LW_24 53 rfl) (lv_at hl 1 rfl) ?_
    refine lv_if_ne (tgt := 2401) hx hb (dq tk_LW_24 54 rfl) (by decide) (fun _ => ?_) (fun g => absurd g (by decide))
    refine lv_goto (tgt := 2404) hx hb (dq tk_LW_25 4 rfl) (by decide) ?_
    refine W.widen (k := cells + 3) (n := slots + 18) (by omega) (by omega) ?_
    exact kk _ _ _ _ _ hI' hw (lv_sub hl [2, 3, 4, 5, 6] rfl)
  | some r =>
    replace hft : fM_thrown N μ' = some 0 := hft
    obtain rfl : r = b0 := hq r rfl
    refine lv_aload_n hx hb (dq tk_LW_24 30 rfl) rfl (lv_at hl 2 rfl) ?_
    refine lv_aload_n hx hb (dq tk_LW_24 31 rfl) rfl (lv_at hl 1 rfl) ?_
    refine lv_iload hx hb (dq tk_LW_24 32 rfl) (lv_at hl 0 rfl) ?_
    refine lv_iconst (v := 1) hx hb (dq tk_LW_24 33 rfl) (by decide) ?_
    refine lv_iadd hx hb (dq tk_LW_24 34 rfl) ?_
    refine l_sld hc hw hX hbl hbZ (k := 6 * k + 1) (a := a1) (nI_add (6 * k) 1) (by omega) hL ha1 (dq tk_LW_24 35 rfl) ?_
    refine lv_aload_n hx hb (dq tk_LW_24 36 rfl) rfl (lv_at hl 4 rfl) ?_
    refine KL_count_s hst hc hw lk_1594 hfx ⟨Nat.le_of_ble_eq_true rfl, Nat.le_of_ble_eq_true rfl⟩ ⟨by show cells + 1 ≤ 601024; omega, by show slots + 6 ≤ 7293034; omega⟩ hl.1 (Nat.le_of_ble_eq_true rfl) (dq tk_LW_24 37 rfl) (fun H locs hw => ?_)
    refine lv_istore (lv' := [(5, .int 0), (4, .int (nI (6 * k))), (0, .ref b), (1, .ref (Z.1 + 0)), (2, .ref (Z.1 + 566)), (3, .ref (Z.1 + 674))]) hx hb (dq tk_LW_24 38 rfl) hl (by decide) rfl (fun ls hl => ?_)
    refine lv_aload_n hx hb (dq tk_LW_24 39 rfl) rfl (lv_at hl 4 rfl) ?_
    refine lv_aload_n hx hb (dq tk_LW_24 40 rfl) rfl (lv_at hl 2 rfl) ?_
    refine lv_iload hx hb (dq tk_LW_24 41 rfl) (lv_at hl 1 rfl) ?_
    refine lv_iconst (v := 1) hx hb (dq tk_LW_24 42 rfl) (by decide) ?_
    refine lv_iadd hx hb (dq tk_LW_24 43 rfl) ?_
    refine l_sld hc hw hX hbl hbZ (k := 6 * k + 1) (a := a1) (nI_add (6 * k) 1) (by omega) hL ha1 (dq tk_LW_24 44 rfl) ?_
    refine K_M_count hc hw lk_2555 hfm ⟨Nat.le_of_ble_eq_true rfl, Nat.le_of_ble_eq_true rfl⟩ ⟨by show cells + 1 ≤ 601024; omega, by show slots + 6 ≤ 7293034; omega⟩ hl.1 (Nat.le_of_ble_eq_true rfl) (dq tk_LW_24 45 rfl) (fun H locs hw _ => ?_)
    refine lv_istore (lv' := [(6, .int r), (5, .int 0), (4, .int (nI (6 * k))), (0, .ref b), (1, .ref (Z.1 + 0)), (2, .ref (Z.1 + 566)), (3, .ref (Z.1 + 674))]) hx hb (dq tk_LW_24 46 rfl) hl (by decide) rfl (fun ls hl => ?_)
    refine lv_aload_n hx hb (dq tk_LW_24 47 rfl) rfl (lv_at hl 5 rfl) ?_
    refine K_M_thrown hc hw lk_2085 hft ⟨Nat.le_of_ble_eq_true rfl, Nat.le_of_ble_eq_true rfl⟩ ⟨by show cells + 1 ≤ 601024; omega, by show slots + 6 ≤ 7293034; omega⟩ hl.1 (Nat.le_of_ble_eq_true rfl) (dq tk_LW_24 48 rfl) (fun H locs hw _ => ?_)
    refine lv_iload hx hb (dq tk_LW_24 49 rfl) (lv_at hl 1 rfl) ?_
    refine lv_icmp_eq (tgt := 2384) hx hb (dq tk_LW_24 50 rfl) (by decide) (fun _ => ?_) (fun g => absurd rfl g)
    refine lv_iload hx hb (dq tk_LW_24 53 rfl) (lv_at hl 1 rfl) ?_
    refine lv_if_ne (tgt := 2401) hx hb (dq tk_LW_24 54 rfl) (by decide) (fun g => absurd rfl g) (fun _ => ?_)
    refine lv_aload_n hx hb (dq tk_LW_24 55 rfl) rfl (lv_at hl 6 rfl) ?_
    refine lv_iconst (v := 0) hx hb (dq tk_LW_24 56 rfl) (by decide) ?_
    refine l_lald hc hw (v := r.toInt64) sJ_at (dq tk_LW_24 57 rfl) ?_
    refine lv_iload hx hb (dq tk_LW_24 58 rfl) (lv_at hl 0 rfl) ?_
    refine lv_i2l hx hb (dq tk_LW_24 59 rfl) rfl ?_
    refine W.lcmp hx hb (dq tk_LW_25 0 rfl) ?_
    refine tst (congrArg Value.int lg_cmp_self) ?_
    refine lv_if_eq (tgt := 2401) hx hb (dq tk_LW_25 1 rfl) (by decide) (fun _ => ?_) (fun g => absurd rfl g)
    refine lv_goto (tgt := 2404) hx hb (dq tk_LW_25 4 rfl) (by decide) ?_
    refine W.widen (k := cells + 3) (n := slots + 18) (by omega) (by omega) ?_
    exact kk _ _ _ _ _ (hLO.1 _ _ _ hI') hw (lv_sub hl [2, 3, 4, 5, 6] rfl)
end LWALK
