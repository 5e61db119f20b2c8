/-! a life, as both work it -/
abbrev Lfe : Type := Nat → Nat → Int32
def uL (s : Lfe) (f i : Nat) (x : Int32) : Lfe := fun f' i' => if f' = f ∧ i' = i then x else s f' i'
theorem uL_s (s : Lfe) (f i : Nat) (x : Int32) : uL s f i x f i = x := if_pos ⟨rfl, rfl⟩
theorem uL_o {s : Lfe} {f i : Nat} {x : Int32} {f' i' : Nat} (h : f' ≠ f) : uL s f i x f' i' = s f' i' := if_neg fun q => h q.1
theorem uL_i {s : Lfe} {f i : Nat} {x : Int32} {i' : Nat} (h : i' ≠ i) : uL s f i x f i' = s f i' := if_neg fun q => h q.2
abbrev slr (f : Nat) : Prop := 78 ≤ f ∧ f ≤ 94
def sl (v p : Nat) (σ : St) : Lfe := fun f i => if slr f then σ.1 f v p i else 0
theorem sl_I {v p f i : Nat} {σ : St} {x : Int32} (hf : slr f) : sl v p (sI σ f v p i x) = uL (sl v p σ) f i x := by
  funext f' i'
  unfold sl uL
  rw [sI_1]
  by_cases h : f' = f ∧ i' = i
  · rw [if_pos (show slr f' by rw [h.1]; exact hf), if_pos ⟨h.1, rfl, rfl, h.2⟩, if_pos h]
  · rw [if_neg (show ¬ (f' = f ∧ v = v ∧ p = p ∧ i' = i) from fun q => h ⟨q.1, q.2.2.2⟩), if_neg h]
theorem sl_c {v p : Nat} {σ σ' : St} (h : ∀ f i, slr f → σ'.1 f v p i = σ.1 f v p i) : sl v p σ' = sl v p σ := by
  funext f i
  unfold sl
  by_cases c : slr f
  · rw [if_pos c, if_pos c, h f i c]
  · rw [if_neg c, if_neg c]
theorem sl_d {v p e : Nat} {σ : St} {x : Int32} : sl v p (sI σ 144 v 0 e x) = sl v p σ := sl_c fun f i q => sI_o (by have := q.2; omega)
theorem sl_J (v p f a b i : Nat) (σ : St) (x : Int64) : sl v p (sJ σ f a b i x) = sl v p σ := rfl
/-- what working a life may write -/
abbrev lfq (f : Nat) : Prop := (78 ≤ f ∧ f ≤ 94) ∧ f ≠ 80 ∧ f ≠ 82
def LfX (v p : Nat) (σ σ' : St) : Prop := (∀ f a b i, ¬ (lfq f ∧ a = v ∧ b = p) → σ'.1 f a b i = σ.1 f a b i) ∧ (∀ f a b i, f ≠ 73 → ¬ (f = 72 ∧ a = v) → σ'.2 f a b i = σ.2 f a b i)
theorem LfX.rf {v p : Nat} {σ : St} : LfX v p σ σ := ⟨fun _ _ _ _ _ => rfl, fun _ _ _ _ _ _ => rfl⟩
theorem LfX.tr {v p : Nat} {σ σ' σ'' : St} (h : LfX v p σ σ') (h2 : LfX v p σ' σ'') : LfX v p σ σ'' := ⟨fun f a b i e => (h2.1 f a b i e).trans (h.1 f a b i e), fun f a b i e e2 => (h2.2 f a b i e e2).trans (h.2 f a b i e e2)⟩
theorem LfX.s {v p f i : Nat} {σ : St} {x : Int32} (h : lfq f) : LfX v p σ (sI σ f v p i x) := ⟨fun f' a b i' e => by rw [sI_1, if_neg (fun q => e ⟨by rw [q.1]; exact h, q.2.1, q.2.2.1⟩)], fun _ _ _ _ _ _ => rfl⟩
theorem LfX.j {v p i : Nat} {σ : St} {x : Int64} : LfX v p σ (sJ σ 72 v 0 i x) := ⟨fun _ _ _ _ _ => rfl, fun f' a b i' _ e => by rw [sJ_2, if_neg (fun q => e ⟨q.1, q.2.1⟩)]⟩
theorem Sk.lf {v p : Nat} {σ σ' : St} (h : Sk 73 σ σ') : LfX v p σ σ' := ⟨fun f a b i _ => by rw [h.1], fun f a b i e _ => h.2 f a b i e⟩
/-! values, pay, bars -/
def lim (x : Int64) : Int32 := (if (0 : Int64) < (if x < 9999 then x else 9999) then (if x < 9999 then x else 9999) else 0).toInt32
def cv (vs : Nat → Int64) (c : Cl) : Int64 := match c.u with | none => c.e.ev vs | some d => if d.ev vs = 0 then c.e.ev vs else 0
abbrev Env : Type := (Nat → Sheet) × (Nat → List Cl) × (Nat → Int32) × (Nat → Int32)
def Env.sh (E : Env) (d : Nat) : Sheet := E.1 d
def Env.TC (E : Env) : Nat → List Cl := E.2.1
def Env.st (E : Env) : Nat → Int32 := E.2.2.1
def Env.age (E : Env) : Int32 := E.2.2.2 0
def Env.trade (E : Env) : Int32 := E.2.2.2 1
def Env.wage (E : Env) : Int32 := E.2.2.2 2
def mx0 (x : Int32) : Int32 := if (0 : Int32) < x then x else 0
def accS (st : Nat → Int32) : Nat → Nat → Int32 → Int32
  | 0, _, x => x
  | n + 1, w, x => accS st n (w + 1) (x + mx0 (st w))
def accU (st : Nat → Int32) : Nat → Nat → Int32 → Int32
  | 0, _, x => x
  | n + 1, w, x => accU st n (w + 1) (x + if st w = -1 then 1 else 0)
def stA (E : Env) (d : Nat) : Int32 := accS E.st 52 (d / 6 - 52) 0
def unA (E : Env) (d : Nat) : Int32 := accU E.st 52 (d / 6 - 52) 0
/-- the row of the latest claim -/
def rw_ (s : Lfe) : Nat := 11 * ((s 84 0).toNatClampNeg - 1)
def vS (E : Env) (d : Nat) (s : Lfe) (k : Nat) : Int64 :=
  if k < 8 then ((E.sh d).par k).toInt64
  else if k = 8 then E.age.toInt64
  else if k = 9 then E.trade.toInt64
  else if k = 10 then (s 93 0).toInt64
  else if k = 11 then (if s 87 0 = 0 then (if s 91 0 = -1 then 0 else (nI d - s 91 0).toInt64) else 0)
  else if k = 12 then (if s 85 0 = 0 then 0 else (s 79 (rw_ s + 3) + s 79 (rw_ s + 4) + s 79 (rw_ s + 5)).toInt64)
  else if k = 13 then (if s 85 0 = 0 then (stA E d).toInt64 else (s 79 (rw_ s + 9)).toInt64)
  else if k = 14 then (if s 85 0 = 0 then (unA E d).toInt64 else (s 79 (rw_ s + 10)).toInt64)
  else if k = 15 then (s 94 0).toInt64
  else if k = 16 then (s 92 0).toInt64
  else 0
/-- an offer's miles, wage, whether trades are alike -/
abbrev Ofr : Type := Int32 × Int32 × Int32
def vR (vs : Nat → Int64) (o : Ofr) (k : Nat) : Int64 := if k = 17 then o.1.toInt64 else if k = 18 then o.2.1.toInt64 else if k = 19 then o.2.2.toInt64 else vs k
def v4 (vs : Nat → Int64) (k : Nat) : Int64 := if k = 16 then 4 else vs k
def likeL (vs : Nat → Int64) : List Cl → Option Nat
  | [] => none
  | c :: l => if cv vs c = 0 then likeL vs l else some c.two
def likes (E : Env) (d : Nat) : List Cl := (E.sh d).R.reverse.flatMap fun t => (E.TC t).filter (isW 6)
def barD (E : Env) (d : Nat) (vs : Nat → Int64) : Int32 := match likeL vs (likes E d) with
  | some n => lim (nI n).toInt64
  | none => match (E.sh d).last 4 with
    | none => 0
    | some x => lim (cv vs x.2)
def payW (kind : Int32) : Nat := if kind = 5 then 3 else 2
def payD (E : Env) (d : Nat) (vs : Nat → Int64) (kind : Int32) : Int32 := match (E.sh d).last (payW kind) with
  | none => if kind = 5 then 0 else lim ((E.sh d).par 2).toInt64
  | some x => lim (cv vs x.2)
def insD (E : Env) (d : Nat) : Bool := decide (((E.sh d).ins >>> (E.trade &&& 31)) &&& 1 = 1)
/-! events -/
abbrev Ev : Type := Nat × Int32 × Int32 × Int32 × Int32 × Ofr
def Ev.k (e : Ev) : Int32 := e.2.1
def Ev.n (e : Ev) : Int32 := e.2.2.1
def Ev.cl (e : Ev) : Int32 := e.2.2.2.1
def Ev.ok (e : Ev) : Int32 := e.2.2.2.2.1
def Ev.o (e : Ev) : Ofr := e.2.2.2.2.2
def sClose (d : Nat) (s : Lfe) : Lfe := if s 85 0 = 0 then s else uL (uL (uL s 85 0 0) 86 0 (nI d)) 79 (rw_ s + 8) 0
def mxI (a b : Int32) : Int32 := if a < b then b else a
def sBar (E : Env) (d : Nat) (vs : Nat → Int64) (s : Lfe) : Lfe := uL s 90 0 (mxI (s 90 0) (nI d + barD E d vs - 1))
def mn32 (a b : Int32) : Int32 := if b < a then b else a
def mx1 (x : Int32) : Int32 := if (1 : Int32) < x then x else 1
def sNew (E : Env) (d : Nat) (s : Lfe) : Lfe :=
  let c := (s 84 0).toNatClampNeg
  let r : Lfe := fun f i => if f = 79 ∧ 11 * c ≤ i ∧ i < 11 * c + 11 then (if i = 11 * c then nI d else if i = 11 * c + 1 then mn32 (stA E d / mx1 ((E.sh d).par 4)) ((E.sh d).par 3) else if i = 11 * c + 8 then 1 else if i = 11 * c + 9 then stA E d else if i = 11 * c + 10 then unA E d else 0) else s f i
  uL (uL r 84 0 (nI (c + 1))) 85 0 1
def sSign (E : Env) (d : Nat) (s : Lfe) : Lfe :=
  if s 84 0 = 0 then sNew E d s
  else if (E.sh d).par 1 < nI d - s 86 0 then sNew E d s
  else uL (uL (uL s 79 (rw_ s + 7) (s 79 (rw_ s + 7) + 1)) 85 0 1) 79 (rw_ s + 8) 1
def sMeet (E : Env) (d : Nat) (e : Ev) (s : Lfe) : Int32 × Lfe :=
  if e.k = 0 then
    (if s 87 0 = 0 then (0, s) else
      let s4 := uL (uL (uL (uL s 87 0 0) 89 0 0) 91 0 (nI d)) 92 0 e.n
      (1, if e.cl = 0 then sBar E d (vS E d s4) s4 else s4))
  else if e.k = 1 then
    (if s 87 0 = 0 then (if s 88 0 = 0 then (1, sClose d (uL (uL s 87 0 1) 93 0 e.n)) else (0, s)) else (0, s))
  else if e.k = 2 then
    (if (s 87 0 = 0 ∨ s 89 0 ≠ 0) ∧ s 88 0 = 0 ∧ s 85 0 = 0 ∧ insD E d = true then (1, sSign E d s) else (0, s))
  else if e.k = 3 then
    (if s 88 0 = 0 then (1, uL (sClose d s) 88 0 1) else (0, s))
  else if e.k = 4 then
    (if s 88 0 = 0 then (0, s) else (1, uL s 88 0 0))
  else if e.k = 5 then (1, uL s 94 0 e.n)
  else if e.k = 6 then
    (if s 87 0 = 0 then (0, s) else if e.n = 6 then (if s 89 0 = 0 then (0, s) else (1, sClose d (uL s 89 0 0))) else (1, uL s 89 0 e.n))
  else if e.k = 7 then
    (if s 85 0 = 0 then (0, s) else if e.ok = 0 then (0, s) else (1, if e.cl = 0 then sBar E d (vR (v4 (vS E d s)) e.o) s else s))
  else (0, s)
/-! a day -/
def kindC (E : Env) (d : Nat) (s : Lfe) : Int32 :=
  if s 89 0 ≤ nI (d % 6) then
    (if s 90 0 < nI d then
      (if (E.sh d).par 0 ≤ s 79 (rw_ s + 2) then
        (if s 79 (rw_ s + 1) ≤ s 79 (rw_ s + 3) then
          (if (E.sh d).par 5 ≤ s 79 (rw_ s + 4) then 5 else 4)
        else 3)
      else 2)
    else 1)
  else 6
def isPd (k : Int32) : Bool := decide (k = 3) || decide (k = 4) || decide (k = 5)
/-- kind, pay, text of a day -/
def dayK (E : Env) (d : Nat) (s : Lfe) : Int32 × Int32 × Int32 :=
  let k0 := if s 85 0 = 0 then (if s 88 0 = 0 then (if s 87 0 = 0 then 9 else 7) else 8) else kindC E d s
  if isPd k0 = true then
    (let y := payD E d (vS E d s) k0
     if k0 = 5 ∧ y = 0 then (0, 0, -1) else (k0, y, tI ((E.sh d).last (payW k0))))
  else (k0, 0, -1)
def sCount (k y : Int32) (s : Lfe) : Lfe :=
  let r := rw_ s
  let s1 := if k < 2 then s else if 5 < k then s else uL s 79 (r + k.toNatClampNeg) (s 79 (r + k.toNatClampNeg) + 1)
  let s2 := uL (uL s1 79 (r + 6) (s1 79 (r + 6) + y)) 81 0 (s1 81 0 + y)
  if k < 3 then (if k = 0 then uL s2 81 2 (s2 81 2 + 1) else s2) else if 5 < k then (if k = 0 then uL s2 81 2 (s2 81 2 + 1) else s2) else uL s2 81 1 (s2 81 1 + 1)
def pck (k y a c : Int32) : Int32 := ((k ||| (y <<< (4 &&& 31))) ||| ((a + 1) <<< (18 &&& 31))) ||| ((c + 1) <<< (23 &&& 31))
def sPass (E : Env) (d : Nat) (s : Lfe) : Lfe :=
  let q := dayK E d s
  let s1 := if s 85 0 = 0 then s else sCount q.1 q.2.1 s
  uL (uL s1 78 (d - 312) (pck q.1 q.2.1 q.2.2 (if s 85 0 = 0 then -1 else s 84 0 - 1))) 83 0 (nI d)
def sBegin (E : Env) (s : Lfe) : Lfe := fun f i => if f = 81 ∧ i < 3 then 0 else if i = 0 then (if f = 83 then 311 else if f = 84 then 0 else if f = 85 then 0 else if f = 86 then -1 else if f = 87 then 1 else if f = 88 then 0 else if f = 89 then 0 else if f = 90 then -1 else if f = 91 then -1 else if f = 92 then 0 else if f = 93 then E.wage else if f = 94 then 0 else s f i) else s f i
