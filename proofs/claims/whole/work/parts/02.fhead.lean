/-! the pure functions of the methods, printed by program out of the listing -/
abbrev St : Type := (Nat → Nat → Nat → Nat → Int32) × (Nat → Nat → Nat → Nat → Int64)
def sI (σ : St) (f a b i : Nat) (x : Int32) : St := (fun f' a' b' i' => if f' = f ∧ a' = a ∧ b' = b ∧ i' = i then x else σ.1 f' a' b' i', σ.2)
def sJ (σ : St) (f a b i : Nat) (x : Int64) : St := (σ.1, fun f' a' b' i' => if f' = f ∧ a' = a ∧ b' = b ∧ i' = i then x else σ.2 f' a' b' i')
def sA (σ : St) (f a b : Nat) (g : Nat → Int32) : St := (fun f' a' b' i' => if f' = f ∧ a' = a ∧ b' = b then g i' else σ.1 f' a' b' i', σ.2)
abbrev inb (i : Int32) (n : Nat) : Prop := ¬ (i < 0 ∨ n ≤ i.toNatClampNeg)
abbrev cpok (sp dp n : Int32) (a b : Nat) : Prop := 0 ≤ sp ∧ 0 ≤ dp ∧ 0 ≤ n ∧ sp.toNatClampNeg + n.toNatClampNeg ≤ a ∧ dp.toNatClampNeg + n.toNatClampNeg ≤ b
def irem (x y : Int32) : Int32 := x - x / y * y
def chk {α : Type} (c : Prop) [Decidable c] (k : Option α) : Option α := if c then k else none
def nm {α β : Type} (x : α) (k : α → β) : β := k x
def bnd {α β : Type} (x : Option (α × St)) (k : α → St → Option β) : Option β := match x with | none => none | some q => k q.1 q.2
def bn1 {α β : Type} (x : Option α) (k : α → Option β) : Option β := match x with | none => none | some q => k q
def btW {α β : Type} (x : Option (Option α × St)) (k : α → St → Option (Option β × St)) : Option (Option β × St) := match x with | none => none | some q => match q.1 with | none => some (none, q.2) | some r => k r q.2
def btR {α β : Type} (x : Option (Option α)) (σ : St) (k : α → Option (Option β × St)) : Option (Option β × St) := match x with | none => none | some q => match q with | none => some (none, σ) | some r => k r
def btO {α β : Type} (x : Option (Option α)) (k : α → Option (Option β)) : Option (Option β) := match x with | none => none | some q => match q with | none => some none | some r => k r
def sTab : List (List Nat) := [[119, 97, 105, 116], [103, 97, 112], [114, 97, 116, 101], [100, 97, 121, 115], [112, 101, 114], [101, 120, 116, 114, 97], [115, 116, 97, 109, 112], [99, 111, 117, 114, 116], [97, 103, 101], [116, 114, 97, 100, 101], [117, 115, 117, 97, 108], [111, 117, 116], [112, 97, 105, 100], [115, 116, 97, 109, 112, 115], [117, 110, 107, 110, 111, 119, 110], [109, 101, 97, 110, 115], [114, 101, 97, 115, 111, 110], [109, 105, 108, 101, 115], [119, 97, 103, 101], [115, 97, 109, 101], [105, 110, 115, 117, 114, 101, 32, 115, 101, 116, 32, 112, 97, 121, 32, 110, 101, 101, 100, 121, 32, 98, 97, 114, 32, 115, 117, 105, 116, 32, 108, 105, 107, 101, 32, 117, 110, 108, 101, 115, 115, 32, 111, 114, 32, 97, 110, 100, 32, 110, 111, 116, 32], [97, 103, 101, 32, 116, 114, 97, 100, 101, 32, 117, 115, 117, 97, 108, 32, 111, 117, 116, 32, 112, 97, 105, 100, 32, 115, 116, 97, 109, 112, 115, 32, 117, 110, 107, 110, 111, 119, 110, 32, 109, 101, 97, 110, 115, 32, 114, 101, 97, 115, 111, 110, 32, 109, 105, 108, 101, 115, 32, 119, 97, 103, 101, 32, 115, 97, 109, 101, 32], [119, 97, 105, 116, 32, 103, 97, 112, 32, 114, 97, 116, 101, 32, 100, 97, 121, 115, 32, 112, 101, 114, 32, 101, 120, 116, 114, 97, 32, 115, 116, 97, 109, 112, 32, 99, 111, 117, 114, 116, 32], [105, 110, 115, 117, 114, 101], [115, 101, 116], [112, 97, 121], [110, 101, 101, 100, 121], [98, 97, 114], [115, 117, 105, 116], [108, 105, 107, 101], [110, 111, 116], [97, 110, 100], [111, 114], [117, 110, 108, 101, 115, 115]]
def slenN (k : Nat) : Nat := (sTab.getD k []).length
def slen (k : Nat) : Int32 := Int32.ofNat (slenN k)
def schr (k i : Nat) : Int32 := Int32.ofNat ((sTab.getD k []).getD i 0)
def dflts (i : Nat) : Int32 := [3, 18, 10, 60, 3, 0, 2, 12].getD i 0
