/-! A MEMORY OF ITS OWN: cells by small numbers (0 null, from 20 on what the law makes, in the order of making); whole numbers as Int. -/
abbrev mm_K : Type := Nat ⊕ (Nat × Nat)
abbrev mm_T : Type := (Nat × Nat × Nat) × (Nat → mm_K) × (Nat → Nat → Int) × (Nat → Nat → Int64) × (Nat → Nat → Nat)
def mm_nc (M : mm_T) : Nat := M.1.1
def mm_ce (M : mm_T) : Nat := M.1.2.1
def mm_se (M : mm_T) : Nat := M.1.2.2
def mm_ty (M : mm_T) : Nat → mm_K := M.2.1
def mm_I (M : mm_T) : Nat → Nat → Int := M.2.2.1
def mm_J (M : mm_T) : Nat → Nat → Int64 := M.2.2.2.1
def mm_R (M : mm_T) : Nat → Nat → Nat := M.2.2.2.2
def mm_up {β : Type} (f : Nat → Nat → β) (a j : Nat) (x : β) : Nat → Nat → β := fun b i => if b = a ∧ i = j then x else f b i
def mm_row {β : Type} (f : Nat → β) (a : Nat) (x : β) : Nat → β := fun b => if b = a then x else f b
def mm_wI (M : mm_T) (a j : Nat) (x : Int) : mm_T := (M.1, M.2.1, mm_up M.2.2.1 a j x, M.2.2.2.1, M.2.2.2.2)
def mm_wJ (M : mm_T) (a j : Nat) (x : Int64) : mm_T := (M.1, M.2.1, M.2.2.1, mm_up M.2.2.2.1 a j x, M.2.2.2.2)
def mm_wR (M : mm_T) (a j : Nat) (x : Nat) : mm_T := (M.1, M.2.1, M.2.2.1, M.2.2.2.1, mm_up M.2.2.2.2 a j x)
/-- a new cell of a kind, with n slots -/
def mm_new (M : mm_T) (k : mm_K) (n : Nat) : mm_T := ((M.1.1 + 1, M.1.2.1 + 1, M.1.2.2 + n), mm_row M.2.1 (20 + M.1.1) k, mm_row M.2.2.1 (20 + M.1.1) (fun _ => 0), mm_row M.2.2.2.1 (20 + M.1.1) (fun _ => 0), mm_row M.2.2.2.2 (20 + M.1.1) (fun _ => 0))
/-- rows in a row: an outer cell, then n inner ones -/
def mm_newm (M : mm_T) (t u n k : Nat) : mm_T := ((M.1.1 + 1 + n, M.1.2.1 + 1 + n, M.1.2.2 + n + n * k),
  (fun b => if b = 20 + M.1.1 then .inr (t, n) else if 20 + M.1.1 < b ∧ b ≤ 20 + M.1.1 + n then .inr (u, k) else M.2.1 b),
  (fun b => if 20 + M.1.1 ≤ b ∧ b ≤ 20 + M.1.1 + n then (fun _ => 0) else M.2.2.1 b),
  (fun b => if 20 + M.1.1 ≤ b ∧ b ≤ 20 + M.1.1 + n then (fun _ => 0) else M.2.2.2.1 b),
  (fun b => if b = 20 + M.1.1 then (fun i => if i < n then 20 + M.1.1 + 1 + i else 0) else if 20 + M.1.1 < b ∧ b ≤ 20 + M.1.1 + n then (fun _ => 0) else M.2.2.2.2 b))
/-- an exception has been made -/
def mm_exc (M : mm_T) : mm_T := ((M.1.1, M.1.2.1 + 1, M.1.2.2 + 6), M.2)
def mm_in (x : Int) : Prop := -2147483648 ≤ x ∧ x < 2147483648
def mm_ok (M : mm_T) : Prop := ∀ a j, mm_in (mm_I M a j)
section Prims
variable {β : Type}
def lt_ {γ : Type} (x : γ) (f : γ → β) : β := f x
def jn_ {F : Type} (b : F) (u : F → β) : β := u b
def ck_ (x : Int) (f : Int → Option β) : Option β := if -2147483648 ≤ x ∧ x < 2147483648 then f x else none
def zz_ (x : Int) (f : Option β) : Option β := if x = 0 ∨ x = 1 then f else none
def dv_ (x y : Int) (f : Int → Option β) : Option β := if 0 ≤ x ∧ 0 < y then f (x / y) else none
def rm_ (x y : Int) (f : Int → Option β) : Option β := if 0 ≤ x ∧ 0 < y then f (x % y) else none
def and_ (x y : Int) : Int := (Int32.ofInt x &&& Int32.ofInt y).toInt
def or_ (x y : Int) : Int := (Int32.ofInt x ||| Int32.ofInt y).toInt
def xor_ (x y : Int) : Int := (Int32.ofInt x ^^^ Int32.ofInt y).toInt
def shl_ (x y : Int) : Int := (Int32.ofInt x <<< (Int32.ofInt y &&& 31)).toInt
def shr_ (x y : Int) : Int := (Int32.ofInt x >>> (Int32.ofInt y &&& 31)).toInt
def ushr_ (x y : Int) : Int := (Int32.ofInt x).toUInt32 >>> ((Int32.ofInt y).toUInt32 &&& 31) |>.toInt32.toInt
def i2b_ (x : Int) : Int := (Int32.ofInt x).toInt8.toInt32.toInt
def i2l_ (x : Int) : Int64 := (Int32.ofInt x).toInt64
def lshl_ (x : Int64) (y : Int) : Int64 := x <<< ((Int32.ofInt y).toInt64 &&& 63)
def lcm_ (x y : Int64) : Int := if y < x then 1 else if x = y then 0 else -1
/-- the cell a is an object of the class c -/
def ob_ (M : mm_T) (a c : Nat) (f : Option β) : Option β := if mm_ty M a = .inl c then f else none
def gI_ (M : mm_T) (a c j : Nat) (f : Int → Option β) : Option β := if mm_ty M a = .inl c then f (mm_I M a j) else none
def gR_ (M : mm_T) (a c j : Nat) (f : Nat → Option β) : Option β := if mm_ty M a = .inl c then f (mm_R M a j) else none
def pI_ (M : mm_T) (a c j : Nat) (x : Int) (f : mm_T → Option β) : Option β := if mm_ty M a = .inl c then f (mm_wI M a j x) else none
def pZ_ (M : mm_T) (a c j : Nat) (x : Int) (f : mm_T → Option β) : Option β := if mm_ty M a = .inl c ∧ (x = 0 ∨ x = 1) then f (mm_wI M a j x) else none
def pR_ (M : mm_T) (a c j : Nat) (x : Nat) (f : mm_T → Option β) : Option β := if mm_ty M a = .inl c then f (mm_wR M a j x) else none
def ar_ (M : mm_T) (a t : Nat) (i : Int) : Prop := ∃ n : Nat, mm_ty M a = .inr (t, n) ∧ 0 ≤ i ∧ i < n
def arB_ (M : mm_T) (a t : Nat) (i : Int) : Bool := match mm_ty M a with
  | .inr q => q.1 == t && decide (0 ≤ i) && decide (i < q.2)
  | .inl _ => false
def aI_ (M : mm_T) (a t : Nat) (i : Int) (f : Int → Option β) : Option β := if arB_ M a t i = true then f (mm_I M a i.toNat) else none
def aJ_ (M : mm_T) (a : Nat) (i : Int) (f : Int64 → Option β) : Option β := if arB_ M a 3 i = true then f (mm_J M a i.toNat) else none
def aR_ (M : mm_T) (a t : Nat) (i : Int) (f : Nat → Option β) : Option β := if arB_ M a t i = true then f (mm_R M a i.toNat) else none
def sI_ (M : mm_T) (a : Nat) (i : Int) (x : Int) (f : mm_T → Option β) : Option β := if arB_ M a 0 i = true then f (mm_wI M a i.toNat x) else none
def sB_ (M : mm_T) (a : Nat) (i : Int) (x : Int) (f : mm_T → Option β) : Option β := if arB_ M a 1 i = true ∧ -128 ≤ x ∧ x < 128 then f (mm_wI M a i.toNat x) else none
def sZ_ (M : mm_T) (a : Nat) (i : Int) (x : Int) (f : mm_T → Option β) : Option β := if arB_ M a 2 i = true ∧ (x = 0 ∨ x = 1) then f (mm_wI M a i.toNat x) else none
def sJ_ (M : mm_T) (a : Nat) (i : Int) (x : Int64) (f : mm_T → Option β) : Option β := if arB_ M a 3 i = true then f (mm_wJ M a i.toNat x) else none
/-- an object of the class c comes into an array of the kind t -/
def sR_ (M : mm_T) (a t : Nat) (i : Int) (x c : Nat) (f : mm_T → Option β) : Option β := if arB_ M a t i = true ∧ mm_ty M x = .inl c then f (mm_wR M a i.toNat x) else none
def al_ (M : mm_T) (a t : Nat) (f : Int → Option β) : Option β := match mm_ty M a with
  | .inr q => if q.1 = t ∧ q.2 < 2147483648 then f (q.2 : Int) else none
  | .inl _ => none
def nw_ (M : mm_T) (c n : Nat) (f : Nat → mm_T → Option β) : Option β := if mm_ce M = mm_nc M then f (20 + mm_nc M) (mm_new M (.inl c) n) else none
def na_ (M : mm_T) (t : Nat) (n : Int) (f : Nat → mm_T → Option β) : Option β := if mm_ce M = mm_nc M ∧ 0 ≤ n ∧ n ≤ 4096 then f (20 + mm_nc M) (mm_new M (.inr (t, n.toNat)) n.toNat) else none
def nm_ (M : mm_T) (t u : Nat) (n k : Int) (f : Nat → mm_T → Option β) : Option β := if mm_ce M = mm_nc M ∧ 0 ≤ n ∧ n ≤ 4096 ∧ 0 ≤ k ∧ k ≤ 4096 then f (20 + mm_nc M) (mm_newm M t u n.toNat k.toNat) else none
def nn_ (a : Nat) (x y : Option β) : Option β := if a = 0 then x else y
def cl_ {γ : Type} (r : Option (γ × mm_T)) (f : γ → mm_T → Option β) : Option β := match r with
  | some q => f q.1 q.2
  | none => none
def cx_ {γ : Type} (r : Option ((Nat ⊕ γ) × mm_T)) (fe : Nat → mm_T → Option β) (f : γ → mm_T → Option β) : Option β := match r with
  | some (.inl e, M) => fe e M
  | some (.inr x, M) => f x M
  | none => none
def th_ {γ : Type} (M : mm_T) (E : Nat) : Option ((Nat ⊕ γ) × mm_T) := some (.inl E, mm_exc M)
def sw_ (x lo : Int) (n : Nat) (d : Option β) (g : Nat → Option β) : Option β := if lo ≤ x ∧ x < lo + n then g (x - lo).toNat else d
def mx_ (x y : Int) : Int := if x < y then y else x
def mn_ (x y : Int) : Int := if y < x then y else x
/-- the script -/
def sn_ (L : Nat) (f : Int → Option β) : Option β := f (L : Int)
def sl_ (L : Nat) (xs : Nat → Int) (i : Int) (f : Int → Option β) : Option β := if 0 ≤ i ∧ i < L then f (xs i.toNat) else none
/-- the texts: letters, limit, under, upto, over, map, pattern, avoid, at 2, 3 .. 9 -/
def tx_B : List (List Int) := [[108, 101, 116, 116, 101, 114, 115], [108, 105, 109, 105, 116], [117, 110, 100, 101, 114], [117, 112, 116, 111], [111, 118, 101, 114], [109, 97, 112], [112, 97, 116, 116, 101, 114, 110], [97, 118, 111, 105, 100]]
def tl_ (k : Nat) (f : Int → Option β) : Option β := if 2 ≤ k ∧ k < 10 then f ((tx_B.getD (k - 2) []).length : Int) else none
def tc_ (k : Nat) (i : Int) (f : Int → Option β) : Option β := if 2 ≤ k ∧ k < 10 ∧ 0 ≤ i ∧ i < (tx_B.getD (k - 2) []).length then f ((tx_B.getD (k - 2) []).getD i.toNat 0) else none
end Prims
