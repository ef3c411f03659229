/-- the classes, by number -/
abbrev vm_cl : List vw_C := [(RX0, TX0, 4), (RX1, TX1, 5), (RX2, TX2, 3), (RX3, TX3, 2), (RX4, TX4, 5), (RX5, TX5, 7), (RX6, TX6, 5), (RX7, TX7, 2), (RX8, TX8, 2), (RX9, TX9, 8), (RX10, TX10, 10), (RX11, TX11, 32)]
/-- the kinds of arrays, by number -/
abbrev vm_at : List FieldType := [.int, .byte, .boolean, .long, .array .int, .array .long, .object RX2, .object RX6]
/-- a field holds a cell -/
def vm_fr (c j : Nat) : Bool := match vm_cl[c]? with
  | some q => !(((q.2.1 j).2.2.1 == "I") || ((q.2.1 j).2.2.1 == "Z"))
  | none => false
/-- the words of the tables that aren't 'good', but stay all the same -/
def vm_xw : Cond → Bool
  | .castable .. => true
  | .declares .. => true
  | .fieldLinkNest .. => true
  | .methodLinkNest .. => true
  | _ => false
def gw_X : List Cond := lw_tbl.filter vm_xw
/-- class numbers, slots, array classes; the script's cell, length, contents; the heap at the law's entry; where the texts lie -/
abbrev vm_W : Type := ((Nat → ClassId) × (Nat → Nat → Nat) × (Nat → ClassId)) × (Nat × Nat × (Nat → Int32)) × Heap × (Nat → Nat)
def vm_dC (w : vm_W) : Nat → ClassId := w.1.1
def vm_dI (w : vm_W) : Nat → Nat → Nat := w.1.2.1
def vm_cA (w : vm_W) : Nat → ClassId := w.1.2.2
def vm_b (w : vm_W) : Nat := w.2.1.1
def vm_L (w : vm_W) : Nat := w.2.1.2.1
def vm_xs (w : vm_W) : Nat → Int32 := w.2.1.2.2
def vm_H0 (w : vm_W) : Heap := w.2.2.1
def vm_sa (w : vm_W) : Nat → Nat := w.2.2.2
def vm_base (w : vm_W) : Nat := (vm_H0 w).size
/-- the address of a small number: 1 the script, 2 to 19 texts, from 20 on what the law makes -/
def vm_ad (w : vm_W) (k : Nat) : Nat := if k = 1 then vm_b w else if k < 20 then vm_sa w k else vm_base w + (k - 20)
def vm_rv (w : vm_W) (k : Nat) : Value := if k = 0 then .null else .ref (vm_ad w k)
def vm_ro (w : vm_W) (k : Nat) : Option Nat := if k = 0 then none else some (vm_ad w k)
abbrev vm_X : Type := Int ⊕ (Int64 ⊕ Nat)
abbrev xI (x : Int) : vm_X := .inl x
abbrev xJ (x : Int64) : vm_X := .inr (.inl x)
abbrev xA (k : Nat) : vm_X := .inr (.inr k)
def vm_v (w : vm_W) : vm_X → Value
  | .inl x => .int (Int32.ofInt x)
  | .inr (.inl x) => .long x
  | .inr (.inr k) => vm_rv w k
def vm_okv : vm_X → Prop
  | .inl x => mm_in x
  | _ => True
/-- what a field of an object holds -/
def vm_fv (w : vm_W) (M : mm_T) (c a j : Nat) : Value := if vm_fr c j = true then vm_rv w (mm_R M a j) else .int (Int32.ofInt (mm_I M a j))
/-- what an array holds -/
def vm_av (w : vm_W) (M : mm_T) (t a : Nat) (j : Nat) : Value := if t < 3 then .int (Int32.ofInt (mm_I M a j)) else if t = 3 then .long (mm_J M a j) else vm_rv w (mm_R M a j)
/-- the cell a is as the memory says -/
def vm_E (w : vm_W) (M : mm_T) (a : Nat) (H : Heap) : Prop := match mm_ty M a with
  | .inl c => ∀ q, vm_cl[c]? = some q → 20 ≤ a ∧ a < 20 + mm_nc M ∧ t_OB (vm_ad w a) (vm_dC w c) q.2.2 (vm_dI w c) H (vm_fv w M c a)
  | .inr (t, n) => 20 ≤ a ∧ a < 20 + mm_nc M ∧ n < 2147483648 ∧ t < 8 ∧ H[vm_ad w a]? = some (arrV (vm_cA w t) n (vm_av w M t a))
/-- the heap is as the memory says -/
def vm_R (w : vm_W) (M : mm_T) (H : Heap) : Prop :=
  (vm_base w + mm_nc M ≤ H.size ∧ (mm_ce M = mm_nc M → H.size = vm_base w + mm_nc M) ∧ mm_nc M ≤ mm_ce M) ∧ (∀ q, q < vm_base w → H[q]? = (vm_H0 w)[q]?) ∧ ∀ a, vm_E w M a H
/-- an array over arrays of t can be made -/
def vm_AA (t : FieldType) (U : State) : Prop := (Cond.arrayOver (.array t)).before #[] U = true
theorem vm_AA.moved {t : FieldType} {u U : State} (hvm : u.vm.Alike U.vm) (h : vm_AA t u) : vm_AA t U := by
  obtain ⟨comp, c, k, h1, h2, h3, h4, h5⟩ := Jvm.Stand.arrayOver_specB h
  obtain ⟨k', hk', he⟩ := hvm.2.2 _ _ h3
  have hi : (U.vm.classes.findIdx? fun (x : Class) => match x.kind with | .array component _ => component == comp | _ => false) = some c := by
    have e1 := va_idx_bare U.vm comp
    have e2 := va_idx_bare u.vm comp
    have e3 : U.vm.bare = u.vm.bare := by first | exact hvm.bare_eq | exact hvm.bare_eq.symm
    rw [e3] at e1
    exact e1.symm.trans (e2.trans h2)
  have hkind : k'.kind = .array comp (.array t) := by rw [he]; exact h4
  have f1 : U.vm.findClass (FieldType.array t).toString = some comp := by rw [hvm.findClass]; exact h1
  have f2 : U.vm.findClass ("[" ++ (FieldType.array t).toString) = some c := by rw [hvm.findClass]; exact h5
  unfold vm_AA Cond.before Cond.holds
  simp only [Cond.value]
  rw [f1, Option.bind_some]
  refine (congrArg (fun o : Option Nat => (o.bind (fun c => (U.vm.classes[c]?).map fun (k : Class) => match k.kind with | .array _ ty => decide (ty = FieldType.array t) && decide (U.vm.findClass ("[" ++ (FieldType.array t).toString) = some c) | _ => false) == some true)) hi).trans ?_
  simp [hk', hkind, f2]
/-- where the pools name the texts -/
def vm_sr : List (String × Nat × Nat) := [("RepeatFree$Reader", 39, 0), ("RepeatFree$Reader", 105, 1), ("RepeatFree$Reader", 128, 2), ("RepeatFree$Reader", 130, 3), ("RepeatFree$Reader", 132, 4), ("RepeatFree$Reader", 113, 5), ("RepeatFree$Reader", 118, 6), ("RepeatFree$Reader", 123, 7), ("RepeatFreeModel", 118, 0), ("RepeatFreeModel", 120, 1), ("RepeatFreeModel", 122, 2), ("RepeatFreeModel", 124, 3), ("RepeatFreeModel", 126, 4), ("RepeatFreeModel", 128, 5), ("RepeatFreeModel", 130, 6), ("RepeatFreeModel", 132, 7)]
def vm_st : List String := ["letters", "limit", "under", "upto", "over", "map", "pattern", "avoid"]
def vm_sl : List Nat := tx_B.map List.length
def vm_sb : List (List Int32) := tx_B.map (fun l => l.map Int32.ofInt)
/-- of two exceptions' classes the first isn't the second's kind -/
abbrev vm_nc : List (String × String) := [("java/lang/IllegalStateException", "java/lang/IllegalArgumentException"), ("java/util/NoSuchElementException", "java/lang/IndexOutOfBoundsException"), ("java/lang/IllegalStateException", "java/lang/IndexOutOfBoundsException"), ("java/lang/IllegalArgumentException", "java/lang/IndexOutOfBoundsException")]
/-- what is known of the tables and of the heap at a method's entry -/
def vm_K (w : vm_W) (s : State) : Prop :=
  (∀ c q, vm_cl[c]? = some q → u_Kn s q.1 q.2.1 q.2.2 (vm_dC w c) (vm_dI w c)) ∧
  (∀ t ty, vm_at[t]? = some ty → ArrOfT s (vm_cA w t) ty ∧ va_RA s (vm_cA w t) ty) ∧
  (∀ v ∈ gw_X, va_Nw v s) ∧
  va_X (vm_b w) (vm_L w) (vm_xs w) s (vm_H0 w) ∧ vm_b w < vm_base w ∧
  (vm_base w ≤ s.heap.size ∧ ∀ q, q < vm_base w → s.heap[q]? = (vm_H0 w)[q]?) ∧
  vx_Zq Bundle.tN "UNASSIGNED_STACK" Bundle.steD (fun q => vm_base w ≤ q) s (vm_H0 w) ∧ vx_Zq Bundle.tN "SUPPRESSED_SENTINEL" Bundle.listD (fun q => vm_base w ≤ q) s (vm_H0 w) ∧
  va_AO RX2 s ∧ va_AO RX6 s ∧ vm_AA .int s ∧ vm_AA .long s ∧
  (∀ q ∈ vm_nc, va_Nc q.1 q.2 s) ∧
  (∃ adV : Nat → Nat, vk_S 8 vm_sl vm_sb (fun i => vm_sa w (i + 2)) adV (fun q => vm_base w ≤ q) s (vm_H0 w)) ∧ (∀ q ∈ vm_sr, vk_R q.1 q.2.1 (vm_st.getD q.2.2 "") (vm_sa w (q.2.2 + 2)) s) ∧
  va_Z "java/lang/String" "COMPACT_STRINGS" "Z" (.int 1) (fun q => vm_base w ≤ q) s (vm_H0 w) ∧ va_Zq "jdk/internal/util/Preconditions" "SIOOBE_FORMATTER" "Ljava/util/function/BiFunction;" (fun q => vm_base w ≤ q) s (vm_H0 w)
theorem vm_K.moved {w : vm_W} {s U : State} (hW : s.WarmedH U.vm) (h1 : vm_base w ≤ U.heap.size) (h2 : ∀ q, q < vm_base w → U.heap[q]? = (vm_H0 w)[q]?) (h : vm_K w s) : vm_K w U := by
  obtain ⟨a, b, c, d, e, f, g, i, j1, j2, j3, j4, j5, ⟨adV, j6⟩, j7, j8, j9⟩ := h
  refine ⟨fun k q hq => u_Kn_moved hW.alike (a k q hq), fun t ty ht => ⟨arrOfT_moved hW.alike (b t ty ht).1, (b t ty ht).2.moved hW.alike⟩, fun v hv => ?_, d.moved hW.alike, e, ⟨h1, h2⟩, g.moved hW.alike, i.moved hW.alike, j1.moved hW.alike, j2.moved hW.alike, j3.moved hW.alike, j4.moved hW.alike, fun q hq => (j5 q hq).moved hW.alike, ⟨adV, j6.moved hW.alike⟩, fun q hq => (j7 q hq).warm hW, j8.moved hW.alike, j9.moved hW.alike⟩
  have hv2 := (List.mem_filter.mp hv).2
  have hv3 := c v hv
  cases v <;> first | (simp [vm_xw] at hv2; done) | exact hv3.warmC hW | exact hv3.warmD hW | exact hv3.warmF hW | exact hv3.warmM hW
/-- a method: its class's name, bytes, locals, whether it is a constructor -/
abbrev vm_Y : Type := String × ByteArray × Nat × Bool × List (Nat × Nat × Nat × Nat)
/-- where a walk stands -/
def vm_C (l : Launch) (w : vm_W) (y : vm_Y) (fr : Nat) (p : Program) (R : Room) (s : State) (m : MethodId) (args : Array Value) (meth : Method) (c : Code) : Prop :=
  (p.tables.exec = Jvm.exec ∧ c.code = y.2.1 ∧ c.maxLocals = y.2.2.1 ∧ s.vm.findClass y.1 = some m.cls ∧ ∀ v ∈ gw_G, v.before args s = true) ∧
  vm_K w s ∧ fr ≤ R.frames ∧ 64 * fr ≤ R.locals ∧ meth.locks = false ∧ (y.2.2.2.1 = true → meth.name = "<init>") ∧ l.stackTraces = false ∧ c.exceptionTable.toList = tableOf y.2.2.2.2
/-- how a method ends: thrown (a number of a class), or returned -/
abbrev vm_O : Type := Nat ⊕ Option (Bool × vm_X)
def vm_oko : vm_O → Prop
  | .inr (some q) => vm_okv q.2 ∧ (q.1 = true → q.2 = xI 0 ∨ q.2 = xI 1)
  | _ => True
def ex_n : Nat → String := fun k => match k with
  | 1 => "java/lang/IllegalArgumentException"
  | 2 => "java/lang/IllegalStateException"
  | 3 => "java/lang/IndexOutOfBoundsException"
  | _ => "java/util/NoSuchElementException"
def vm_ri : vm_X → Instr
  | .inl _ => .ireturn
  | .inr (.inl _) => .lreturn
  | .inr (.inr _) => .areturn
/-- the end that is owed -/
def vm_Z (w : vm_W) (y : vm_Y) (p : Program) (l : Launch) (e : Env) (R : Room) (s : State) (m : MethodId) (args : Array Value) (below : List Frame) (meth : Method) (c : Code) (mc ms : Nat) (Q : State → Prop) (M' : mm_T) : vm_O → Prop
  | .inr none => ∀ (H : Heap) (locs : List Loc) (pc : Nat) (ls : Array Slot), vm_R w M' H → s.heap.size ≤ H.size → (∀ z ∈ locs, vm_base w ≤ z.base) → decode y.2.1 pc = .ok (.return_, 1) → W p l e R s m args below meth c H locs mc ms Q (F0 m pc ls [])
  | .inr (some v) => ∀ (H : Heap) (locs : List Loc) (pc : Nat) (ls : Array Slot), vm_R w M' H → s.heap.size ≤ H.size → (∀ z ∈ locs, vm_base w ≤ z.base) → decode y.2.1 pc = .ok (vm_ri v.2, 1) → W p l e R s m args below meth c H locs mc ms Q (F0 m pc ls [vm_v w v.2])
  | .inl E => ∃ (Qc : Array Value → State → Outcome → State → Prop) (XC : String → State → State → Prop) (free : Addr → Prop), Q = vx_MQ below Qc XC args s mc ms free ∧ (∀ z, vm_base w ≤ z → free z) ∧ ∀ t : State, s.vm.Alike t.vm → s.heap.size ≤ t.heap.size → vm_R w M' t.heap → XC (ex_n E) s t
section VM
variable {α : Type}
/-- FROM HERE the machine goes on as the small program k says -/
def V_ (l : Launch) (w : vm_W) (y : vm_Y) (fr : Nat) (ex : α → vm_O) (pc : Nat) (ls : List (Nat × vm_X)) (st : List vm_X) (M : mm_T) (k : Option (α × mm_T)) : Prop :=
  ∀ (r : α) (M' : mm_T), k = some (r, M') → (∀ q ∈ ls, vm_okv q.2) → (∀ v ∈ st, vm_okv v) → mm_ok M →
    (mm_ce M ≤ mm_ce M' ∧ mm_se M ≤ mm_se M' ∧ vm_oko (ex r) ∧ mm_ok M') ∧
    ∀ (p : Program) (e : Env) (R : Room) (s : State) (m : MethodId) (args : Array Value) (below : List Frame) (meth : Method) (c : Code) (H : Heap) (locs : List Loc) (cells slots mc ms : Nat) (Q : State → Prop) (la : Array Slot),
      vm_C l w y fr p R s m args meth c → vm_R w M H → s.heap.size ≤ H.size → (∀ z ∈ locs, vm_base w ≤ z.base) → lv_has la y.2.2.1 (ls.map (fun q => (q.1, vm_v w q.2))) →
      cells + (mm_ce M' - mm_ce M) ≤ mc → slots + (mm_se M' - mm_se M) ≤ ms → mc ≤ R.cells → ms ≤ R.slots → vm_Z w y p l e R s m args below meth c mc ms Q M' (ex r) →
      W p l e R s m args below meth c H locs cells slots Q (F0 m pc la (st.map (vm_v w)))
end VM
