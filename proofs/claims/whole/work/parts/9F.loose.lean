/-! LOOSE, CANNOT: both ways to say it, by decision over all patterns. -/
/-! the class's round over the letters that are left: the letter ahead (3: none), left points, right points -/
noncomputable def z_lr (ps : List Nat) : Nat → Nat → Nat → Nat × Nat :=
  List.rec (motive := fun _ => Nat → Nat → Nat → Nat × Nat) (fun _ L R => (L, R))
    (fun v _ ih b L R => ih v
      (cond (Nat.blt b 3 && Nat.testBit (cond (Nat.blt b 3 && Nat.testBit L b) (R ||| (1 <<< v)) R) v) (L ||| (1 <<< b)) L)
      (cond (Nat.blt b 3 && Nat.testBit L b) (R ||| (1 <<< v)) R)) ps
noncomputable def z_lr6 (ps : List Nat) : Nat → Nat → Nat → Nat × Nat :=
  fun n => Nat.rec (motive := fun _ => Nat → Nat → Nat × Nat) (fun L R => (L, R)) (fun _ ih L R => ih (z_lr ps 3 L R).1 (z_lr ps 3 L R).2) n
/-! the model's joined points, six digits of a number -/
def z_jg (J k : Nat) : Nat := (J >>> (3 * k)) &&& 7
def z_js (J k v : Nat) : Nat := J - (z_jg J k) * 2 ^ (3 * k) + v * 2 ^ (3 * k)
def z_je (J k : Nat) : Nat := z_jg J (z_jg J (z_jg J (z_jg J (z_jg J (z_jg J k)))))
def z_jst (J b v : Nat) : Nat := cond (Nat.blt b 3) (z_js J (z_je J b) (z_je J (3 + v))) J
def z_j0 : Nat := 0 + 1 * 8 + 2 * 64 + 3 * 512 + 4 * 4096 + 5 * 32768
def z_jm (J u v set : Nat) : Bool := Nat.testBit set u && (Nat.testBit set v && Nat.beq (z_je J u) (z_je J (3 + v)))
def z_jl (J set : Nat) : Bool := !(z_jm J 0 0 set || z_jm J 0 1 set || z_jm J 0 2 set || z_jm J 1 0 set || z_jm J 1 1 set || z_jm J 1 2 set || z_jm J 2 0 set || z_jm J 2 1 set || z_jm J 2 2 set)
def z_jk (J k : Nat) : Bool := Nat.blt (z_jg J k) 6 && Nat.beq (z_jg J (z_je J k)) (z_je J k)
noncomputable def z_cl1 (ps : List Nat) (set : Nat) : Bool := Nat.beq ((z_lr6 ps 6 set 0).2 &&& set) 0
noncomputable def z_nd1 (ps : List Nat) (J set : Nat) : Bool := z_cl1 ps set == z_jl J set
noncomputable def z_nd (ps : List Nat) (J : Nat) : Bool :=
  z_jk J 0 && z_jk J 1 && z_jk J 2 && z_jk J 3 && z_jk J 4 && z_jk J 5 && z_nd1 ps J 1 && z_nd1 ps J 2 && z_nd1 ps J 3 && z_nd1 ps J 4 && z_nd1 ps J 5 && z_nd1 ps J 6 && z_nd1 ps J 7
noncomputable def z_tr : Nat → List Nat → Nat → Nat → Bool := fun n =>
  Nat.rec (motive := fun _ => List Nat → Nat → Nat → Bool) (fun ps _ J => z_nd ps J) (fun _ ih ps b J => z_nd ps J && (ih (ps ++ [0]) 0 (z_jst J b 0) && (ih (ps ++ [1]) 1 (z_jst J b 1) && ih (ps ++ [2]) 2 (z_jst J b 2)))) n
theorem z_tr_6 : z_tr 6 [] 3 z_j0 = true := by decide +kernel
