def vm_D (b : ByteArray) (pc n pc' : Nat) (i : Instr) : Prop := decode b pc = .ok (i, n) ∧ pc + n = pc'
/-- a branch: where it goes on, where it goes to -/
def vm_B (b : ByteArray) (pc pc' tgt : Nat) (f : Int → Instr) : Prop := ∃ off : Int, decode b pc = .ok (f off, 3) ∧ pc + 3 = pc' ∧ (pc : Int) + off = (tgt : Int)
theorem vm_db {b : ByteArray} {t : List (Nat × Instr × Nat)} (h : (t.all fun q => decide (decode b q.1 = .ok (q.2.1, q.2.2))) = true) {i pc n : Nat} {ins : Instr} (hi : t[i]? = some (pc, ins, n)) : decode b pc = .ok (ins, n) := by
  rw [List.all_eq_true] at h
  have h1 := h _ (List.mem_of_getElem? hi)
  simp only [decide_eq_true_eq] at h1
  exact h1
theorem vm_dD {b : ByteArray} {t : List (Nat × Instr × Nat)} (h : (t.all fun q => decide (decode b q.1 = .ok (q.2.1, q.2.2))) = true) (i : Nat) {pc n pc' : Nat} {ins : Instr} (hi : t[i]? = some (pc, ins, n)) (hp : pc + n = pc') : vm_D b pc n pc' ins := ⟨vm_db h hi, hp⟩
def vm_ct : vm_X → Nat
  | .inr (.inl _) => 2
  | _ => 1
theorem vm_ct_v (w : vm_W) (X : vm_X) : (vm_v w X).category = vm_ct X := by
  rcases X with x | x | k
  · rfl
  · rfl
  · show (vm_rv w k).category = 1
    unfold vm_rv
    split <;> rfl
/-- the locals behind a store of one word -/
def vm_s1 (ls : List (Nat × vm_X)) (i : Nat) (v : vm_X) : List (Nat × vm_X) := (i, v) :: ls.filter (fun q => !(q.1 == i) && !(q.1 + 1 == i && vm_ct q.2 == 2))
def vm_s2 (ls : List (Nat × vm_X)) (i : Nat) (v : vm_X) : List (Nat × vm_X) := (i, v) :: ls.filter (fun q => !(q.1 == i) && (!(q.1 == i + 1) && !(q.1 + 1 == i && vm_ct q.2 == 2)))
theorem vm_s1_map (w : vm_W) (ls : List (Nat × vm_X)) (i : Nat) (v : vm_X) : (i, vm_v w v) :: (ls.map (fun q => (q.1, vm_v w q.2))).filter (fun q => !(q.1 == i) && !(q.1 + 1 == i && q.2.category == 2)) = (vm_s1 ls i v).map (fun q => (q.1, vm_v w q.2)) := by
  unfold vm_s1
  rw [List.map_cons, List.filter_map]
  congr 2
  congr 1
  funext q
  simp [vm_ct_v]
theorem vm_s2_map (w : vm_W) (ls : List (Nat × vm_X)) (i : Nat) (v : vm_X) : (i, vm_v w v) :: (ls.map (fun q => (q.1, vm_v w q.2))).filter (fun q => !(q.1 == i) && (!(q.1 == i + 1) && !(q.1 + 1 == i && q.2.category == 2))) = (vm_s2 ls i v).map (fun q => (q.1, vm_v w q.2)) := by
  unfold vm_s2
  rw [List.map_cons, List.filter_map]
  congr 2
  congr 1
  funext q
  simp [vm_ct_v]
theorem vm_s1_ok {ls : List (Nat × vm_X)} {i : Nat} {v : vm_X} (h : ∀ q ∈ ls, vm_okv q.2) (hv : vm_okv v) : ∀ q ∈ vm_s1 ls i v, vm_okv q.2 := by
  intro q hq
  rcases List.mem_cons.mp hq with e | e
  · subst e; exact hv
  · exact h q (List.mem_filter.mp e).1
theorem vm_s2_ok {ls : List (Nat × vm_X)} {i : Nat} {v : vm_X} (h : ∀ q ∈ ls, vm_okv q.2) (hv : vm_okv v) : ∀ q ∈ vm_s2 ls i v, vm_okv q.2 := by
  intro q hq
  rcases List.mem_cons.mp hq with e | e
  · subst e; exact hv
  · exact h q (List.mem_filter.mp e).1
theorem mm_in_32 (x : Int32) : mm_in x.toInt := ⟨x.le_toInt, x.toInt_lt⟩
theorem mm_of {x : Int} (h : mm_in x) : (Int32.ofInt x).toInt = x := Int32.toInt_ofInt_of_le h.1 h.2
theorem mm_eq {x y : Int} (hx : mm_in x) (hy : mm_in y) : Int32.ofInt x = Int32.ofInt y ↔ x = y := by
  rw [← Int32.toInt_inj, mm_of hx, mm_of hy]
theorem mm_lt {x y : Int} (hx : mm_in x) (hy : mm_in y) : Int32.ofInt x < Int32.ofInt y ↔ x < y := by
  rw [Int32.lt_iff_toInt_lt, mm_of hx, mm_of hy]
theorem mm_le {x y : Int} (hx : mm_in x) (hy : mm_in y) : Int32.ofInt x ≤ Int32.ofInt y ↔ x ≤ y := by
  rw [Int32.le_iff_toInt_le, mm_of hx, mm_of hy]
theorem mm_0 : mm_in 0 := by unfold mm_in; omega
section ROWS
variable {α : Type} {l : Launch} {w : vm_W} {y : vm_Y} {fr : Nat} {ex : α → vm_O} {pc pc' tgt : Nat} {ls ls' : List (Nat × vm_X)} {st st' : List vm_X} {M M1 : mm_T} {k k1 k2 : Option (α × mm_T)}
theorem V_.go (kk : V_ l w y fr ex pc' ls' st' M k) (hok : (∀ q ∈ ls, vm_okv q.2) → (∀ v ∈ st, vm_okv v) → mm_ok M → (∀ q ∈ ls', vm_okv q.2) ∧ (∀ v ∈ st', vm_okv v))
    (h : (∀ q ∈ ls, vm_okv q.2) → (∀ v ∈ st, vm_okv v) → mm_ok M → ∀ (p : Program) (e : Env) (R : Room) (s : State) (m : MethodId) (args : Array Value) (below : List Frame) (meth : Method) (c : Code) (H : Heap) (locs : List Loc) (cells slots : Nat) (Q : State → Prop) (la : Array Slot), cells ≤ R.cells → slots ≤ R.slots →
      vm_C l w y fr p R s m args meth c → vm_R w M H → lv_has la y.2.2.1 (ls.map (fun q => (q.1, vm_v w q.2))) → (∀ la' : Array Slot, lv_has la' y.2.2.1 (ls'.map (fun q => (q.1, vm_v w q.2))) → W p l e R s m args below meth c H locs cells slots Q (F0 m pc' la' (st'.map (vm_v w)))) →
      W p l e R s m args below meth c H locs cells slots Q (F0 m pc la (st.map (vm_v w)))) : V_ l w y fr ex pc ls st M k := by
  intro r M' hk h1 h2 h3
  obtain ⟨a, b⟩ := kk r M' hk (hok h1 h2 h3).1 (hok h1 h2 h3).2 h3
  refine ⟨a, ?_⟩
  intro p e R s m args below meth c H locs cells slots mc ms Q la C hR hs hl hla c1 c2 c3 c4 hZ
  exact h h1 h2 h3 p e R s m args below meth c H locs cells slots Q la (by omega) (by omega) C hR hla (fun la' hla' => b p e R s m args below meth c H locs cells slots mc ms Q la' C hR hs hl hla' c1 c2 c3 c4 hZ)
theorem V_.none : V_ l w y fr ex pc ls st M (none : Option (α × mm_T)) := by
  intro r M' hk; cases hk
theorem v_sub (ks : List Nat) (h : ks.map (fun j => ls[j]?) = ls'.map some) (kk : V_ l w y fr ex pc ls' st M k) : V_ l w y fr ex pc ls st M k := by
  have hm : ∀ q ∈ ls', q ∈ ls := by
    intro q hq
    have h1 : some q ∈ ks.map (fun j => ls[j]?) := by rw [h]; exact List.mem_map.mpr ⟨q, hq, rfl⟩
    obtain ⟨j, -, hj⟩ := List.mem_map.mp h1
    exact List.mem_of_getElem? hj
  refine V_.go kk (fun h1 h2 _ => ⟨fun q hq => h1 q (hm q hq), h2⟩) ?_
  intro _ _ _ p e R s m args below meth c H locs cells slots Q la _ _ C hR hl2 K
  refine K la ⟨hl2.1, hl2.2.1, fun q hq => ?_⟩
  obtain ⟨q0, hq0, rfl⟩ := List.mem_map.mp hq
  exact hl2.2.2 _ (List.mem_map.mpr ⟨q0, hm q0 hq0, rfl⟩)
-- pushes
theorem v_iload {i : Nat} {x : Int} (hd : vm_D y.2.1 pc 2 pc' (.iload i)) (q0 : Nat) (hl : ls[q0]? = some (i, xI x)) (kk : V_ l w y fr ex pc' ls (xI x :: st) M k) : V_ l w y fr ex pc ls st M k := by
  obtain ⟨hd, rfl⟩ := hd
  refine V_.go kk (fun h1 h2 _ => ⟨h1, List.forall_mem_cons.mpr ⟨h1 _ (List.mem_of_getElem? hl), h2⟩⟩) ?_
  intro _ _ _ p e R s m args below meth c H locs cells slots Q la _ _ C hR hl2 K
  exact lv_iload C.1.1 C.1.2.1 hd (lv_at hl2 q0 (by rw [List.getElem?_map, hl]; rfl)) (K la hl2)
theorem v_iloadn {j : Fin 4} {i : Nat} {x : Int} (hd : vm_D y.2.1 pc 1 pc' (.iload_n j)) (hi : (j : Nat) = i) (q0 : Nat) (hl : ls[q0]? = some (i, xI x)) (kk : V_ l w y fr ex pc' ls (xI x :: st) M k) : V_ l w y fr ex pc ls st M k := by
  obtain ⟨hd, rfl⟩ := hd
  refine V_.go kk (fun h1 h2 _ => ⟨h1, List.forall_mem_cons.mpr ⟨h1 _ (List.mem_of_getElem? hl), h2⟩⟩) ?_
  intro _ _ _ p e R s m args below meth c H locs cells slots Q la _ _ C hR hl2 K
  exact lv_iload_n C.1.1 C.1.2.1 hd hi (lv_at hl2 q0 (by rw [List.getElem?_map, hl]; rfl)) (K la hl2)
theorem v_lload {i : Nat} {x : Int64} (hd : vm_D y.2.1 pc 2 pc' (.lload i)) (q0 : Nat) (hl : ls[q0]? = some (i, xJ x)) (kk : V_ l w y fr ex pc' ls (xJ x :: st) M k) : V_ l w y fr ex pc ls st M k := by
  obtain ⟨hd, rfl⟩ := hd
  refine V_.go kk (fun h1 h2 _ => ⟨h1, List.forall_mem_cons.mpr ⟨trivial, h2⟩⟩) ?_
  intro _ _ _ p e R s m args below meth c H locs cells slots Q la _ _ C hR hl2 K
  exact lv_lload C.1.1 C.1.2.1 hd (lv_at hl2 q0 (by rw [List.getElem?_map, hl]; rfl)) (K la hl2)
theorem v_lloadn {j : Fin 4} {i : Nat} {x : Int64} (hd : vm_D y.2.1 pc 1 pc' (.lload_n j)) (hi : (j : Nat) = i) (q0 : Nat) (hl : ls[q0]? = some (i, xJ x)) (kk : V_ l w y fr ex pc' ls (xJ x :: st) M k) : V_ l w y fr ex pc ls st M k := by
  obtain ⟨hd, rfl⟩ := hd
  refine V_.go kk (fun h1 h2 _ => ⟨h1, List.forall_mem_cons.mpr ⟨trivial, h2⟩⟩) ?_
  intro _ _ _ p e R s m args below meth c H locs cells slots Q la _ _ C hR hl2 K
  exact lv_lload_n C.1.1 C.1.2.1 hd hi (lv_at hl2 q0 (by rw [List.getElem?_map, hl]; rfl)) (K la hl2)
theorem v_aload {i : Nat} {x : Nat} (hd : vm_D y.2.1 pc 2 pc' (.aload i)) (q0 : Nat) (hl : ls[q0]? = some (i, xA x)) (kk : V_ l w y fr ex pc' ls (xA x :: st) M k) : V_ l w y fr ex pc ls st M k := by
  obtain ⟨hd, rfl⟩ := hd
  refine V_.go kk (fun h1 h2 _ => ⟨h1, List.forall_mem_cons.mpr ⟨trivial, h2⟩⟩) ?_
  intro _ _ _ p e R s m args below meth c H locs cells slots Q la _ _ C hR hl2 K
  have h0 := lv_at hl2 q0 (i := i) (v := vm_rv w x) (by rw [List.getElem?_map, hl]; rfl)
  have K2 := K la hl2
  rw [List.map_cons] at K2
  change W p l e R s m args below meth c H locs cells slots Q (F0 m (pc + 2) la (vm_rv w x :: st.map (vm_v w))) at K2
  unfold vm_rv at h0 K2
  by_cases hx : x = 0
  · rw [if_pos hx] at h0 K2
    exact lv_aloadN C.1.1 C.1.2.1 hd h0 K2
  · rw [if_neg hx] at h0 K2
    exact lv_aload C.1.1 C.1.2.1 hd h0 K2
theorem v_aloadn {j : Fin 4} {i : Nat} {x : Nat} (hd : vm_D y.2.1 pc 1 pc' (.aload_n j)) (hi : (j : Nat) = i) (q0 : Nat) (hl : ls[q0]? = some (i, xA x)) (kk : V_ l w y fr ex pc' ls (xA x :: st) M k) : V_ l w y fr ex pc ls st M k := by
  obtain ⟨hd, rfl⟩ := hd
  refine V_.go kk (fun h1 h2 _ => ⟨h1, List.forall_mem_cons.mpr ⟨trivial, h2⟩⟩) ?_
  intro _ _ _ p e R s m args below meth c H locs cells slots Q la _ _ C hR hl2 K
  have h0 := lv_at hl2 q0 (i := i) (v := vm_rv w x) (by rw [List.getElem?_map, hl]; rfl)
  have K2 := K la hl2
  rw [List.map_cons] at K2
  change W p l e R s m args below meth c H locs cells slots Q (F0 m (pc + 1) la (vm_rv w x :: st.map (vm_v w))) at K2
  unfold vm_rv at h0 K2
  by_cases hx : x = 0
  · rw [if_pos hx] at h0 K2
    exact lv_aload_nN C.1.1 C.1.2.1 hd hi h0 K2
  · rw [if_neg hx] at h0 K2
    exact lv_aload_n C.1.1 C.1.2.1 hd hi h0 K2
theorem v_null (hd : vm_D y.2.1 pc 1 pc' .aconst_null) (kk : V_ l w y fr ex pc' ls (xA 0 :: st) M k) : V_ l w y fr ex pc ls st M k := by
  obtain ⟨hd, rfl⟩ := hd
  refine V_.go kk (fun h1 h2 _ => ⟨h1, List.forall_mem_cons.mpr ⟨trivial, h2⟩⟩) ?_
  intro _ _ _ p e R s m args below meth c H locs cells slots Q la _ _ C hR hl2 K
  exact lv_null C.1.1 C.1.2.1 hd (K la hl2)
theorem v_iconst {n : Int} (hd : vm_D y.2.1 pc 1 pc' (.iconst n)) (hn : decide (-2147483648 ≤ n ∧ n < 2147483648) = true) (kk : V_ l w y fr ex pc' ls (xI n :: st) M k) : V_ l w y fr ex pc ls st M k := by
  have hn9 : mm_in n := (of_decide_eq_true hn : -2147483648 ≤ n ∧ n < 2147483648)
  obtain ⟨hd, rfl⟩ := hd
  refine V_.go kk (fun h1 h2 _ => ⟨h1, List.forall_mem_cons.mpr ⟨hn9, h2⟩⟩) ?_
  intro _ _ _ p e R s m args below meth c H locs cells slots Q la _ _ C hR hl2 K
  exact lv_iconst C.1.1 C.1.2.1 hd rfl (K la hl2)
theorem v_bipush {n : Int} (hd : vm_D y.2.1 pc 2 pc' (.bipush n)) (hn : decide (-128 ≤ n ∧ n < 128) = true) (kk : V_ l w y fr ex pc' ls (xI n :: st) M k) : V_ l w y fr ex pc ls st M k := by
  obtain ⟨hd, rfl⟩ := hd
  have hn := of_decide_eq_true hn
  have hi : mm_in n := ⟨by omega, by omega⟩
  refine V_.go kk (fun h1 h2 _ => ⟨h1, List.forall_mem_cons.mpr ⟨hi, h2⟩⟩) ?_
  intro _ _ _ p e R s m args below meth c H locs cells slots Q la _ _ C hR hl2 K
  refine lv_bipush C.1.1 C.1.2.1 hd ?_ (K la hl2)
  rw [← Int32.toInt_inj, mm_of hi, Int8.toInt_toInt32]
  exact Int8.toInt_ofInt_of_le hn.1 hn.2
theorem v_sipush {n : Int} (hd : vm_D y.2.1 pc 3 pc' (.sipush n)) (hn : decide (-32768 ≤ n ∧ n < 32768) = true) (kk : V_ l w y fr ex pc' ls (xI n :: st) M k) : V_ l w y fr ex pc ls st M k := by
  obtain ⟨hd, rfl⟩ := hd
  have hn := of_decide_eq_true hn
  have hi : mm_in n := ⟨by omega, by omega⟩
  refine V_.go kk (fun h1 h2 _ => ⟨h1, List.forall_mem_cons.mpr ⟨hi, h2⟩⟩) ?_
  intro _ _ _ p e R s m args below meth c H locs cells slots Q la _ _ C hR hl2 K
  refine lv_sipush C.1.1 C.1.2.1 hd ?_ (K la hl2)
  rw [← Int32.toInt_inj, mm_of hi, Int16.toInt_toInt32]
  exact Int16.toInt_ofInt_of_le hn.1 hn.2
theorem v_ldc {n : Int} {v : Int32} {i : Nat} (hd : vm_D y.2.1 pc 2 pc' (.ldc i)) (hv : Int32.ofInt n = v) (hn : decide (-2147483648 ≤ n ∧ n < 2147483648) = true) (hw : Cond.constant y.1 i v ∈ gw_G) (kk : V_ l w y fr ex pc' ls (xI n :: st) M k) : V_ l w y fr ex pc ls st M k := by
  have hn9 : mm_in n := (of_decide_eq_true hn : -2147483648 ≤ n ∧ n < 2147483648)
  obtain ⟨hd, rfl⟩ := hd
  refine V_.go kk (fun h1 h2 _ => ⟨h1, List.forall_mem_cons.mpr ⟨hn9, h2⟩⟩) ?_
  intro _ _ _ p e R s m args below meth c H locs cells slots Q la _ _ C hR hl2 K
  subst hv
  exact lv_ldc C.1.1 C.1.2.1 C.1.2.2.2.1 (C.1.2.2.2.2 _ hw) hd (K la hl2)
theorem v_ldc2 {v : Int64} {i : Nat} (hd : vm_D y.2.1 pc 3 pc' (.ldc2_w i)) (hw : Cond.constantLong y.1 i v ∈ gw_G) (kk : V_ l w y fr ex pc' ls (xJ v :: st) M k) : V_ l w y fr ex pc ls st M k := by
  obtain ⟨hd, rfl⟩ := hd
  refine V_.go kk (fun h1 h2 _ => ⟨h1, List.forall_mem_cons.mpr ⟨trivial, h2⟩⟩) ?_
  intro _ _ _ p e R s m args below meth c H locs cells slots Q la _ _ C hR hl2 K
  exact lv_ldc2 C.1.1 C.1.2.1 C.1.2.2.2.1 (C.1.2.2.2.2 _ hw) hd (K la hl2)
theorem v_lconst {n : Fin 2} {v : Int64} (hd : vm_D y.2.1 pc 1 pc' (.lconst n)) (hv : Int64.ofNat (n : Nat) = v) (kk : V_ l w y fr ex pc' ls (xJ v :: st) M k) : V_ l w y fr ex pc ls st M k := by
  obtain ⟨hd, rfl⟩ := hd
  refine V_.go kk (fun h1 h2 _ => ⟨h1, List.forall_mem_cons.mpr ⟨trivial, h2⟩⟩) ?_
  intro _ _ _ p e R s m args below meth c H locs cells slots Q la _ _ C hR hl2 K
  exact lv_lconst C.1.1 C.1.2.1 hd hv (K la hl2)
-- stores
theorem v_istore {i : Nat} {x : Int} {f : Int → Option (α × mm_T)} (hd : vm_D y.2.1 pc 2 pc' (.istore i)) (hn : i < y.2.2.1) {lz : Int → List (Nat × vm_X)} (hl : ∀ z, vm_s1 ls i (xI z) = lz z) (kk : ∀ z : Int, V_ l w y fr ex pc' (lz z) st M (f z)) : V_ l w y fr ex pc ls (xI x :: st) M (lt_ x f) := by
  obtain ⟨hd, rfl⟩ := hd
  refine V_.go (kk x) (fun h1 h2 _ => ?_) ?_
  · rw [← hl]; exact ⟨vm_s1_ok h1 (h2 _ List.mem_cons_self), fun v hv => h2 v (List.mem_cons_of_mem _ hv)⟩
  intro _ _ _ p e R s m args below meth c H locs cells slots Q la _ _ C hR hl2 K
  refine lv_istore C.1.1 C.1.2.1 hd hl2 hn (vm_s1_map w ls i (xI x)) (fun la' h => K la' ?_)
  rw [← hl]; exact h
theorem v_istoren {j : Fin 4} {i : Nat} {x : Int} {lz : Int → List (Nat × vm_X)} {f : Int → Option (α × mm_T)} (hd : vm_D y.2.1 pc 1 pc' (.istore_n j)) (hi : (j : Nat) = i) (hn : i < y.2.2.1) (hl : ∀ z, vm_s1 ls i (xI z) = lz z) (kk : ∀ z : Int, V_ l w y fr ex pc' (lz z) st M (f z)) : V_ l w y fr ex pc ls (xI x :: st) M (lt_ x f) := by
  obtain ⟨hd, rfl⟩ := hd
  refine V_.go (kk x) (fun h1 h2 _ => ?_) ?_
  · rw [← hl]; exact ⟨vm_s1_ok h1 (h2 _ List.mem_cons_self), fun v hv => h2 v (List.mem_cons_of_mem _ hv)⟩
  intro _ _ _ p e R s m args below meth c H locs cells slots Q la _ _ C hR hl2 K
  refine lv_istore_n C.1.1 C.1.2.1 hd hi hl2 hn (vm_s1_map w ls i (xI x)) (fun la' h => K la' ?_)
  rw [← hl]; exact h
theorem v_lstore {i : Nat} {x : Int64} {lz : Int64 → List (Nat × vm_X)} {f : Int64 → Option (α × mm_T)} (hd : vm_D y.2.1 pc 2 pc' (.lstore i)) (hn : i + 1 < y.2.2.1) (hl : ∀ z, vm_s2 ls i (xJ z) = lz z) (kk : ∀ z : Int64, V_ l w y fr ex pc' (lz z) st M (f z)) : V_ l w y fr ex pc ls (xJ x :: st) M (lt_ x f) := by
  obtain ⟨hd, rfl⟩ := hd
  refine V_.go (kk x) (fun h1 h2 _ => ?_) ?_
  · rw [← hl]; exact ⟨vm_s2_ok h1 (show vm_okv (xJ x) from trivial), fun v hv => h2 v (List.mem_cons_of_mem _ hv)⟩
  intro _ _ _ p e R s m args below meth c H locs cells slots Q la _ _ C hR hl2 K
  refine lv_lstore C.1.1 C.1.2.1 hd hl2 hn (vm_s2_map w ls i (xJ x)) (fun la' h => K la' ?_)
  rw [← hl]; exact h
theorem v_lstoren {j : Fin 4} {i : Nat} {x : Int64} {lz : Int64 → List (Nat × vm_X)} {f : Int64 → Option (α × mm_T)} (hd : vm_D y.2.1 pc 1 pc' (.lstore_n j)) (hi : (j : Nat) = i) (hn : i + 1 < y.2.2.1) (hl : ∀ z, vm_s2 ls i (xJ z) = lz z) (kk : ∀ z : Int64, V_ l w y fr ex pc' (lz z) st M (f z)) : V_ l w y fr ex pc ls (xJ x :: st) M (lt_ x f) := by
  obtain ⟨hd, rfl⟩ := hd
  refine V_.go (kk x) (fun h1 h2 _ => ?_) ?_
  · rw [← hl]; exact ⟨vm_s2_ok h1 (show vm_okv (xJ x) from trivial), fun v hv => h2 v (List.mem_cons_of_mem _ hv)⟩
  intro _ _ _ p e R s m args below meth c H locs cells slots Q la _ _ C hR hl2 K
  refine lv_lstore_n C.1.1 C.1.2.1 hd hi hl2 hn (vm_s2_map w ls i (xJ x)) (fun la' h => K la' ?_)
  rw [← hl]; exact h
theorem v_astore {i : Nat} {x : Nat} {lz : Nat → List (Nat × vm_X)} {f : Nat → Option (α × mm_T)} (hd : vm_D y.2.1 pc 2 pc' (.astore i)) (hn : i < y.2.2.1) (hl : ∀ z, vm_s1 ls i (xA z) = lz z) (kk : ∀ z : Nat, V_ l w y fr ex pc' (lz z) st M (f z)) : V_ l w y fr ex pc ls (xA x :: st) M (lt_ x f) := by
  obtain ⟨hd, rfl⟩ := hd
  refine V_.go (kk x) (fun h1 h2 _ => ?_) ?_
  · rw [← hl]; exact ⟨vm_s1_ok h1 (show vm_okv (xA x) from trivial), fun v hv => h2 v (List.mem_cons_of_mem _ hv)⟩
  intro _ _ _ p e R s m args below meth c H locs cells slots Q la _ _ C hR hl2 K
  have hm := vm_s1_map w ls i (xA x)
  have K2 : ∀ la' : Array Slot, lv_has la' y.2.2.1 ((vm_s1 ls i (xA x)).map (fun q => (q.1, vm_v w q.2))) → W p l e R s m args below meth c H locs cells slots Q (F0 m (pc + 2) la' (st.map (vm_v w))) := fun la' h => K la' (by rw [← hl]; exact h)
  rw [List.map_cons]
  change (i, vm_rv w x) :: _ = _ at hm
  change W p l e R s m args below meth c H locs cells slots Q (F0 m pc la (vm_rv w x :: st.map (vm_v w)))
  by_cases hx : x = 0
  · have e0 : vm_rv w x = .null := if_pos hx
    rw [e0] at hm ⊢
    exact lv_astoreN C.1.1 C.1.2.1 hd hl2 hn hm K2
  · have e0 : vm_rv w x = .ref (vm_ad w x) := if_neg hx
    rw [e0] at hm ⊢
    exact lv_astore C.1.1 C.1.2.1 hd hl2 hn hm K2
theorem v_astoren {j : Fin 4} {i : Nat} {x : Nat} {lz : Nat → List (Nat × vm_X)} {f : Nat → Option (α × mm_T)} (hd : vm_D y.2.1 pc 1 pc' (.astore_n j)) (hi : (j : Nat) = i) (hn : i < y.2.2.1) (hl : ∀ z, vm_s1 ls i (xA z) = lz z) (kk : ∀ z : Nat, V_ l w y fr ex pc' (lz z) st M (f z)) : V_ l w y fr ex pc ls (xA x :: st) M (lt_ x f) := by
  obtain ⟨hd, rfl⟩ := hd
  refine V_.go (kk x) (fun h1 h2 _ => ?_) ?_
  · rw [← hl]; exact ⟨vm_s1_ok h1 (show vm_okv (xA x) from trivial), fun v hv => h2 v (List.mem_cons_of_mem _ hv)⟩
  intro _ _ _ p e R s m args below meth c H locs cells slots Q la _ _ C hR hl2 K
  have hm := vm_s1_map w ls i (xA x)
  have K2 : ∀ la' : Array Slot, lv_has la' y.2.2.1 ((vm_s1 ls i (xA x)).map (fun q => (q.1, vm_v w q.2))) → W p l e R s m args below meth c H locs cells slots Q (F0 m (pc + 1) la' (st.map (vm_v w))) := fun la' h => K la' (by rw [← hl]; exact h)
  rw [List.map_cons]
  change (i, vm_rv w x) :: _ = _ at hm
  change W p l e R s m args below meth c H locs cells slots Q (F0 m pc la (vm_rv w x :: st.map (vm_v w)))
  by_cases hx : x = 0
  · have e0 : vm_rv w x = .null := if_pos hx
    rw [e0] at hm ⊢
    exact lv_astore_nN C.1.1 C.1.2.1 hd hi hl2 hn hm K2
  · have e0 : vm_rv w x = .ref (vm_ad w x) := if_neg hx
    rw [e0] at hm ⊢
    exact lv_astore_n C.1.1 C.1.2.1 hd hi hl2 hn hm K2
theorem mm_add (x z : Int) : Int32.ofInt x + Int32.ofInt z = Int32.ofInt (x + z) := (Int32.ofInt_add x z).symm
theorem mm_sub (x z : Int) : Int32.ofInt x - Int32.ofInt z = Int32.ofInt (x - z) := (Int32.ofInt_sub x z).symm
theorem mm_mul (x z : Int) : Int32.ofInt x * Int32.ofInt z = Int32.ofInt (x * z) := (Int32.ofInt_mul x z).symm
theorem v_iinc {i : Nat} {n x : Int} {lz : Int → List (Nat × vm_X)} {f : Int → Option (α × mm_T)} (hd : vm_D y.2.1 pc 3 pc' (.iinc i n)) (q0 : Nat) (hq : ls[q0]? = some (i, xI x)) (hn : i < y.2.2.1) (hl : ∀ z, vm_s1 ls i (xI z) = lz z) (kk : ∀ z : Int, V_ l w y fr ex pc' (lz z) st M (f z)) : V_ l w y fr ex pc ls st M (ck_ (x + n) f) := by
  obtain ⟨hd, rfl⟩ := hd
  intro r M' hk
  unfold ck_ at hk
  split at hk
  case isFalse => cases hk
  case isTrue hb =>
    refine V_.go (kk (x + n)) (fun h1 h2 _ => ?_) ?_ r M' hk
    · rw [← hl]; exact ⟨vm_s1_ok h1 hb, h2⟩
    intro _ _ _ p e R s m args below meth c H locs cells slots Q la _ _ C hR hl2 K
    refine lv_iinc C.1.1 C.1.2.1 hd hl2 (k := q0) (by rw [List.getElem?_map, hq]; rfl) (mm_add x n) hn (vm_s1_map w ls i (xI (x + n))) (fun la' h => K la' ?_)
    rw [← hl]; exact h
theorem v_iadd {a b : Int} {f : Int → Option (α × mm_T)} (hd : vm_D y.2.1 pc 1 pc' .iadd) (kk : ∀ z : Int, V_ l w y fr ex pc' ls (xI z :: st) M (f z)) : V_ l w y fr ex pc ls (xI b :: xI a :: st) M (ck_ (a + b) f) := by
  obtain ⟨hd, rfl⟩ := hd
  intro r M' hk
  unfold ck_ at hk
  split at hk
  case isFalse => cases hk
  case isTrue hb =>
    refine V_.go (kk (a + b)) (fun h1 h2 _ => ⟨h1, List.forall_mem_cons.mpr ⟨hb, fun v hv => h2 v (List.mem_cons_of_mem _ (List.mem_cons_of_mem _ hv))⟩⟩) ?_ r M' hk
    intro _ _ _ p e R s m args below meth c H locs cells slots Q la _ _ C hR hl2 K
    have K2 := K la hl2
    refine lv_iadd C.1.1 C.1.2.1 hd ?_
    rw [mm_add]
    exact K2
theorem v_isub {a b : Int} {f : Int → Option (α × mm_T)} (hd : vm_D y.2.1 pc 1 pc' .isub) (kk : ∀ z : Int, V_ l w y fr ex pc' ls (xI z :: st) M (f z)) : V_ l w y fr ex pc ls (xI b :: xI a :: st) M (ck_ (a - b) f) := by
  obtain ⟨hd, rfl⟩ := hd
  intro r M' hk
  unfold ck_ at hk
  split at hk
  case isFalse => cases hk
  case isTrue hb =>
    refine V_.go (kk (a - b)) (fun h1 h2 _ => ⟨h1, List.forall_mem_cons.mpr ⟨hb, fun v hv => h2 v (List.mem_cons_of_mem _ (List.mem_cons_of_mem _ hv))⟩⟩) ?_ r M' hk
    intro _ _ _ p e R s m args below meth c H locs cells slots Q la _ _ C hR hl2 K
    have K2 := K la hl2
    refine lv_isub C.1.1 C.1.2.1 hd ?_
    rw [mm_sub]
    exact K2
theorem v_imul {a b : Int} {f : Int → Option (α × mm_T)} (hd : vm_D y.2.1 pc 1 pc' .imul) (kk : ∀ z : Int, V_ l w y fr ex pc' ls (xI z :: st) M (f z)) : V_ l w y fr ex pc ls (xI b :: xI a :: st) M (ck_ (a * b) f) := by
  obtain ⟨hd, rfl⟩ := hd
  intro r M' hk
  unfold ck_ at hk
  split at hk
  case isFalse => cases hk
  case isTrue hb =>
    refine V_.go (kk (a * b)) (fun h1 h2 _ => ⟨h1, List.forall_mem_cons.mpr ⟨hb, fun v hv => h2 v (List.mem_cons_of_mem _ (List.mem_cons_of_mem _ hv))⟩⟩) ?_ r M' hk
    intro _ _ _ p e R s m args below meth c H locs cells slots Q la _ _ C hR hl2 K
    have K2 := K la hl2
    refine lv_imul C.1.1 C.1.2.1 hd ?_
    rw [mm_mul]
    exact K2
theorem v_iand {a b : Int} (hd : vm_D y.2.1 pc 1 pc' .iand) (kk : V_ l w y fr ex pc' ls (xI (and_ a b) :: st) M k) : V_ l w y fr ex pc ls (xI b :: xI a :: st) M k := by
  obtain ⟨hd, rfl⟩ := hd
  refine V_.go kk (fun h1 h2 _ => ⟨h1, List.forall_mem_cons.mpr ⟨mm_in_32 _, fun v hv => h2 v (List.mem_cons_of_mem _ (List.mem_cons_of_mem _ hv))⟩⟩) ?_
  intro _ _ _ p e R s m args below meth c H locs cells slots Q la _ _ C hR hl2 K
  have K2 := K la hl2
  refine lv_iand C.1.1 C.1.2.1 hd ?_
  have e1 : vm_v w (xI (and_ a b)) = .int _ := congrArg Value.int (Int32.ofInt_toInt _)
  rw [List.map_cons, e1] at K2
  exact K2
theorem v_ior {a b : Int} (hd : vm_D y.2.1 pc 1 pc' .ior) (kk : V_ l w y fr ex pc' ls (xI (or_ a b) :: st) M k) : V_ l w y fr ex pc ls (xI b :: xI a :: st) M k := by
  obtain ⟨hd, rfl⟩ := hd
  refine V_.go kk (fun h1 h2 _ => ⟨h1, List.forall_mem_cons.mpr ⟨mm_in_32 _, fun v hv => h2 v (List.mem_cons_of_mem _ (List.mem_cons_of_mem _ hv))⟩⟩) ?_
  intro _ _ _ p e R s m args below meth c H locs cells slots Q la _ _ C hR hl2 K
  have K2 := K la hl2
  refine lv_ior C.1.1 C.1.2.1 hd ?_
  have e1 : vm_v w (xI (or_ a b)) = .int _ := congrArg Value.int (Int32.ofInt_toInt _)
  rw [List.map_cons, e1] at K2
  exact K2
theorem v_ixor {a b : Int} (hd : vm_D y.2.1 pc 1 pc' .ixor) (kk : V_ l w y fr ex pc' ls (xI (xor_ a b) :: st) M k) : V_ l w y fr ex pc ls (xI b :: xI a :: st) M k := by
  obtain ⟨hd, rfl⟩ := hd
  refine V_.go kk (fun h1 h2 _ => ⟨h1, List.forall_mem_cons.mpr ⟨mm_in_32 _, fun v hv => h2 v (List.mem_cons_of_mem _ (List.mem_cons_of_mem _ hv))⟩⟩) ?_
  intro _ _ _ p e R s m args below meth c H locs cells slots Q la _ _ C hR hl2 K
  have K2 := K la hl2
  refine lv_ixor C.1.1 C.1.2.1 hd ?_
  have e1 : vm_v w (xI (xor_ a b)) = .int _ := congrArg Value.int (Int32.ofInt_toInt _)
  rw [List.map_cons, e1] at K2
  exact K2
theorem v_ishl {a b : Int} (hd : vm_D y.2.1 pc 1 pc' .ishl) (kk : V_ l w y fr ex pc' ls (xI (shl_ a b) :: st) M k) : V_ l w y fr ex pc ls (xI b :: xI a :: st) M k := by
  obtain ⟨hd, rfl⟩ := hd
  refine V_.go kk (fun h1 h2 _ => ⟨h1, List.forall_mem_cons.mpr ⟨mm_in_32 _, fun v hv => h2 v (List.mem_cons_of_mem _ (List.mem_cons_of_mem _ hv))⟩⟩) ?_
  intro _ _ _ p e R s m args below meth c H locs cells slots Q la _ _ C hR hl2 K
  have K2 := K la hl2
  refine lv_ishl C.1.1 C.1.2.1 hd ?_
  have e1 : vm_v w (xI (shl_ a b)) = .int _ := congrArg Value.int (Int32.ofInt_toInt _)
  rw [List.map_cons, e1] at K2
  exact K2
theorem v_ishr {a b : Int} (hd : vm_D y.2.1 pc 1 pc' .ishr) (kk : V_ l w y fr ex pc' ls (xI (shr_ a b) :: st) M k) : V_ l w y fr ex pc ls (xI b :: xI a :: st) M k := by
  obtain ⟨hd, rfl⟩ := hd
  refine V_.go kk (fun h1 h2 _ => ⟨h1, List.forall_mem_cons.mpr ⟨mm_in_32 _, fun v hv => h2 v (List.mem_cons_of_mem _ (List.mem_cons_of_mem _ hv))⟩⟩) ?_
  intro _ _ _ p e R s m args below meth c H locs cells slots Q la _ _ C hR hl2 K
  have K2 := K la hl2
  refine lv_ishr C.1.1 C.1.2.1 hd ?_
  have e1 : vm_v w (xI (shr_ a b)) = .int _ := congrArg Value.int (Int32.ofInt_toInt _)
  rw [List.map_cons, e1] at K2
  exact K2
theorem v_iushr {a b : Int} (hd : vm_D y.2.1 pc 1 pc' .iushr) (kk : V_ l w y fr ex pc' ls (xI (ushr_ a b) :: st) M k) : V_ l w y fr ex pc ls (xI b :: xI a :: st) M k := by
  obtain ⟨hd, rfl⟩ := hd
  refine V_.go kk (fun h1 h2 _ => ⟨h1, List.forall_mem_cons.mpr ⟨mm_in_32 _, fun v hv => h2 v (List.mem_cons_of_mem _ (List.mem_cons_of_mem _ hv))⟩⟩) ?_
  intro _ _ _ p e R s m args below meth c H locs cells slots Q la _ _ C hR hl2 K
  have K2 := K la hl2
  refine lv_iushr C.1.1 C.1.2.1 hd rfl ?_
  have e1 : vm_v w (xI (ushr_ a b)) = .int _ := congrArg Value.int (Int32.ofInt_toInt _)
  rw [List.map_cons, e1] at K2
  exact K2
theorem v_i2b {a : Int} (hd : vm_D y.2.1 pc 1 pc' .i2b) (kk : V_ l w y fr ex pc' ls (xI (i2b_ a) :: st) M k) : V_ l w y fr ex pc ls (xI a :: st) M k := by
  obtain ⟨hd, rfl⟩ := hd
  refine V_.go kk (fun h1 h2 _ => ⟨h1, List.forall_mem_cons.mpr ⟨mm_in_32 _, fun v hv => h2 v (List.mem_cons_of_mem _ hv)⟩⟩) ?_
  intro _ _ _ p e R s m args below meth c H locs cells slots Q la _ _ C hR hl2 K
  have K2 := K la hl2
  refine lv_i2b C.1.1 C.1.2.1 hd rfl ?_
  have e1 : vm_v w (xI (i2b_ a)) = .int _ := congrArg Value.int (Int32.ofInt_toInt _)
  rw [List.map_cons, e1] at K2
  exact K2
theorem v_i2l {a : Int} (hd : vm_D y.2.1 pc 1 pc' .i2l) (kk : V_ l w y fr ex pc' ls (xJ (i2l_ a) :: st) M k) : V_ l w y fr ex pc ls (xI a :: st) M k := by
  obtain ⟨hd, rfl⟩ := hd
  refine V_.go kk (fun h1 h2 _ => ⟨h1, List.forall_mem_cons.mpr ⟨trivial, fun v hv => h2 v (List.mem_cons_of_mem _ hv)⟩⟩) ?_
  intro _ _ _ p e R s m args below meth c H locs cells slots Q la _ _ C hR hl2 K
  exact lv_i2l C.1.1 C.1.2.1 hd rfl (K la hl2)
theorem mm_lcm (a b : Int64) : lg_cmp a b = Int32.ofInt (lcm_ a b) := by
  unfold lg_cmp lcm_
  show (if b < a then (1 : Int32) else if a = b then 0 else -1) = _
  repeat' split
  all_goals rfl
theorem mm_lcm_in (a b : Int64) : mm_in (lcm_ a b) := by
  unfold lcm_ mm_in
  repeat' split
  all_goals omega
theorem v_lcmp {a b : Int64} (hd : vm_D y.2.1 pc 1 pc' .lcmp) (kk : V_ l w y fr ex pc' ls (xI (lcm_ a b) :: st) M k) : V_ l w y fr ex pc ls (xJ b :: xJ a :: st) M k := by
  obtain ⟨hd, rfl⟩ := hd
  refine V_.go kk (fun h1 h2 _ => ⟨h1, List.forall_mem_cons.mpr ⟨mm_lcm_in a b, fun v hv => h2 v (List.mem_cons_of_mem _ (List.mem_cons_of_mem _ hv))⟩⟩) ?_
  intro _ _ _ p e R s m args below meth c H locs cells slots Q la _ _ C hR hl2 K
  have K2 := K la hl2
  refine W.lcmp C.1.1 C.1.2.1 hd ?_
  rw [mm_lcm]
  exact K2
theorem v_lshl {a : Int64} {b : Int} (hd : vm_D y.2.1 pc 1 pc' .lshl) (kk : V_ l w y fr ex pc' ls (xJ (lshl_ a b) :: st) M k) : V_ l w y fr ex pc ls (xI b :: xJ a :: st) M k := by
  obtain ⟨hd, rfl⟩ := hd
  refine V_.go kk (fun h1 h2 _ => ⟨h1, List.forall_mem_cons.mpr ⟨trivial, fun v hv => h2 v (List.mem_cons_of_mem _ (List.mem_cons_of_mem _ hv))⟩⟩) ?_
  intro _ _ _ p e R s m args below meth c H locs cells slots Q la _ _ C hR hl2 K
  exact lv_lshl C.1.1 C.1.2.1 hd rfl (K la hl2)
theorem v_ladd {a b : Int64} (hd : vm_D y.2.1 pc 1 pc' .ladd) (kk : V_ l w y fr ex pc' ls (xJ (a + b) :: st) M k) : V_ l w y fr ex pc ls (xJ b :: xJ a :: st) M k := by
  obtain ⟨hd, rfl⟩ := hd
  refine V_.go kk (fun h1 h2 _ => ⟨h1, List.forall_mem_cons.mpr ⟨trivial, fun v hv => h2 v (List.mem_cons_of_mem _ (List.mem_cons_of_mem _ hv))⟩⟩) ?_
  intro _ _ _ p e R s m args below meth c H locs cells slots Q la _ _ C hR hl2 K
  exact lv_ladd C.1.1 C.1.2.1 hd (K la hl2)
theorem v_lsub {a b : Int64} (hd : vm_D y.2.1 pc 1 pc' .lsub) (kk : V_ l w y fr ex pc' ls (xJ (a - b) :: st) M k) : V_ l w y fr ex pc ls (xJ b :: xJ a :: st) M k := by
  obtain ⟨hd, rfl⟩ := hd
  refine V_.go kk (fun h1 h2 _ => ⟨h1, List.forall_mem_cons.mpr ⟨trivial, fun v hv => h2 v (List.mem_cons_of_mem _ (List.mem_cons_of_mem _ hv))⟩⟩) ?_
  intro _ _ _ p e R s m args below meth c H locs cells slots Q la _ _ C hR hl2 K
  exact lv_lsub C.1.1 C.1.2.1 hd (K la hl2)
theorem v_land {a b : Int64} (hd : vm_D y.2.1 pc 1 pc' .land) (kk : V_ l w y fr ex pc' ls (xJ (a &&& b) :: st) M k) : V_ l w y fr ex pc ls (xJ b :: xJ a :: st) M k := by
  obtain ⟨hd, rfl⟩ := hd
  refine V_.go kk (fun h1 h2 _ => ⟨h1, List.forall_mem_cons.mpr ⟨trivial, fun v hv => h2 v (List.mem_cons_of_mem _ (List.mem_cons_of_mem _ hv))⟩⟩) ?_
  intro _ _ _ p e R s m args below meth c H locs cells slots Q la _ _ C hR hl2 K
  exact lv_land C.1.1 C.1.2.1 hd (K la hl2)
theorem v_lor {a b : Int64} (hd : vm_D y.2.1 pc 1 pc' .lor) (kk : V_ l w y fr ex pc' ls (xJ (a ||| b) :: st) M k) : V_ l w y fr ex pc ls (xJ b :: xJ a :: st) M k := by
  obtain ⟨hd, rfl⟩ := hd
  refine V_.go kk (fun h1 h2 _ => ⟨h1, List.forall_mem_cons.mpr ⟨trivial, fun v hv => h2 v (List.mem_cons_of_mem _ (List.mem_cons_of_mem _ hv))⟩⟩) ?_
  intro _ _ _ p e R s m args below meth c H locs cells slots Q la _ _ C hR hl2 K
  exact lv_lor C.1.1 C.1.2.1 hd (K la hl2)
theorem v_idiv {a b : Int} {f : Int → Option (α × mm_T)} (hd : vm_D y.2.1 pc 1 pc' .idiv) (kk : ∀ z : Int, V_ l w y fr ex pc' ls (xI z :: st) M (f z)) : V_ l w y fr ex pc ls (xI b :: xI a :: st) M (dv_ a b f) := by
  obtain ⟨hd, rfl⟩ := hd
  intro r M' hk
  unfold dv_ at hk
  split at hk
  case isFalse => cases hk
  case isTrue hb =>
    intro h1 h2 h3
    have hia : mm_in a := h2 (xI a) (List.mem_cons_of_mem _ List.mem_cons_self)
    have hib : mm_in b := h2 (xI b) List.mem_cons_self
    have hq : mm_in (a / b) := by
      have q1 := Int.ediv_nonneg hb.1 (Int.le_of_lt hb.2)
      have q2 := Int.ediv_le_self b hb.1
      unfold mm_in at *
      omega
    have e1 : Int32.ofInt a / Int32.ofInt b = Int32.ofInt (a / b) := by
      rw [← Int32.toInt_inj, Int32.toInt_div, mm_of hia, mm_of hib, mm_of hq, Int.tdiv_eq_ediv_of_nonneg hb.1]
      apply Int.bmod_eq_of_le
      · have := hq.1; omega
      · have := hq.2; omega
    have h0 : ¬ Int32.ofInt b = 0 := by
      intro h
      have h9 := (mm_eq hib mm_0).mp h
      omega
    refine V_.go (kk (a / b)) (fun h1 h2 _ => ⟨h1, List.forall_mem_cons.mpr ⟨hq, fun v hv => h2 v (List.mem_cons_of_mem _ (List.mem_cons_of_mem _ hv))⟩⟩) ?_ r M' hk h1 h2 h3
    intro _ _ _ p e R s m args below meth c H locs cells slots Q la _ _ C hR hl2 K
    have K2 := K la hl2
    refine lv_idiv C.1.1 C.1.2.1 hd h0 ?_
    rw [e1]
    exact K2
theorem v_irem {a b : Int} {f : Int → Option (α × mm_T)} (hd : vm_D y.2.1 pc 1 pc' .irem) (kk : ∀ z : Int, V_ l w y fr ex pc' ls (xI z :: st) M (f z)) : V_ l w y fr ex pc ls (xI b :: xI a :: st) M (rm_ a b f) := by
  obtain ⟨hd, rfl⟩ := hd
  intro r M' hk
  unfold rm_ at hk
  split at hk
  case isFalse => cases hk
  case isTrue hb =>
    intro h1 h2 h3
    have hia : mm_in a := h2 (xI a) (List.mem_cons_of_mem _ List.mem_cons_self)
    have hib : mm_in b := h2 (xI b) List.mem_cons_self
    have hq : mm_in (a / b) := by
      have q1 := Int.ediv_nonneg hb.1 (Int.le_of_lt hb.2)
      have q2 := Int.ediv_le_self b hb.1
      unfold mm_in at *
      omega
    have hm : mm_in (a % b) := by
      have q1 := Int.emod_nonneg a (show b ≠ 0 by omega)
      have q2 := Int.emod_lt_of_pos a hb.2
      unfold mm_in at *
      omega
    have e1 : Int32.ofInt a / Int32.ofInt b = Int32.ofInt (a / b) := by
      rw [← Int32.toInt_inj, Int32.toInt_div, mm_of hia, mm_of hib, mm_of hq, Int.tdiv_eq_ediv_of_nonneg hb.1]
      apply Int.bmod_eq_of_le
      · have := hq.1; omega
      · have := hq.2; omega
    have e2 : Int32.ofInt a - Int32.ofInt a / Int32.ofInt b * Int32.ofInt b = Int32.ofInt (a % b) := by
      rw [e1, mm_mul, mm_sub]
      congr 1
      have := Int.mul_ediv_add_emod a b
      have := Int.mul_comm b (a / b)
      omega
    have h0 : ¬ Int32.ofInt b = 0 := by
      intro h
      have h9 := (mm_eq hib mm_0).mp h
      omega
    refine V_.go (kk (a % b)) (fun h1 h2 _ => ⟨h1, List.forall_mem_cons.mpr ⟨hm, fun v hv => h2 v (List.mem_cons_of_mem _ (List.mem_cons_of_mem _ hv))⟩⟩) ?_ r M' hk h1 h2 h3
    intro _ _ _ p e R s m args below meth c H locs cells slots Q la _ _ C hR hl2 K
    have K2 := K la hl2
    refine lv_irem C.1.1 C.1.2.1 hd h0 ?_
    rw [e2]
    exact K2
-- branches
theorem v_goto (hd : ∃ off : Int, decode y.2.1 pc = .ok (.goto off, 3) ∧ (pc : Int) + off = (tgt : Int)) (kk : V_ l w y fr ex tgt ls st M k) : V_ l w y fr ex pc ls st M k := by
  obtain ⟨off, hd, ht⟩ := hd
  refine V_.go kk (fun h1 h2 _ => ⟨h1, h2⟩) ?_
  intro _ _ _ p e R s m args below meth c H locs cells slots Q la _ _ C hR hl2 K
  exact lv_goto C.1.1 C.1.2.1 hd ht (K la hl2)
theorem v_ifeq {x : Int} (hd : vm_B y.2.1 pc pc' tgt (fun o => .ifCond .eq o)) (kt : V_ l w y fr ex tgt ls st M k1) (kf : V_ l w y fr ex pc' ls st M k2) : V_ l w y fr ex pc ls (xI x :: st) M (if x = 0 then k1 else k2) := by
  obtain ⟨off, hd, rfl, ht⟩ := hd
  by_cases hc : x = 0
  · rw [if_pos hc]
    refine V_.go kt (fun h1 h2 _ => ⟨h1, fun v hv => h2 v (List.mem_cons_of_mem _ hv)⟩) ?_
    intro h1 h2 _ p e R s m args below meth c H locs cells slots Q la _ _ C hR hl2 K
    have hx : mm_in x := h2 (xI x) List.mem_cons_self
    exact lv_if_eq C.1.1 C.1.2.1 hd ht (fun _ => K la hl2) (fun h => absurd ((mm_eq hx mm_0).mpr hc) h)
  · rw [if_neg hc]
    refine V_.go kf (fun h1 h2 _ => ⟨h1, fun v hv => h2 v (List.mem_cons_of_mem _ hv)⟩) ?_
    intro h1 h2 _ p e R s m args below meth c H locs cells slots Q la _ _ C hR hl2 K
    have hx : mm_in x := h2 (xI x) List.mem_cons_self
    exact lv_if_eq C.1.1 C.1.2.1 hd ht (fun h => absurd ((mm_eq hx mm_0).mp h) hc) (fun _ => K la hl2)
theorem v_ifne {x : Int} (hd : vm_B y.2.1 pc pc' tgt (fun o => .ifCond .ne o)) (kt : V_ l w y fr ex tgt ls st M k1) (kf : V_ l w y fr ex pc' ls st M k2) : V_ l w y fr ex pc ls (xI x :: st) M (if ¬ x = 0 then k1 else k2) := by
  obtain ⟨off, hd, rfl, ht⟩ := hd
  by_cases hc : ¬ x = 0
  · rw [if_pos hc]
    refine V_.go kt (fun h1 h2 _ => ⟨h1, fun v hv => h2 v (List.mem_cons_of_mem _ hv)⟩) ?_
    intro h1 h2 _ p e R s m args below meth c H locs cells slots Q la _ _ C hR hl2 K
    have hx : mm_in x := h2 (xI x) List.mem_cons_self
    exact lv_if_ne C.1.1 C.1.2.1 hd ht (fun _ => K la hl2) (fun h => absurd h ((not_congr (mm_eq hx mm_0)).mpr hc))
  · rw [if_neg hc]
    refine V_.go kf (fun h1 h2 _ => ⟨h1, fun v hv => h2 v (List.mem_cons_of_mem _ hv)⟩) ?_
    intro h1 h2 _ p e R s m args below meth c H locs cells slots Q la _ _ C hR hl2 K
    have hx : mm_in x := h2 (xI x) List.mem_cons_self
    exact lv_if_ne C.1.1 C.1.2.1 hd ht (fun h => absurd ((not_congr (mm_eq hx mm_0)).mp h) hc) (fun _ => K la hl2)
theorem v_iflt {x : Int} (hd : vm_B y.2.1 pc pc' tgt (fun o => .ifCond .lt o)) (kt : V_ l w y fr ex tgt ls st M k1) (kf : V_ l w y fr ex pc' ls st M k2) : V_ l w y fr ex pc ls (xI x :: st) M (if x < 0 then k1 else k2) := by
  obtain ⟨off, hd, rfl, ht⟩ := hd
  by_cases hc : x < 0
  · rw [if_pos hc]
    refine V_.go kt (fun h1 h2 _ => ⟨h1, fun v hv => h2 v (List.mem_cons_of_mem _ hv)⟩) ?_
    intro h1 h2 _ p e R s m args below meth c H locs cells slots Q la _ _ C hR hl2 K
    have hx : mm_in x := h2 (xI x) List.mem_cons_self
    exact lv_if_lt C.1.1 C.1.2.1 hd ht (fun _ => K la hl2) (fun h => absurd ((mm_lt hx mm_0).mpr hc) h)
  · rw [if_neg hc]
    refine V_.go kf (fun h1 h2 _ => ⟨h1, fun v hv => h2 v (List.mem_cons_of_mem _ hv)⟩) ?_
    intro h1 h2 _ p e R s m args below meth c H locs cells slots Q la _ _ C hR hl2 K
    have hx : mm_in x := h2 (xI x) List.mem_cons_self
    exact lv_if_lt C.1.1 C.1.2.1 hd ht (fun h => absurd ((mm_lt hx mm_0).mp h) hc) (fun _ => K la hl2)
theorem v_ifge {x : Int} (hd : vm_B y.2.1 pc pc' tgt (fun o => .ifCond .ge o)) (kt : V_ l w y fr ex tgt ls st M k1) (kf : V_ l w y fr ex pc' ls st M k2) : V_ l w y fr ex pc ls (xI x :: st) M (if 0 ≤ x then k1 else k2) := by
  obtain ⟨off, hd, rfl, ht⟩ := hd
  by_cases hc : 0 ≤ x
  · rw [if_pos hc]
    refine V_.go kt (fun h1 h2 _ => ⟨h1, fun v hv => h2 v (List.mem_cons_of_mem _ hv)⟩) ?_
    intro h1 h2 _ p e R s m args below meth c H locs cells slots Q la _ _ C hR hl2 K
    have hx : mm_in x := h2 (xI x) List.mem_cons_self
    exact lv_if_ge C.1.1 C.1.2.1 hd ht (fun _ => K la hl2) (fun h => absurd ((mm_le mm_0 hx).mpr hc) h)
  · rw [if_neg hc]
    refine V_.go kf (fun h1 h2 _ => ⟨h1, fun v hv => h2 v (List.mem_cons_of_mem _ hv)⟩) ?_
    intro h1 h2 _ p e R s m args below meth c H locs cells slots Q la _ _ C hR hl2 K
    have hx : mm_in x := h2 (xI x) List.mem_cons_self
    exact lv_if_ge C.1.1 C.1.2.1 hd ht (fun h => absurd ((mm_le mm_0 hx).mp h) hc) (fun _ => K la hl2)
theorem v_ifgt {x : Int} (hd : vm_B y.2.1 pc pc' tgt (fun o => .ifCond .gt o)) (kt : V_ l w y fr ex tgt ls st M k1) (kf : V_ l w y fr ex pc' ls st M k2) : V_ l w y fr ex pc ls (xI x :: st) M (if 0 < x then k1 else k2) := by
  obtain ⟨off, hd, rfl, ht⟩ := hd
  by_cases hc : 0 < x
  · rw [if_pos hc]
    refine V_.go kt (fun h1 h2 _ => ⟨h1, fun v hv => h2 v (List.mem_cons_of_mem _ hv)⟩) ?_
    intro h1 h2 _ p e R s m args below meth c H locs cells slots Q la _ _ C hR hl2 K
    have hx : mm_in x := h2 (xI x) List.mem_cons_self
    exact lv_if_gt C.1.1 C.1.2.1 hd ht (fun _ => K la hl2) (fun h => absurd ((mm_lt mm_0 hx).mpr hc) h)
  · rw [if_neg hc]
    refine V_.go kf (fun h1 h2 _ => ⟨h1, fun v hv => h2 v (List.mem_cons_of_mem _ hv)⟩) ?_
    intro h1 h2 _ p e R s m args below meth c H locs cells slots Q la _ _ C hR hl2 K
    have hx : mm_in x := h2 (xI x) List.mem_cons_self
    exact lv_if_gt C.1.1 C.1.2.1 hd ht (fun h => absurd ((mm_lt mm_0 hx).mp h) hc) (fun _ => K la hl2)
theorem v_ifle {x : Int} (hd : vm_B y.2.1 pc pc' tgt (fun o => .ifCond .le o)) (kt : V_ l w y fr ex tgt ls st M k1) (kf : V_ l w y fr ex pc' ls st M k2) : V_ l w y fr ex pc ls (xI x :: st) M (if x ≤ 0 then k1 else k2) := by
  obtain ⟨off, hd, rfl, ht⟩ := hd
  by_cases hc : x ≤ 0
  · rw [if_pos hc]
    refine V_.go kt (fun h1 h2 _ => ⟨h1, fun v hv => h2 v (List.mem_cons_of_mem _ hv)⟩) ?_
    intro h1 h2 _ p e R s m args below meth c H locs cells slots Q la _ _ C hR hl2 K
    have hx : mm_in x := h2 (xI x) List.mem_cons_self
    exact lv_if_le C.1.1 C.1.2.1 hd ht (fun _ => K la hl2) (fun h => absurd ((mm_le hx mm_0).mpr hc) h)
  · rw [if_neg hc]
    refine V_.go kf (fun h1 h2 _ => ⟨h1, fun v hv => h2 v (List.mem_cons_of_mem _ hv)⟩) ?_
    intro h1 h2 _ p e R s m args below meth c H locs cells slots Q la _ _ C hR hl2 K
    have hx : mm_in x := h2 (xI x) List.mem_cons_self
    exact lv_if_le C.1.1 C.1.2.1 hd ht (fun h => absurd ((mm_le hx mm_0).mp h) hc) (fun _ => K la hl2)
theorem v_iceq {x z : Int} (hd : vm_B y.2.1 pc pc' tgt (fun o => .if_icmp .eq o)) (kt : V_ l w y fr ex tgt ls st M k1) (kf : V_ l w y fr ex pc' ls st M k2) : V_ l w y fr ex pc ls (xI z :: xI x :: st) M (if x = z then k1 else k2) := by
  obtain ⟨off, hd, rfl, ht⟩ := hd
  by_cases hc : x = z
  · rw [if_pos hc]
    refine V_.go kt (fun h1 h2 _ => ⟨h1, fun v hv => h2 v (List.mem_cons_of_mem _ (List.mem_cons_of_mem _ hv))⟩) ?_
    intro h1 h2 _ p e R s m args below meth c H locs cells slots Q la _ _ C hR hl2 K
    have hz : mm_in z := h2 (xI z) List.mem_cons_self
    have hx : mm_in x := h2 (xI x) (List.mem_cons_of_mem _ List.mem_cons_self)
    exact lv_icmp_eq C.1.1 C.1.2.1 hd ht (fun _ => K la hl2) (fun h => absurd ((mm_eq hx hz).mpr hc) h)
  · rw [if_neg hc]
    refine V_.go kf (fun h1 h2 _ => ⟨h1, fun v hv => h2 v (List.mem_cons_of_mem _ (List.mem_cons_of_mem _ hv))⟩) ?_
    intro h1 h2 _ p e R s m args below meth c H locs cells slots Q la _ _ C hR hl2 K
    have hz : mm_in z := h2 (xI z) List.mem_cons_self
    have hx : mm_in x := h2 (xI x) (List.mem_cons_of_mem _ List.mem_cons_self)
    exact lv_icmp_eq C.1.1 C.1.2.1 hd ht (fun h => absurd ((mm_eq hx hz).mp h) hc) (fun _ => K la hl2)
theorem v_icne {x z : Int} (hd : vm_B y.2.1 pc pc' tgt (fun o => .if_icmp .ne o)) (kt : V_ l w y fr ex tgt ls st M k1) (kf : V_ l w y fr ex pc' ls st M k2) : V_ l w y fr ex pc ls (xI z :: xI x :: st) M (if ¬ x = z then k1 else k2) := by
  obtain ⟨off, hd, rfl, ht⟩ := hd
  by_cases hc : ¬ x = z
  · rw [if_pos hc]
    refine V_.go kt (fun h1 h2 _ => ⟨h1, fun v hv => h2 v (List.mem_cons_of_mem _ (List.mem_cons_of_mem _ hv))⟩) ?_
    intro h1 h2 _ p e R s m args below meth c H locs cells slots Q la _ _ C hR hl2 K
    have hz : mm_in z := h2 (xI z) List.mem_cons_self
    have hx : mm_in x := h2 (xI x) (List.mem_cons_of_mem _ List.mem_cons_self)
    exact lv_icmp_ne C.1.1 C.1.2.1 hd ht (fun _ => K la hl2) (fun h => absurd h ((not_congr (mm_eq hx hz)).mpr hc))
  · rw [if_neg hc]
    refine V_.go kf (fun h1 h2 _ => ⟨h1, fun v hv => h2 v (List.mem_cons_of_mem _ (List.mem_cons_of_mem _ hv))⟩) ?_
    intro h1 h2 _ p e R s m args below meth c H locs cells slots Q la _ _ C hR hl2 K
    have hz : mm_in z := h2 (xI z) List.mem_cons_self
    have hx : mm_in x := h2 (xI x) (List.mem_cons_of_mem _ List.mem_cons_self)
    exact lv_icmp_ne C.1.1 C.1.2.1 hd ht (fun h => absurd ((not_congr (mm_eq hx hz)).mp h) hc) (fun _ => K la hl2)
theorem v_iclt {x z : Int} (hd : vm_B y.2.1 pc pc' tgt (fun o => .if_icmp .lt o)) (kt : V_ l w y fr ex tgt ls st M k1) (kf : V_ l w y fr ex pc' ls st M k2) : V_ l w y fr ex pc ls (xI z :: xI x :: st) M (if x < z then k1 else k2) := by
  obtain ⟨off, hd, rfl, ht⟩ := hd
  by_cases hc : x < z
  · rw [if_pos hc]
    refine V_.go kt (fun h1 h2 _ => ⟨h1, fun v hv => h2 v (List.mem_cons_of_mem _ (List.mem_cons_of_mem _ hv))⟩) ?_
    intro h1 h2 _ p e R s m args below meth c H locs cells slots Q la _ _ C hR hl2 K
    have hz : mm_in z := h2 (xI z) List.mem_cons_self
    have hx : mm_in x := h2 (xI x) (List.mem_cons_of_mem _ List.mem_cons_self)
    exact lv_icmp_lt C.1.1 C.1.2.1 hd ht (fun _ => K la hl2) (fun h => absurd ((mm_lt hx hz).mpr hc) h)
  · rw [if_neg hc]
    refine V_.go kf (fun h1 h2 _ => ⟨h1, fun v hv => h2 v (List.mem_cons_of_mem _ (List.mem_cons_of_mem _ hv))⟩) ?_
    intro h1 h2 _ p e R s m args below meth c H locs cells slots Q la _ _ C hR hl2 K
    have hz : mm_in z := h2 (xI z) List.mem_cons_self
    have hx : mm_in x := h2 (xI x) (List.mem_cons_of_mem _ List.mem_cons_self)
    exact lv_icmp_lt C.1.1 C.1.2.1 hd ht (fun h => absurd ((mm_lt hx hz).mp h) hc) (fun _ => K la hl2)
theorem v_icge {x z : Int} (hd : vm_B y.2.1 pc pc' tgt (fun o => .if_icmp .ge o)) (kt : V_ l w y fr ex tgt ls st M k1) (kf : V_ l w y fr ex pc' ls st M k2) : V_ l w y fr ex pc ls (xI z :: xI x :: st) M (if z ≤ x then k1 else k2) := by
  obtain ⟨off, hd, rfl, ht⟩ := hd
  by_cases hc : z ≤ x
  · rw [if_pos hc]
    refine V_.go kt (fun h1 h2 _ => ⟨h1, fun v hv => h2 v (List.mem_cons_of_mem _ (List.mem_cons_of_mem _ hv))⟩) ?_
    intro h1 h2 _ p e R s m args below meth c H locs cells slots Q la _ _ C hR hl2 K
    have hz : mm_in z := h2 (xI z) List.mem_cons_self
    have hx : mm_in x := h2 (xI x) (List.mem_cons_of_mem _ List.mem_cons_self)
    exact lv_icmp_ge C.1.1 C.1.2.1 hd ht (fun _ => K la hl2) (fun h => absurd ((mm_le hz hx).mpr hc) h)
  · rw [if_neg hc]
    refine V_.go kf (fun h1 h2 _ => ⟨h1, fun v hv => h2 v (List.mem_cons_of_mem _ (List.mem_cons_of_mem _ hv))⟩) ?_
    intro h1 h2 _ p e R s m args below meth c H locs cells slots Q la _ _ C hR hl2 K
    have hz : mm_in z := h2 (xI z) List.mem_cons_self
    have hx : mm_in x := h2 (xI x) (List.mem_cons_of_mem _ List.mem_cons_self)
    exact lv_icmp_ge C.1.1 C.1.2.1 hd ht (fun h => absurd ((mm_le hz hx).mp h) hc) (fun _ => K la hl2)
theorem v_icgt {x z : Int} (hd : vm_B y.2.1 pc pc' tgt (fun o => .if_icmp .gt o)) (kt : V_ l w y fr ex tgt ls st M k1) (kf : V_ l w y fr ex pc' ls st M k2) : V_ l w y fr ex pc ls (xI z :: xI x :: st) M (if z < x then k1 else k2) := by
  obtain ⟨off, hd, rfl, ht⟩ := hd
  by_cases hc : z < x
  · rw [if_pos hc]
    refine V_.go kt (fun h1 h2 _ => ⟨h1, fun v hv => h2 v (List.mem_cons_of_mem _ (List.mem_cons_of_mem _ hv))⟩) ?_
    intro h1 h2 _ p e R s m args below meth c H locs cells slots Q la _ _ C hR hl2 K
    have hz : mm_in z := h2 (xI z) List.mem_cons_self
    have hx : mm_in x := h2 (xI x) (List.mem_cons_of_mem _ List.mem_cons_self)
    exact lv_icmp_gt C.1.1 C.1.2.1 hd ht (fun _ => K la hl2) (fun h => absurd ((mm_lt hz hx).mpr hc) h)
  · rw [if_neg hc]
    refine V_.go kf (fun h1 h2 _ => ⟨h1, fun v hv => h2 v (List.mem_cons_of_mem _ (List.mem_cons_of_mem _ hv))⟩) ?_
    intro h1 h2 _ p e R s m args below meth c H locs cells slots Q la _ _ C hR hl2 K
    have hz : mm_in z := h2 (xI z) List.mem_cons_self
    have hx : mm_in x := h2 (xI x) (List.mem_cons_of_mem _ List.mem_cons_self)
    exact lv_icmp_gt C.1.1 C.1.2.1 hd ht (fun h => absurd ((mm_lt hz hx).mp h) hc) (fun _ => K la hl2)
theorem v_icle {x z : Int} (hd : vm_B y.2.1 pc pc' tgt (fun o => .if_icmp .le o)) (kt : V_ l w y fr ex tgt ls st M k1) (kf : V_ l w y fr ex pc' ls st M k2) : V_ l w y fr ex pc ls (xI z :: xI x :: st) M (if x ≤ z then k1 else k2) := by
  obtain ⟨off, hd, rfl, ht⟩ := hd
  by_cases hc : x ≤ z
  · rw [if_pos hc]
    refine V_.go kt (fun h1 h2 _ => ⟨h1, fun v hv => h2 v (List.mem_cons_of_mem _ (List.mem_cons_of_mem _ hv))⟩) ?_
    intro h1 h2 _ p e R s m args below meth c H locs cells slots Q la _ _ C hR hl2 K
    have hz : mm_in z := h2 (xI z) List.mem_cons_self
    have hx : mm_in x := h2 (xI x) (List.mem_cons_of_mem _ List.mem_cons_self)
    exact lv_icmp_le C.1.1 C.1.2.1 hd ht (fun _ => K la hl2) (fun h => absurd ((mm_le hx hz).mpr hc) h)
  · rw [if_neg hc]
    refine V_.go kf (fun h1 h2 _ => ⟨h1, fun v hv => h2 v (List.mem_cons_of_mem _ (List.mem_cons_of_mem _ hv))⟩) ?_
    intro h1 h2 _ p e R s m args below meth c H locs cells slots Q la _ _ C hR hl2 K
    have hz : mm_in z := h2 (xI z) List.mem_cons_self
    have hx : mm_in x := h2 (xI x) (List.mem_cons_of_mem _ List.mem_cons_self)
    exact lv_icmp_le C.1.1 C.1.2.1 hd ht (fun h => absurd ((mm_le hx hz).mp h) hc) (fun _ => K la hl2)
theorem v_ifnull {x : Nat} (hd : vm_B y.2.1 pc pc' tgt (fun o => .ifnull o)) (kt : V_ l w y fr ex tgt ls st M k1) (kf : V_ l w y fr ex pc' ls st M k2) : V_ l w y fr ex pc ls (xA x :: st) M (nn_ x k1 k2) := by
  obtain ⟨off, hd, rfl, ht⟩ := hd
  unfold nn_
  by_cases hc : x = 0
  · rw [if_pos hc]
    refine V_.go kt (fun h1 h2 _ => ⟨h1, fun v hv => h2 v (List.mem_cons_of_mem _ hv)⟩) ?_
    intro h1 h2 _ p e R s m args below meth c H locs cells slots Q la _ _ C hR hl2 K
    have e0 : vm_v w (xA x) = .null := if_pos hc
    rw [List.map_cons, e0]
    exact lv_ifnullN C.1.1 C.1.2.1 hd ht (K la hl2)
  · rw [if_neg hc]
    refine V_.go kf (fun h1 h2 _ => ⟨h1, fun v hv => h2 v (List.mem_cons_of_mem _ hv)⟩) ?_
    intro h1 h2 _ p e R s m args below meth c H locs cells slots Q la _ _ C hR hl2 K
    have e0 : vm_v w (xA x) = .ref (vm_ad w x) := if_neg hc
    rw [List.map_cons, e0]
    exact lv_ifnull C.1.1 C.1.2.1 hd (K la hl2)
theorem v_ifnonnull {x : Nat} (hd : vm_B y.2.1 pc pc' tgt (fun o => .ifnonnull o)) (kt : V_ l w y fr ex tgt ls st M k1) (kf : V_ l w y fr ex pc' ls st M k2) : V_ l w y fr ex pc ls (xA x :: st) M (nn_ x k2 k1) := by
  obtain ⟨off, hd, rfl, ht⟩ := hd
  unfold nn_
  by_cases hc : x = 0
  · rw [if_pos hc]
    refine V_.go kf (fun h1 h2 _ => ⟨h1, fun v hv => h2 v (List.mem_cons_of_mem _ hv)⟩) ?_
    intro h1 h2 _ p e R s m args below meth c H locs cells slots Q la _ _ C hR hl2 K
    have e0 : vm_v w (xA x) = .null := if_pos hc
    rw [List.map_cons, e0]
    exact lv_ifnonnullN C.1.1 C.1.2.1 hd (K la hl2)
  · rw [if_neg hc]
    refine V_.go kt (fun h1 h2 _ => ⟨h1, fun v hv => h2 v (List.mem_cons_of_mem _ hv)⟩) ?_
    intro h1 h2 _ p e R s m args below meth c H locs cells slots Q la _ _ C hR hl2 K
    have e0 : vm_v w (xA x) = .ref (vm_ad w x) := if_neg hc
    rw [List.map_cons, e0]
    exact lv_ifnonnull C.1.1 C.1.2.1 hd ht (K la hl2)
theorem v_dup {X : vm_X} (hd : vm_D y.2.1 pc 1 pc' .dup) (hX : vm_ct X = 1) (kk : V_ l w y fr ex pc' ls (X :: X :: st) M k) : V_ l w y fr ex pc ls (X :: st) M k := by
  obtain ⟨hd, rfl⟩ := hd
  refine V_.go kk (fun h1 h2 _ => ⟨h1, List.forall_mem_cons.mpr ⟨h2 _ List.mem_cons_self, h2⟩⟩) ?_
  intro _ _ _ p e R s m args below meth c H locs cells slots Q la _ _ C hR hl2 K
  exact lv_dup C.1.1 C.1.2.1 hd (by rw [vm_ct_v]; exact hX) (K la hl2)
theorem v_dup2 {X Y : vm_X} (hd : vm_D y.2.1 pc 1 pc' .dup2) (hX : vm_ct X = 1) (hY : vm_ct Y = 1) (kk : V_ l w y fr ex pc' ls (X :: Y :: X :: Y :: st) M k) : V_ l w y fr ex pc ls (X :: Y :: st) M k := by
  obtain ⟨hd, rfl⟩ := hd
  refine V_.go kk (fun h1 h2 _ => ⟨h1, List.forall_mem_cons.mpr ⟨h2 _ List.mem_cons_self, List.forall_mem_cons.mpr ⟨h2 _ (List.mem_cons_of_mem _ List.mem_cons_self), h2⟩⟩⟩) ?_
  intro _ _ _ p e R s m args below meth c H locs cells slots Q la _ _ C hR hl2 K
  exact lv_dup2_11 C.1.1 C.1.2.1 hd (by rw [vm_ct_v]; exact hX) (by rw [vm_ct_v]; exact hY) (K la hl2)
theorem v_pop {X : vm_X} (hd : vm_D y.2.1 pc 1 pc' .pop) (hX : vm_ct X = 1) (kk : V_ l w y fr ex pc' ls st M k) : V_ l w y fr ex pc ls (X :: st) M k := by
  obtain ⟨hd, rfl⟩ := hd
  refine V_.go kk (fun h1 h2 _ => ⟨h1, fun v hv => h2 v (List.mem_cons_of_mem _ hv)⟩) ?_
  intro _ _ _ p e R s m args below meth c H locs cells slots Q la _ _ C hR hl2 K
  exact lv_pop C.1.1 C.1.2.1 hd (by rw [vm_ct_v]; exact hX) (K la hl2)
theorem v_sw {x lo : Int} {n : Nat} {d : Option (α × mm_T)} {g : Nat → Option (α × mm_T)} {dflt hi : Int} {offs : Array Int} {len dt : Nat} {tg : Nat → Nat} (hd : decode y.2.1 pc = .ok (.tableswitch dflt lo hi offs, len)) (hh : hi + 1 = lo + n) (hdt : (pc : Int) + dflt = (dt : Int))
    (ho : ∀ i, i < n → ∃ off : Int, offs[i]? = some off ∧ (pc : Int) + off = (tg i : Int)) (kk : ∀ i, i < n → V_ l w y fr ex (tg i) ls st M (g i)) (kd : V_ l w y fr ex dt ls st M d) : V_ l w y fr ex pc ls (xI x :: st) M (sw_ x lo n d g) := by
  unfold sw_
  by_cases hc : lo ≤ x ∧ x < lo + n
  · rw [if_pos hc]
    have hi' : (x - lo).toNat < n := by omega
    obtain ⟨off, h1, h2⟩ := ho _ hi'
    refine V_.go (kk _ hi') (fun h1 h2 _ => ⟨h1, fun v hv => h2 v (List.mem_cons_of_mem _ hv)⟩) ?_
    intro _ h9 _ p e R s m args below meth c H locs cells slots Q la _ _ C hR hl2 K
    have hx : mm_in x := h9 (xI x) List.mem_cons_self
    exact lv_tableIn C.1.1 C.1.2.1 hd (by rw [mm_of hx]; omega) (by rw [mm_of hx]; omega) (by rw [mm_of hx]; exact h1) h2 (K la hl2)
  · rw [if_neg hc]
    refine V_.go kd (fun h1 h2 _ => ⟨h1, fun v hv => h2 v (List.mem_cons_of_mem _ hv)⟩) ?_
    intro _ h9 _ p e R s m args below meth c H locs cells slots Q la _ _ C hR hl2 K
    have hx : mm_in x := h9 (xI x) List.mem_cons_self
    exact lv_tableOut C.1.1 C.1.2.1 hd (by rw [mm_of hx]; omega) hdt (K la hl2)
/-! places where ways meet -/
theorem v_join0  {pj : Nat} {lj : List (Nat × vm_X)} {sj : List vm_X} {b : mm_T → Option (α × mm_T)} {u : (mm_T → Option (α × mm_T)) → Option (α × mm_T)} (hb : ∀  (M : mm_T), V_ l w y fr ex pj (lj ) (sj ) M (b  M)) (hu : ∀ jj : mm_T → Option (α × mm_T), (∀  (M : mm_T), V_ l w y fr ex pj (lj ) (sj ) M (jj  M)) → V_ l w y fr ex pc ls st M (u jj)) : V_ l w y fr ex pc ls st M (jn_ b u) := hu b hb
theorem v_join1 {g0 : Type} {pj : Nat} {lj : g0 → List (Nat × vm_X)} {sj : g0 → List vm_X} {b : g0 → mm_T → Option (α × mm_T)} {u : (g0 → mm_T → Option (α × mm_T)) → Option (α × mm_T)} (hb : ∀ (x0 : g0) (M : mm_T), V_ l w y fr ex pj (lj x0) (sj x0) M (b x0 M)) (hu : ∀ jj : g0 → mm_T → Option (α × mm_T), (∀ (x0 : g0) (M : mm_T), V_ l w y fr ex pj (lj x0) (sj x0) M (jj x0 M)) → V_ l w y fr ex pc ls st M (u jj)) : V_ l w y fr ex pc ls st M (jn_ b u) := hu b hb
theorem v_join2 {g0 : Type} {g1 : Type} {pj : Nat} {lj : g0 → g1 → List (Nat × vm_X)} {sj : g0 → g1 → List vm_X} {b : g0 → g1 → mm_T → Option (α × mm_T)} {u : (g0 → g1 → mm_T → Option (α × mm_T)) → Option (α × mm_T)} (hb : ∀ (x0 : g0) (x1 : g1) (M : mm_T), V_ l w y fr ex pj (lj x0 x1) (sj x0 x1) M (b x0 x1 M)) (hu : ∀ jj : g0 → g1 → mm_T → Option (α × mm_T), (∀ (x0 : g0) (x1 : g1) (M : mm_T), V_ l w y fr ex pj (lj x0 x1) (sj x0 x1) M (jj x0 x1 M)) → V_ l w y fr ex pc ls st M (u jj)) : V_ l w y fr ex pc ls st M (jn_ b u) := hu b hb
theorem v_join3 {g0 : Type} {g1 : Type} {g2 : Type} {pj : Nat} {lj : g0 → g1 → g2 → List (Nat × vm_X)} {sj : g0 → g1 → g2 → List vm_X} {b : g0 → g1 → g2 → mm_T → Option (α × mm_T)} {u : (g0 → g1 → g2 → mm_T → Option (α × mm_T)) → Option (α × mm_T)} (hb : ∀ (x0 : g0) (x1 : g1) (x2 : g2) (M : mm_T), V_ l w y fr ex pj (lj x0 x1 x2) (sj x0 x1 x2) M (b x0 x1 x2 M)) (hu : ∀ jj : g0 → g1 → g2 → mm_T → Option (α × mm_T), (∀ (x0 : g0) (x1 : g1) (x2 : g2) (M : mm_T), V_ l w y fr ex pj (lj x0 x1 x2) (sj x0 x1 x2) M (jj x0 x1 x2 M)) → V_ l w y fr ex pc ls st M (u jj)) : V_ l w y fr ex pc ls st M (jn_ b u) := hu b hb
theorem v_join4 {g0 : Type} {g1 : Type} {g2 : Type} {g3 : Type} {pj : Nat} {lj : g0 → g1 → g2 → g3 → List (Nat × vm_X)} {sj : g0 → g1 → g2 → g3 → List vm_X} {b : g0 → g1 → g2 → g3 → mm_T → Option (α × mm_T)} {u : (g0 → g1 → g2 → g3 → mm_T → Option (α × mm_T)) → Option (α × mm_T)} (hb : ∀ (x0 : g0) (x1 : g1) (x2 : g2) (x3 : g3) (M : mm_T), V_ l w y fr ex pj (lj x0 x1 x2 x3) (sj x0 x1 x2 x3) M (b x0 x1 x2 x3 M)) (hu : ∀ jj : g0 → g1 → g2 → g3 → mm_T → Option (α × mm_T), (∀ (x0 : g0) (x1 : g1) (x2 : g2) (x3 : g3) (M : mm_T), V_ l w y fr ex pj (lj x0 x1 x2 x3) (sj x0 x1 x2 x3) M (jj x0 x1 x2 x3 M)) → V_ l w y fr ex pc ls st M (u jj)) : V_ l w y fr ex pc ls st M (jn_ b u) := hu b hb
theorem v_join5 {g0 : Type} {g1 : Type} {g2 : Type} {g3 : Type} {g4 : Type} {pj : Nat} {lj : g0 → g1 → g2 → g3 → g4 → List (Nat × vm_X)} {sj : g0 → g1 → g2 → g3 → g4 → List vm_X} {b : g0 → g1 → g2 → g3 → g4 → mm_T → Option (α × mm_T)} {u : (g0 → g1 → g2 → g3 → g4 → mm_T → Option (α × mm_T)) → Option (α × mm_T)} (hb : ∀ (x0 : g0) (x1 : g1) (x2 : g2) (x3 : g3) (x4 : g4) (M : mm_T), V_ l w y fr ex pj (lj x0 x1 x2 x3 x4) (sj x0 x1 x2 x3 x4) M (b x0 x1 x2 x3 x4 M)) (hu : ∀ jj : g0 → g1 → g2 → g3 → g4 → mm_T → Option (α × mm_T), (∀ (x0 : g0) (x1 : g1) (x2 : g2) (x3 : g3) (x4 : g4) (M : mm_T), V_ l w y fr ex pj (lj x0 x1 x2 x3 x4) (sj x0 x1 x2 x3 x4) M (jj x0 x1 x2 x3 x4 M)) → V_ l w y fr ex pc ls st M (u jj)) : V_ l w y fr ex pc ls st M (jn_ b u) := hu b hb
theorem v_join6 {g0 : Type} {g1 : Type} {g2 : Type} {g3 : Type} {g4 : Type} {g5 : Type} {pj : Nat} {lj : g0 → g1 → g2 → g3 → g4 → g5 → List (Nat × vm_X)} {sj : g0 → g1 → g2 → g3 → g4 → g5 → List vm_X} {b : g0 → g1 → g2 → g3 → g4 → g5 → mm_T → Option (α × mm_T)} {u : (g0 → g1 → g2 → g3 → g4 → g5 → mm_T → Option (α × mm_T)) → Option (α × mm_T)} (hb : ∀ (x0 : g0) (x1 : g1) (x2 : g2) (x3 : g3) (x4 : g4) (x5 : g5) (M : mm_T), V_ l w y fr ex pj (lj x0 x1 x2 x3 x4 x5) (sj x0 x1 x2 x3 x4 x5) M (b x0 x1 x2 x3 x4 x5 M)) (hu : ∀ jj : g0 → g1 → g2 → g3 → g4 → g5 → mm_T → Option (α × mm_T), (∀ (x0 : g0) (x1 : g1) (x2 : g2) (x3 : g3) (x4 : g4) (x5 : g5) (M : mm_T), V_ l w y fr ex pj (lj x0 x1 x2 x3 x4 x5) (sj x0 x1 x2 x3 x4 x5) M (jj x0 x1 x2 x3 x4 x5 M)) → V_ l w y fr ex pc ls st M (u jj)) : V_ l w y fr ex pc ls st M (jn_ b u) := hu b hb
theorem v_join7 {g0 : Type} {g1 : Type} {g2 : Type} {g3 : Type} {g4 : Type} {g5 : Type} {g6 : Type} {pj : Nat} {lj : g0 → g1 → g2 → g3 → g4 → g5 → g6 → List (Nat × vm_X)} {sj : g0 → g1 → g2 → g3 → g4 → g5 → g6 → List vm_X} {b : g0 → g1 → g2 → g3 → g4 → g5 → g6 → mm_T → Option (α × mm_T)} {u : (g0 → g1 → g2 → g3 → g4 → g5 → g6 → mm_T → Option (α × mm_T)) → Option (α × mm_T)} (hb : ∀ (x0 : g0) (x1 : g1) (x2 : g2) (x3 : g3) (x4 : g4) (x5 : g5) (x6 : g6) (M : mm_T), V_ l w y fr ex pj (lj x0 x1 x2 x3 x4 x5 x6) (sj x0 x1 x2 x3 x4 x5 x6) M (b x0 x1 x2 x3 x4 x5 x6 M)) (hu : ∀ jj : g0 → g1 → g2 → g3 → g4 → g5 → g6 → mm_T → Option (α × mm_T), (∀ (x0 : g0) (x1 : g1) (x2 : g2) (x3 : g3) (x4 : g4) (x5 : g5) (x6 : g6) (M : mm_T), V_ l w y fr ex pj (lj x0 x1 x2 x3 x4 x5 x6) (sj x0 x1 x2 x3 x4 x5 x6) M (jj x0 x1 x2 x3 x4 x5 x6 M)) → V_ l w y fr ex pc ls st M (u jj)) : V_ l w y fr ex pc ls st M (jn_ b u) := hu b hb
theorem v_join8 {g0 : Type} {g1 : Type} {g2 : Type} {g3 : Type} {g4 : Type} {g5 : Type} {g6 : Type} {g7 : Type} {pj : Nat} {lj : g0 → g1 → g2 → g3 → g4 → g5 → g6 → g7 → List (Nat × vm_X)} {sj : g0 → g1 → g2 → g3 → g4 → g5 → g6 → g7 → List vm_X} {b : g0 → g1 → g2 → g3 → g4 → g5 → g6 → g7 → mm_T → Option (α × mm_T)} {u : (g0 → g1 → g2 → g3 → g4 → g5 → g6 → g7 → mm_T → Option (α × mm_T)) → Option (α × mm_T)} (hb : ∀ (x0 : g0) (x1 : g1) (x2 : g2) (x3 : g3) (x4 : g4) (x5 : g5) (x6 : g6) (x7 : g7) (M : mm_T), V_ l w y fr ex pj (lj x0 x1 x2 x3 x4 x5 x6 x7) (sj x0 x1 x2 x3 x4 x5 x6 x7) M (b x0 x1 x2 x3 x4 x5 x6 x7 M)) (hu : ∀ jj : g0 → g1 → g2 → g3 → g4 → g5 → g6 → g7 → mm_T → Option (α × mm_T), (∀ (x0 : g0) (x1 : g1) (x2 : g2) (x3 : g3) (x4 : g4) (x5 : g5) (x6 : g6) (x7 : g7) (M : mm_T), V_ l w y fr ex pj (lj x0 x1 x2 x3 x4 x5 x6 x7) (sj x0 x1 x2 x3 x4 x5 x6 x7) M (jj x0 x1 x2 x3 x4 x5 x6 x7 M)) → V_ l w y fr ex pc ls st M (u jj)) : V_ l w y fr ex pc ls st M (jn_ b u) := hu b hb
end ROWS
