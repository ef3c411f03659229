def vm_A (w : vm_W) : Nat → Prop := fun q => vm_base w ≤ q
def vm_Pc (w : vm_W) (as : List vm_X) (M : mm_T) : Array Value → State → Prop := fun v U => v = (as.map (vm_v w)).toArray ∧ vm_K w U ∧ vm_R w M U.heap
def vm_Q (w : vm_W) (M' : mm_T) : vm_O → Array Value → State → Outcome → State → Prop
  | .inr none => va_Qv (fun _ : Unit => True) (fun _ t => vm_R w M' t.heap) (vm_A w)
  | .inr (some (_, .inl x)) => va_Qi (fun (r : Int32) (_ : Unit) => r = Int32.ofInt x) (fun _ t => vm_R w M' t.heap) (vm_A w)
  | .inr (some (_, .inr (.inl x))) => va_Ql (fun (r : Int64) (_ : Unit) => r = x) (fun _ t => vm_R w M' t.heap) (vm_A w)
  | .inr (some (_, .inr (.inr k))) => va_Qq (fun (r : Option Nat) (_ : Unit) => r = vm_ro w k) (fun _ t => vm_R w M' t.heap) (vm_A w)
  | .inl _ => fun _ _ _ _ => False
def vm_XB (w : vm_W) (M' : mm_T) (o : vm_O) : String → Unit → State → Prop := fun E _ t => (∃ E0, o = .inl E0 ∧ E = ex_n E0) ∧ vm_R w M' t.heap
def vm_XC (w : vm_W) (M' : mm_T) (o : vm_O) : String → State → State → Prop := vx_X (fun _ : Unit => True) (vm_XB w M' o) (vm_A w)
abbrev vm_rm (fr : Nat) (M M' : mm_T) : Room := { frames := fr, cells := mm_ce M' - mm_ce M, slots := mm_se M' - mm_se M, locals := 64 * fr }
/-- A METHOD's contract: the small program k tells its answer and the memory behind it -/
def vm_Con (l : Launch) (yn : MethodName) (cd : Cond) (fr : Nat) {γ : Type} (ex : γ → vm_O) (as : List vm_X) (M : mm_T) (k : Option (γ × mm_T)) : Prop :=
  ∀ (w : vm_W) (r : γ) (M' : mm_T), k = some (r, M') → (∀ v ∈ as, vm_okv v) → mm_ok M → (mm_ce M ≤ mm_ce M' ∧ mm_se M ≤ mm_se M' ∧ vm_oko (ex r) ∧ mm_ok M') ∧
    Met l yn (cd :: gw_G) (vm_rm fr M M') (vm_Pc w as M) (vm_Q w M' (ex r)) (mm_ce M' - mm_ce M) (mm_se M' - mm_se M) (vm_A w)
/-- .. of one that may throw -/
def vm_ConX (l : Launch) (yn : MethodName) (cd : Cond) (fr : Nat) {γ : Type} (ex : γ → vm_O) (as : List vm_X) (M : mm_T) (k : Option (γ × mm_T)) : Prop :=
  ∀ (w : vm_W) (r : γ) (M' : mm_T), k = some (r, M') → (∀ v ∈ as, vm_okv v) → mm_ok M → (mm_ce M ≤ mm_ce M' ∧ mm_se M ≤ mm_se M' ∧ vm_oko (ex r) ∧ mm_ok M') ∧
    vx_Met l yn (cd :: gw_G) (vm_rm fr M M') (vm_Pc w as M) (vm_Q w M' (ex r)) (vm_XC w M' (ex r)) (mm_ce M' - mm_ce M) (mm_se M' - mm_se M) (vm_A w)
/-- a method's return type fits an end -/
def vm_rt (ret : Option FieldType) : vm_O → Prop
  | .inr none => ret = none
  | .inr (some (b, .inl _)) => ret = some (if b = true then .boolean else .int)
  | .inr (some (_, .inr (.inl _))) => ret = some .long
  | .inr (some (_, .inr (.inr _))) => ∃ n, ret = some (.object n)
  | .inl _ => True
theorem vm_Pc_blind {w : vm_W} {as : List vm_X} {M : mm_T} : FrameBlind (vm_Pc w as M) := by
  intro a U g mk h
  exact ⟨h.1, vm_K.moved (State.WarmedH.refl U) h.2.1.2.2.2.2.2.1.1 h.2.1.2.2.2.2.2.1.2 h.2.1, h.2.2⟩
section MET
variable {α γ : Type} {l : Launch} {w : vm_W} {y : vm_Y} {fr fr' : Nat} {ex : α → vm_O} {ex' : γ → vm_O} {pc pc' tgt : Nat} {ls ls' : List (Nat × vm_X)} {st st' : List vm_X} {M M1 : mm_T} {k k1 k2 : Option (α × mm_T)}
/-- what a walk owes at its end, out of the contract's words -/
theorem vm_end {p : Program} {e : Env} {R : Room} {s : State} {m : MethodId} {args : Array Value} {below : List Frame} {meth : Method} {c : Code} {mc ms : Nat} {M' : mm_T} {o : vm_O} (hx : p.tables.exec = Jvm.exec) (hb : c.code = y.2.1) (hlk : meth.locks = false) (hr : vm_rt meth.sig.returnType o) (hok : vm_oko o) (hK : vm_base w ≤ s.heap.size ∧ ∀ q, q < vm_base w → s.heap[q]? = (vm_H0 w)[q]?) (hne : ∀ E, o ≠ .inl E) :
    vm_Z w y p l e R s m args below meth c mc ms (MQ below (vm_Q w M' o) args s mc ms (vm_A w)) M' o := by
  have frm : ∀ (H : Heap) (t : State), vm_R w M' H → s.heap.size ≤ H.size → t.heap = H → va_F (vm_A w) s t := fun H t hR hs ht => ⟨by rw [ht]; exact hs, fun q h1 h2 => by
    have h3 : q < vm_base w := Nat.lt_of_not_le h2
    rw [ht, hR.2.1 q h3, hK.2 q h3]⟩
  rcases o with E | _ | ⟨b, x | x | k⟩
  · exact absurd rfl (hne E)
  · intro H locs pc la hR hs hl hd
    exact W.vret hx hb hr (fun t ht _ => ⟨⟨(), rfl, trivial, by show vm_R w M' t.heap; rw [ht]; exact hR⟩, frm H t hR hs ht⟩) hl hd hlk
  · intro H locs pc la hR hs hl hd
    have hn : narrow (if b = true then .boolean else .int) (.int (Int32.ofInt x)) = .int (Int32.ofInt x) := by
      cases b with
      | false => rfl
      | true =>
        rcases hok.2 rfl with h | h
        · rw [show x = 0 from Sum.inl.inj h]; rfl
        · rw [show x = 1 from Sum.inl.inj h]; rfl
    exact W.zret hx hb hr hn (fun t ht _ => ⟨⟨_, (), rfl, rfl, by show vm_R w M' t.heap; rw [ht]; exact hR⟩, frm H t hR hs ht⟩) hl hd hlk
  · intro H locs pc la hR hs hl hd
    exact W.lret hx hb hr (fun t ht _ => ⟨⟨_, (), rfl, rfl, by show vm_R w M' t.heap; rw [ht]; exact hR⟩, frm H t hR hs ht⟩) hl hd hlk
  · intro H locs pc la hR hs hl hd
    obtain ⟨n, hr⟩ := hr
    have hv : vm_v w (xA k) = va_rf (vm_ro w k) := by
      show vm_rv w k = _
      unfold vm_rv vm_ro
      split <;> rfl
    refine W.aret (v := vm_v w (xA k)) hx hb hr (Or.inl ⟨n, rfl⟩) ?_ (fun t ht _ => ⟨⟨vm_ro w k, (), by rw [hv], rfl, by show vm_R w M' t.heap; rw [ht]; exact hR⟩, frm H t hR hs ht⟩) hl hd hlk
    show vm_rv w k = .null ∨ ∃ a, vm_rv w k = .ref a
    unfold vm_rv
    split
    · exact Or.inl rfl
    · exact Or.inr ⟨_, rfl⟩
/-- the locals at the entry: the arguments, from place 0 on -/
def vm_la : Nat → List vm_X → List (Nat × vm_X)
  | _, [] => []
  | i, v :: r => (i, v) :: vm_la (if vm_ct v = 2 then i + 2 else i + 1) r
theorem vm_la_map (w : vm_W) : ∀ (as : List vm_X) (i : Nat), (vm_la i as).map (fun q => (q.1, vm_v w q.2)) = lv_args i (as.map (vm_v w))
  | [], i => by simp [vm_la, lv_args]
  | v :: r, i => by
    rw [vm_la, List.map_cons, vm_la_map w r, List.map_cons, lv_args, vm_ct_v]
theorem vm_okla : ∀ (as : List vm_X) (i : Nat), (∀ v ∈ as, vm_okv v) → ∀ q ∈ vm_la i as, vm_okv q.2
  | [], i, h, q, hq => by cases hq
  | v :: r, i, h, q, hq => by
    rcases List.mem_cons.mp hq with e | e
    · subst e; exact h v List.mem_cons_self
    · exact vm_okla r _ (fun v hv => h v (List.mem_cons_of_mem _ hv)) q e
theorem vm_notab {p : Program} {yn : MethodName} {S : Spec} {cc bytes : ByteArray} {maxL maxL' : Nat} {ret ret' : Option FieldType} {e : Env} {s s₁ : State} {m : MethodId} {args : Array Value} {below : List Frame} {meth : Method} {c : Code} (B : BodyLoose p l yn S cc maxL ret e s m args below meth c s₁) (h : (Cond.code yn bytes maxL' ret').before args s = true) : c.exceptionTable.toList = tableOf [] := by
  obtain ⟨meth', c', hm', hc', -, -, -, -, hempty, -⟩ := Cond.code_spec B.named h
  cases Option.some.inj (hm'.symm.trans B.method)
  cases Option.some.inj (hc'.symm.trans (Stand.of_body B).code)
  have h0 : c.exceptionTable.size = 0 := by simpa [Array.isEmpty] using hempty
  exact List.eq_nil_of_length_eq_zero (by simpa using h0)
theorem vm_len (w : vm_W) : ∀ bs : List vm_X, (lg_sl (bs.map (vm_v w))).length = (bs.map vm_ct).sum := by
  intro bs
  induction bs with
  | nil => rfl
  | cons X bs ih =>
    have h9 : lg_sl ((X :: bs).map (vm_v w)) = lg_sl [vm_v w X] ++ lg_sl (bs.map (vm_v w)) := by simp [lg_sl]
    rw [h9, List.length_append, ih, List.map_cons, List.sum_cons]
    congr 1
    rcases X with x | x | k
    · rfl
    · rfl
    · show (lg_sl [vm_rv w k]).length = 1
      unfold vm_rv
      split <;> rfl
/-- from the walk of a body to the method's contract -/
theorem vm_con {yn : MethodName} {as : List vm_X} {kc : Option (γ × mm_T)} {ret : Option FieldType} (hfl : l.stackTraces = false) (hy : plainName yn.cls = true) (hown : yn.cls = y.1) (hini : y.2.2.2.1 = true → yn.name = "<init>") (hsz : (as.map vm_ct).sum ≤ y.2.2.1) (hy2 : y.2.2.2.2 = []) (hret : ∀ r M', kc = some (r, M') → vm_rt ret (ex' r)) (hne : ∀ r E, ex' r ≠ .inl E)
    (hV : ∀ w : vm_W, V_ l w y fr ex' 0 (vm_la 0 as) [] M kc) : vm_Con l yn (.code yn y.2.1 y.2.2.1 ret) fr ex' as M kc := by
  intro w r M' hk h1 h2
  obtain ⟨a, b⟩ := hV w r M' hk (vm_okla as 0 h1) (fun v hv => by cases hv) h2
  refine ⟨a, ?_⟩
  refine Met.ofW (cc := y.2.1) (maxL := y.2.2.1) (ret := ret) hy rfl ?_
  intro p e s m args below meth c s₁ B hml hP
  obtain ⟨rfl, hK, hR⟩ := hP
  rw [lg_entry_eq]
  have hts := atoms_spec B.pre
  have htab := vm_notab B (hts _ List.mem_cons_self)
  have hlen : (lg_sl (as.map (vm_v w))).length ≤ y.2.2.1 := by rw [vm_len]; exact hsz
  refine b p e _ s m _ below meth c s.heap [] 0 0 _ _ _ _ ⟨⟨B.exec, B.bytes, hml, ?_, fun v hv => hts v (List.mem_cons_of_mem _ hv)⟩, hK, Nat.le_refl _, Nat.le_refl _, B.notSynchronized, fun h => ?_, hfl, by rw [hy2]; exact htab⟩ hR (Nat.le_refl _) (fun z hz => by cases hz) ?_ (Nat.le_of_eq (Nat.zero_add _)) (Nat.le_of_eq (Nat.zero_add _)) (Nat.le_refl _) (Nat.le_refl _) (vm_end B.exec B.bytes B.notSynchronized (by rw [B.returns]; exact hret r M' hk) a.2.2.1 hK.2.2.2.2.2.1 (hne r))
  · rw [← hown]; exact findClass_of_methodNamed B.named
  · rw [(name_of_methodNamed B.named B.method).1]; exact hini h
  · rw [vm_la_map]
    exact lv_entry _ hlen
/-- .. of a method with handlers -/
theorem vm_conW {yn : MethodName} {as : List vm_X} {kc : Option (γ × mm_T)} {ret : Option FieldType} (hfl : l.stackTraces = false) (hy : plainName yn.cls = true) (hown : yn.cls = y.1) (hini : y.2.2.2.1 = true → yn.name = "<init>") (hsz : (as.map vm_ct).sum ≤ y.2.2.1) (hh : List (Nat × Nat × Nat × Nat)) (hy2 : y.2.2.2.2 = hh) (hret : ∀ r M', kc = some (r, M') → vm_rt ret (ex' r)) (hne : ∀ r E, ex' r ≠ .inl E)
    (hV : ∀ w : vm_W, V_ l w y fr ex' 0 (vm_la 0 as) [] M kc) : vm_Con l yn (.codeWith yn y.2.1 y.2.2.1 ret hh) fr ex' as M kc := by
  intro w r M' hk h1 h2
  obtain ⟨a, b⟩ := hV w r M' hk (vm_okla as 0 h1) (fun v hv => by cases hv) h2
  refine ⟨a, ?_⟩
  refine va_MetW (cc := y.2.1) (maxL := y.2.2.1) (ret := ret) (hh := hh) hy rfl ?_
  intro p e s m args below meth c s₁ B hml hP
  obtain ⟨rfl, hK, hR⟩ := hP
  rw [lg_entry_eq]
  have hts := atoms_spec B.pre
  have htab := vx_table (x := yn) B (hts _ List.mem_cons_self)
  have hlen : (lg_sl (as.map (vm_v w))).length ≤ y.2.2.1 := by rw [vm_len]; exact hsz
  refine b p e _ s m _ below meth c s.heap [] 0 0 _ _ _ _ ⟨⟨B.exec, B.bytes, hml, ?_, fun v hv => hts v (List.mem_cons_of_mem _ hv)⟩, hK, Nat.le_refl _, Nat.le_refl _, B.notSynchronized, fun h => ?_, hfl, by rw [hy2]; exact htab⟩ hR (Nat.le_refl _) (fun z hz => by cases hz) ?_ (Nat.le_of_eq (Nat.zero_add _)) (Nat.le_of_eq (Nat.zero_add _)) (Nat.le_refl _) (Nat.le_refl _) (vm_end B.exec B.bytes B.notSynchronized (by rw [B.returns]; exact hret r M' hk) a.2.2.1 hK.2.2.2.2.2.1 (hne r))
  · rw [← hown]; exact findClass_of_methodNamed B.named
  · rw [(name_of_methodNamed B.named B.method).1]; exact hini h
  · rw [vm_la_map]
    exact lv_entry _ hlen
/-- .. of one that may throw -/
theorem vm_endX {p : Program} {e : Env} {R : Room} {s : State} {m : MethodId} {args : Array Value} {below : List Frame} {meth : Method} {c : Code} {mc ms : Nat} {M' : mm_T} {o : vm_O} (hx : p.tables.exec = Jvm.exec) (hb : c.code = y.2.1) (hlk : meth.locks = false) (hr : vm_rt meth.sig.returnType o) (hok : vm_oko o) (hK : vm_base w ≤ s.heap.size ∧ ∀ q, q < vm_base w → s.heap[q]? = (vm_H0 w)[q]?) :
    vm_Z w y p l e R s m args below meth c mc ms (vx_MQ below (vm_Q w M' o) (vm_XC w M' o) args s mc ms (vm_A w)) M' o := by
  by_cases hne : ∃ E, o = .inl E
  · obtain ⟨E, rfl⟩ := hne
    refine ⟨_, _, _, rfl, fun z hz => hz, fun t h1 h2 h3 => ⟨(), trivial, ⟨⟨E, rfl, rfl⟩, h3⟩, h2, fun q q1 q2 => ?_⟩⟩
    have q3 : q < vm_base w := Nat.lt_of_not_le q2
    rw [h3.2.1 q q3, hK.2 q q3]
  · have h := vm_end (R := R) (m := m) (args := args) (below := below) (e := e) (mc := mc) (ms := ms) (M' := M') (y := y) (w := w) (l := l) hx hb hlk hr hok hK (fun E h => hne ⟨E, h⟩)
    rcases o with E | _ | v
    · exact absurd ⟨E, rfl⟩ hne
    · intro H locs pc la hR hs hl hd
      exact vx_ret (h H locs pc la hR hs hl hd)
    · intro H locs pc la hR hs hl hd
      exact vx_ret (h H locs pc la hR hs hl hd)
/-- .. of a method that may throw -/
theorem vm_conX {yn : MethodName} {as : List vm_X} {kc : Option (γ × mm_T)} {ret : Option FieldType} (hfl : l.stackTraces = false) (hy : plainName yn.cls = true) (hown : yn.cls = y.1) (hini : y.2.2.2.1 = true → yn.name = "<init>") (hsz : (as.map vm_ct).sum ≤ y.2.2.1) (hy2 : y.2.2.2.2 = []) (hret : ∀ r M', kc = some (r, M') → vm_rt ret (ex' r))
    (hV : ∀ w : vm_W, V_ l w y fr ex' 0 (vm_la 0 as) [] M kc) : vm_ConX l yn (.code yn y.2.1 y.2.2.1 ret) fr ex' as M kc := by
  intro w r M' hk h1 h2
  obtain ⟨a, b⟩ := hV w r M' hk (vm_okla as 0 h1) (fun v hv => by cases hv) h2
  refine ⟨a, ?_⟩
  refine vx_ofW (cc := y.2.1) (maxL := y.2.2.1) (ret := ret) hy rfl ?_
  intro p e s m args below meth c s₁ B hml _ hP
  obtain ⟨rfl, hK, hR⟩ := hP
  rw [lg_entry_eq]
  have hts := atoms_spec B.pre
  have htab := vm_notab B (hts _ List.mem_cons_self)
  have hlen : (lg_sl (as.map (vm_v w))).length ≤ y.2.2.1 := by rw [vm_len]; exact hsz
  refine b p e _ s m _ below meth c s.heap [] 0 0 _ _ _ _ ⟨⟨B.exec, B.bytes, hml, ?_, fun v hv => hts v (List.mem_cons_of_mem _ hv)⟩, hK, Nat.le_refl _, Nat.le_refl _, B.notSynchronized, fun h => ?_, hfl, by rw [hy2]; exact htab⟩ hR (Nat.le_refl _) (fun z hz => by cases hz) ?_ (Nat.le_of_eq (Nat.zero_add _)) (Nat.le_of_eq (Nat.zero_add _)) (Nat.le_refl _) (Nat.le_refl _) (vm_endX B.exec B.bytes B.notSynchronized (by rw [B.returns]; exact hret r M' hk) a.2.2.1 hK.2.2.2.2.2.1)
  · rw [← hown]; exact findClass_of_methodNamed B.named
  · rw [(name_of_methodNamed B.named B.method).1]; exact hini h
  · rw [vm_la_map]
    exact lv_entry _ hlen
end MET
