def vm_os : vm_O → Option (List vm_X)
  | .inl _ => none
  | .inr none => some []
  | .inr (some q) => some [q.2]
theorem vm_os_ok {o : vm_O} {sr : List vm_X} (h : vm_os o = some sr) (ho : vm_oko o) : ∀ v ∈ sr, vm_okv v := by
  rcases o with E | _ | q
  · cases h
  · cases h; intro v hv; cases hv
  · cases h
    intro v hv
    rw [List.mem_singleton.mp hv]
    exact ho.1
section CALLS
variable {α γ : Type} {l : Launch} {w : vm_W} {y : vm_Y} {fr fr' : Nat} {ex : α → vm_O} {ex' : γ → vm_O} {pc pc' tgt : Nat} {ls ls' : List (Nat × vm_X)} {st st0 st1 : List vm_X} {M M1 : mm_T} {k k1 k2 : Option (α × mm_T)}
/-- behind a call -/
theorem vm_after {p : Program} {e : Env} {R : Room} {s : State} {m : MethodId} {args : Array Value} {below : List Frame} {meth : Method} {c : Code} {H : Heap} {locs : List Loc} {cells slots mc ms : Nat} {Q : State → Prop} {la : Array Slot} {sv rest : List Value} {a : Array Value} {M' : mm_T} {o : vm_O} {sr : List vm_X}
    (hr : va_Run p l e R s m args below meth c H locs cells slots mc ms (F0 m pc la sv) rest (vm_Q w M' o a) (vm_A w)) (hl : ∀ z ∈ locs, vm_base w ≤ z.base) (ho : vm_os o = some sr)
    (kk : ∀ (H1 : Heap) (locs1 : List Loc), vm_R w M' H1 → H.size ≤ H1.size → (∀ z ∈ locs1, vm_base w ≤ z.base) → W p l e R s m args below meth c H1 locs1 (cells + mc) (slots + ms) Q (F0 m (pc + 3) la (sr.map (vm_v w) ++ rest))) : W p l e R s m args below meth c H locs cells slots Q (F0 m pc la sv) := by
  have hS : va_S (vm_A w) H H locs := ⟨Nat.le_refl _, fun _ _ _ => rfl, hl⟩
  rcases o with E | _ | ⟨b, x | x | k⟩
  · cases ho
  · cases ho
    exact va_callv (a := a) hr hS (fun _ _ h => h) (fun _ h => h) (fun u t H1 locs1 ht _ _ hb hz _ hS1 => kk H1 locs1 (by rw [← ht]; exact hb) hz hS1.2.2)
  · cases ho
    exact va_calli (a := a) hr hS (fun _ _ h => h) (fun _ h => h) (fun r u t H1 locs1 ht _ hp hb hz _ hS1 => by
      have := kk H1 locs1 (by rw [← ht]; exact hb) hz hS1.2.2
      rw [hp]
      exact this)
  · cases ho
    exact va_calll (a := a) hr hS (fun _ _ h => h) (fun _ h => h) (fun r u t H1 locs1 ht _ hp hb hz _ hS1 => by
      have := kk H1 locs1 (by rw [← ht]; exact hb) hz hS1.2.2
      rw [hp]
      exact this)
  · cases ho
    exact va_callq (a := a) hr hS (fun _ _ h => h) (fun _ h => h) (fun r u t H1 locs1 ht _ hp hb hz _ hS1 => by
      have := kk H1 locs1 (by rw [← ht]; exact hb) hz hS1.2.2
      have hv : vm_v w (xA k) = va_rf (vm_ro w k) := by
        show vm_rv w k = _
        unfold vm_rv vm_ro
        split <;> rfl
      rw [hp, ← hv]
      exact this)
theorem vm_callG {as : List vm_X} {kc : Option (γ × mm_T)} {f : γ → mm_T → Option (α × mm_T)} {sr : γ → List vm_X} (hC : ∀ r M', kc = some (r, M') → (∀ v ∈ as, vm_okv v) → mm_ok M → mm_ce M ≤ mm_ce M' ∧ mm_se M ≤ mm_se M' ∧ vm_oko (ex' r) ∧ mm_ok M') (has : ∀ v ∈ as, v ∈ st0) (h1s : ∀ v ∈ st1, v ∈ st0) (hsr : ∀ r, vm_os (ex' r) = some (sr r)) (kk : ∀ (r : γ) (M1 : mm_T), V_ l w y fr ex (pc + 3) ls (sr r ++ st1) M1 (f r M1))
    (hrun : ∀ r0 M0, kc = some (r0, M0) → (∀ v ∈ as, vm_okv v) → mm_ok M → ∀ (p : Program) (e : Env) (R : Room) (s : State) (m : MethodId) (args : Array Value) (below : List Frame) (meth : Method) (c : Code) (H : Heap) (locs : List Loc) (cells slots : Nat) (la : Array Slot), vm_C l w y fr p R s m args meth c → vm_R w M H → lv_has la y.2.2.1 (ls.map (fun q => (q.1, vm_v w q.2))) → s.heap.size ≤ H.size → cells + (mm_ce M0 - mm_ce M) ≤ R.cells → slots + (mm_se M0 - mm_se M) ≤ R.slots →
      ∃ a : Array Value, va_Run p l e R s m args below meth c H locs cells slots (mm_ce M0 - mm_ce M) (mm_se M0 - mm_se M) (F0 m pc la (st0.map (vm_v w))) (st1.map (vm_v w)) (vm_Q w M0 (ex' r0) a) (vm_A w)) : V_ l w y fr ex pc ls st0 M (cl_ kc f) := by
  intro r M' hk h1 h2 h3
  cases hkc : kc with
  | none => rw [hkc] at hk; cases hk
  | some q =>
    obtain ⟨r0, M0⟩ := q
    rw [hkc] at hk
    have hk : f r0 M0 = some (r, M') := hk
    have hao : ∀ v ∈ as, vm_okv v := fun v hv => h2 v (has v hv)
    obtain ⟨a1, a2, a3, a4⟩ := hC r0 M0 hkc hao h3
    obtain ⟨⟨b1, b2, b3, b4⟩, b⟩ := kk r0 M0 r M' hk h1 (fun v hv => (List.mem_append.mp hv).elim (vm_os_ok (hsr r0) a3 v) (fun h => h2 v (h1s v h))) a4
    refine ⟨⟨by omega, by omega, b3, b4⟩, ?_⟩
    intro p e R s m args below meth c H locs cells slots mc ms Q la C hR hs hl hla c1 c2 c3 c4 hZ
    obtain ⟨a, hrn⟩ := hrun r0 M0 hkc hao h3 p e R s m args below meth c H locs cells slots la C hR hla hs (by omega) (by omega)
    refine vm_after hrn hl (hsr r0) (fun H1 locs1 hR1 hz hl1 => ?_)
    have := b p e R s m args below meth c H1 locs1 (cells + (mm_ce M0 - mm_ce M)) (slots + (mm_se M0 - mm_se M)) mc ms Q la C hR1 (by omega) hl1 hla (by omega) (by omega) c3 c4 hZ
    rw [List.map_append] at this
    exact this
/-- what a call links -/
def vm_LV (own : String) (idx : Nat) (yn : MethodName) (C : String) (cd : Cond) (n : Nat) : Prop :=
  (Cond.methodLink own idx yn ∈ gw_G ∧ Cond.instanceMethod yn ∈ gw_G ∧ Cond.selects C yn yn ∈ gw_G ∧ Cond.initialized C ∈ gw_G ∧ cd ∈ gw_G) ∧ yn.cls = C ∧ yn.cls ≠ "java/lang/invoke/MethodHandle" ∧ yn.cls ≠ "java/lang/invoke/VarHandle" ∧ (parseMethodDescriptor yn.desc).map (fun d => d.parameters.length) = some n
def vm_LS (own : String) (idx : Nat) (yn : MethodName) (cd : Cond) (n : Nat) : Prop :=
  (Cond.methodLink own idx yn ∈ gw_G ∧ Cond.static yn ∈ gw_G ∧ Cond.initialized yn.cls ∈ gw_G ∧ cd ∈ gw_G) ∧ yn.cls ≠ "java/lang/invoke/MethodHandle" ∧ yn.cls ≠ "java/lang/invoke/VarHandle" ∧ (parseMethodDescriptor yn.desc).map (fun d => d.parameters.length) = some n
def vm_LI (own : String) (idx : Nat) (yn : MethodName) (cd : Cond) (n : Nat) : Prop :=
  (Cond.methodLink own idx yn ∈ gw_G ∧ Cond.instanceMethod yn ∈ gw_G ∧ Cond.initialized yn.cls ∈ gw_G ∧ cd ∈ gw_G) ∧ yn.name = "<init>" ∧ yn.cls ≠ "java/lang/invoke/MethodHandle" ∧ yn.cls ≠ "java/lang/invoke/VarHandle" ∧ (parseMethodDescriptor yn.desc).map (fun d => d.parameters.length) = some n
def vm_LN (own : String) (idx : Nat) (yn : MethodName) (h : String) (cd : Cond) (n : Nat) : Prop :=
  (Cond.methodLinkNest own idx yn h ∈ gw_X ∧ Cond.initialized yn.cls ∈ gw_G ∧ cd ∈ gw_G) ∧ yn.cls ≠ "java/lang/invoke/MethodHandle" ∧ yn.cls ≠ "java/lang/invoke/VarHandle" ∧ (parseMethodDescriptor yn.desc).map (fun d => d.parameters.length) = some n
theorem gw_in {cd : Cond} (h : cd ∈ gw_G) : GoodIn gw_G (cd :: gw_G) := fun v hv => by
  rcases List.mem_cons.mp hv with e | e
  · subst e; exact ⟨h, gw_good _ h⟩
  · exact ⟨e, gw_good v e⟩
theorem gw_inA {a : List Cond} {cd : Cond} (ha : ∀ v ∈ a, v ∈ gw_G) (h : cd ∈ gw_G) : GoodIn gw_G (a ++ (cd :: gw_G)) := fun v hv => by
  rcases List.mem_append.mp hv with e | e
  · exact ⟨ha v e, gw_good _ (ha v e)⟩
  · exact gw_in h v e
/-- a callee's start -/
theorem vm_pre {as : List vm_X} {p : Program} {R : Room} {s : State} {m : MethodId} {args : Array Value} {meth : Method} {c : Code} {H : Heap} (C : vm_C l w y fr p R s m args meth c) (hR : vm_R w M H) : ∀ U : State, U.heap = H → s.WarmedH U.vm → vm_Pc w as M (as.map (vm_v w)).toArray U := fun U hU hW => ⟨rfl, vm_K.moved hW (by rw [hU]; have := hR.1.1; omega) (fun q hq => by rw [hU]; exact hR.2.1 q hq) C.2.1, by rw [hU]; exact hR⟩
section RUNS
variable {p : Program} {e : Env} {R : Room} {s : State} {m : MethodId} {args : Array Value} {below : List Frame} {meth : Method} {c0 : Code} {H : Heap} {locs : List Loc} {cells slots : Nat} {la : Array Slot}
variable {as : List vm_X} {b idx n maxL : Nat} {yn : MethodName} {bytes : ByteArray} {ret : Option FieldType} {kc : Option (γ × mm_T)} {r0 : γ} {M0 : mm_T}
theorem vm_runV {c : Nat} {q : vw_C} (C : vm_C l w y fr p R s m args meth c0) (hR : vm_R w M H) (hla : lv_has la y.2.2.1 (ls.map (fun q => (q.1, vm_v w q.2)))) (c1 : cells + (mm_ce M0 - mm_ce M) ≤ R.cells) (c2 : slots + (mm_se M0 - mm_se M) ≤ R.slots)
    (hd : decode y.2.1 pc = .ok (.invokevirtual idx, 3)) (hL : vm_LV y.1 idx yn q.1 (.code yn bytes maxL ret) n) (hq : vm_cl[c]? = some q) (ht : mm_ty M b = .inl c) (hM : Met l yn (.code yn bytes maxL ret :: gw_G) (vm_rm fr' M M0) (vm_Pc w (xA b :: as) M) (vm_Q w M0 (ex' r0)) (mm_ce M0 - mm_ce M) (mm_se M0 - mm_se M) (vm_A w)) (hfr : fr' + 1 ≤ fr) (hmx : maxL ≤ 45) (hn : as.length = n) (hst : st0 = as.reverse ++ xA b :: st1) (hs8 : (st1.map vm_ct).sum ≤ 8) :
    ∃ a : Array Value, va_Run p l e R s m args below meth c0 H locs cells slots (mm_ce M0 - mm_ce M) (mm_se M0 - mm_se M) (F0 m pc la (st0.map (vm_v w))) (st1.map (vm_v w)) (vm_Q w M0 (ex' r0) a) (vm_A w) := by
  obtain ⟨⟨l1, l2, l3, l4, l5⟩, l6⟩ := hL
  obtain ⟨g1, g2, cell, q1, q2, q3, -⟩ := vm_E_obj hR ht hq
  have e0 : vm_v w (xA b) = .ref (vm_ad w b) := vm_rv_n0 w g1
  have hC := id C
  obtain ⟨⟨cx, cb, cm, cown, chts⟩, ⟨cK, -⟩, cf, cl2, -⟩ := C
  have hpre := vm_pre (as := xA b :: as) hC hR
  rw [List.map_cons, e0] at hpre
  refine ⟨_, va_runV (As := as.map (vm_v w)) (rest := st1.map (vm_v w)) ⟨cx, cb, cm, cown, chts⟩ hM (cwV n chts (gw_inA (a := [_, _, _, _]) (fun v hv => ?_) l5) rfl rfl rfl l6 ⟨by show fr' + 1 ≤ _; omega, by show 8 + (maxL + 11) + 64 * fr' ≤ _; omega⟩) ⟨vm_Pc_blind, ⟨cell, q1, by rw [q3]; rfl, by rw [q2]; exact (cK c q hq).2.1⟩, hpre⟩ rfl (by rw [List.length_map]; exact hn) hla.1 ?_ (lv_room (by rw [vm_sum]; exact hs8)) hd ⟨c1, c2⟩⟩
  · rcases List.mem_cons.mp hv with e | hv
    · rw [e]; exact l1
    rcases List.mem_cons.mp hv with e | hv
    · rw [e]; exact l2
    rcases List.mem_cons.mp hv with e | hv
    · rw [e]; exact l3
    rw [List.mem_singleton.mp hv]; exact l4
  · subst hst
    show (_ : List Value) = _
    rw [List.map_append, List.map_cons, e0, List.map_reverse]
theorem vm_runS (C : vm_C l w y fr p R s m args meth c0) (hR : vm_R w M H) (hla : lv_has la y.2.2.1 (ls.map (fun q => (q.1, vm_v w q.2)))) (c1 : cells + (mm_ce M0 - mm_ce M) ≤ R.cells) (c2 : slots + (mm_se M0 - mm_se M) ≤ R.slots)
    (hd : decode y.2.1 pc = .ok (.invokestatic idx, 3)) (hL : vm_LS y.1 idx yn (.code yn bytes maxL ret) n) (hM : Met l yn (.code yn bytes maxL ret :: gw_G) (vm_rm fr' M M0) (vm_Pc w as M) (vm_Q w M0 (ex' r0)) (mm_ce M0 - mm_ce M) (mm_se M0 - mm_se M) (vm_A w)) (hfr : fr' + 1 ≤ fr) (hmx : maxL ≤ 45) (hn : as.length = n) (hst : st0 = as.reverse ++ st1) (hs8 : (st1.map vm_ct).sum ≤ 8) :
    ∃ a : Array Value, va_Run p l e R s m args below meth c0 H locs cells slots (mm_ce M0 - mm_ce M) (mm_se M0 - mm_se M) (F0 m pc la (st0.map (vm_v w))) (st1.map (vm_v w)) (vm_Q w M0 (ex' r0) a) (vm_A w) := by
  obtain ⟨⟨l1, l2, l3, l5⟩, l6⟩ := hL
  have hC := id C
  obtain ⟨⟨cx, cb, cm, cown, chts⟩, ⟨cK, -⟩, cf, cl2, -⟩ := C
  have hpre := vm_pre (as := as) hC hR
  refine ⟨_, va_runS (As := as.map (vm_v w)) (rest := st1.map (vm_v w)) ⟨cx, cb, cm, cown, chts⟩ hM (va_cwS n chts (gw_inA (a := [_, _, _]) (fun v hv => ?_) l5) rfl rfl rfl l6 ⟨by show fr' + 1 ≤ _; omega, by show 8 + (maxL + 11) + 64 * fr' ≤ _; omega⟩) ⟨vm_Pc_blind, hpre⟩ rfl (by rw [List.length_map]; exact hn) hla.1 ?_ (lv_room (by rw [vm_sum]; exact hs8)) hd ⟨c1, c2⟩⟩
  · rcases List.mem_cons.mp hv with e | hv
    · rw [e]; exact l1
    rcases List.mem_cons.mp hv with e | hv
    · rw [e]; exact l2
    rw [List.mem_singleton.mp hv]; exact l3
  · subst hst
    show (_ : List Value) = _
    rw [List.map_append, List.map_reverse]
theorem vm_runI {c : Nat} {q : vw_C} (C : vm_C l w y fr p R s m args meth c0) (hR : vm_R w M H) (hla : lv_has la y.2.2.1 (ls.map (fun q => (q.1, vm_v w q.2)))) (c1 : cells + (mm_ce M0 - mm_ce M) ≤ R.cells) (c2 : slots + (mm_se M0 - mm_se M) ≤ R.slots)
    (hd : decode y.2.1 pc = .ok (.invokespecial idx, 3)) (hL : vm_LI y.1 idx yn (.code yn bytes maxL none) n) (hq : vm_cl[c]? = some q) (ht : mm_ty M b = .inl c) (hM : Met l yn (.code yn bytes maxL none :: gw_G) (vm_rm fr' M M0) (vm_Pc w (xA b :: as) M) (vm_Q w M0 (ex' r0)) (mm_ce M0 - mm_ce M) (mm_se M0 - mm_se M) (vm_A w)) (hfr : fr' + 1 ≤ fr) (hmx : maxL ≤ 45) (hn : as.length = n) (hst : st0 = as.reverse ++ xA b :: st1) (hs8 : (st1.map vm_ct).sum ≤ 8) :
    ∃ a : Array Value, va_Run p l e R s m args below meth c0 H locs cells slots (mm_ce M0 - mm_ce M) (mm_se M0 - mm_se M) (F0 m pc la (st0.map (vm_v w))) (st1.map (vm_v w)) (vm_Q w M0 (ex' r0) a) (vm_A w) := by
  obtain ⟨⟨l1, l2, l4, l5⟩, l6, l7⟩ := hL
  obtain ⟨g1, g2, cell, q1, q2, q3, -⟩ := vm_E_obj hR ht hq
  have e0 : vm_v w (xA b) = .ref (vm_ad w b) := vm_rv_n0 w g1
  have hC := id C
  obtain ⟨⟨cx, cb, cm, cown, chts⟩, ⟨cK, -⟩, cf, cl2, -⟩ := C
  have hpre := vm_pre (as := xA b :: as) hC hR
  rw [List.map_cons, e0] at hpre
  refine ⟨_, va_runI (As := as.map (vm_v w)) (rest := st1.map (vm_v w)) ⟨cx, cb, cm, cown, chts⟩ hM (cwI n chts (gw_in l5) rfl rfl rfl (chts _ l4) (chts _ l1) (chts _ l2) l6 l7 ⟨by show fr' + 1 ≤ _; omega, by show 8 + (maxL + 11) + 64 * fr' ≤ _; omega⟩) ⟨vm_Pc_blind, hpre⟩ rfl (by rw [List.length_map]; exact hn) hla.1 ?_ (lv_room (by rw [vm_sum]; exact hs8)) hd ⟨c1, c2⟩⟩
  subst hst
  show (_ : List Value) = _
  rw [List.map_append, List.map_cons, e0, List.map_reverse]
theorem vm_runIN {c : Nat} {q : vw_C} {host : String} (C : vm_C l w y fr p R s m args meth c0) (hR : vm_R w M H) (hla : lv_has la y.2.2.1 (ls.map (fun q => (q.1, vm_v w q.2)))) (c1 : cells + (mm_ce M0 - mm_ce M) ≤ R.cells) (c2 : slots + (mm_se M0 - mm_se M) ≤ R.slots)
    (hd : decode y.2.1 pc = .ok (.invokespecial idx, 3)) (hL : vm_LN y.1 idx yn host (.code yn bytes maxL none) n) (hi : yn.name = "<init>" ∧ Cond.instanceMethod yn ∈ gw_G) (hq : vm_cl[c]? = some q) (ht : mm_ty M b = .inl c) (hM : Met l yn (.code yn bytes maxL none :: gw_G) (vm_rm fr' M M0) (vm_Pc w (xA b :: as) M) (vm_Q w M0 (ex' r0)) (mm_ce M0 - mm_ce M) (mm_se M0 - mm_se M) (vm_A w)) (hfr : fr' + 1 ≤ fr) (hmx : maxL ≤ 45) (hn : as.length = n) (hst : st0 = as.reverse ++ xA b :: st1) (hs8 : (st1.map vm_ct).sum ≤ 8) :
    ∃ a : Array Value, va_Run p l e R s m args below meth c0 H locs cells slots (mm_ce M0 - mm_ce M) (mm_se M0 - mm_se M) (F0 m pc la (st0.map (vm_v w))) (st1.map (vm_v w)) (vm_Q w M0 (ex' r0) a) (vm_A w) := by
  obtain ⟨⟨l1, l4, l5⟩, l7⟩ := hL
  obtain ⟨g1, g2, cell, q1, q2, q3, -⟩ := vm_E_obj hR ht hq
  have e0 : vm_v w (xA b) = .ref (vm_ad w b) := vm_rv_n0 w g1
  have hC := id C
  obtain ⟨⟨cx, cb, cm, cown, chts⟩, ⟨cK, -, cN, -⟩, cf, cl2, -⟩ := C
  have hpre := vm_pre (as := xA b :: as) hC hR
  rw [List.map_cons, e0] at hpre
  refine ⟨_, va_runIN (As := as.map (vm_v w)) (rest := st1.map (vm_v w)) ⟨cx, cb, cm, cown, chts⟩ hM ⟨va_cnB n chts (gw_in l5) rfl rfl rfl (cN _ l1) (chts _ l4) l7 ⟨by show fr' + 1 ≤ _; omega, by show 8 + (maxL + 11) + 64 * fr' ≤ _; omega⟩, hi.1, chts _ hi.2⟩ ⟨vm_Pc_blind, hpre⟩ rfl (by rw [List.length_map]; exact hn) hla.1 ?_ (lv_room (by rw [vm_sum]; exact hs8)) hd ⟨c1, c2⟩⟩
  subst hst
  show (_ : List Value) = _
  rw [List.map_append, List.map_cons, e0, List.map_reverse]
theorem vm_runSN {host : String} (C : vm_C l w y fr p R s m args meth c0) (hR : vm_R w M H) (hla : lv_has la y.2.2.1 (ls.map (fun q => (q.1, vm_v w q.2)))) (c1 : cells + (mm_ce M0 - mm_ce M) ≤ R.cells) (c2 : slots + (mm_se M0 - mm_se M) ≤ R.slots)
    (hd : decode y.2.1 pc = .ok (.invokestatic idx, 3)) (hL : vm_LN y.1 idx yn host (.code yn bytes maxL ret) n) (hi : Cond.static yn ∈ gw_G) (hM : Met l yn (.code yn bytes maxL ret :: gw_G) (vm_rm fr' M M0) (vm_Pc w as M) (vm_Q w M0 (ex' r0)) (mm_ce M0 - mm_ce M) (mm_se M0 - mm_se M) (vm_A w)) (hfr : fr' + 1 ≤ fr) (hmx : maxL ≤ 45) (hn : as.length = n) (hst : st0 = as.reverse ++ st1) (hs8 : (st1.map vm_ct).sum ≤ 8) :
    ∃ a : Array Value, va_Run p l e R s m args below meth c0 H locs cells slots (mm_ce M0 - mm_ce M) (mm_se M0 - mm_se M) (F0 m pc la (st0.map (vm_v w))) (st1.map (vm_v w)) (vm_Q w M0 (ex' r0) a) (vm_A w) := by
  obtain ⟨⟨l1, l4, l5⟩, l7⟩ := hL
  have hC := id C
  obtain ⟨⟨cx, cb, cm, cown, chts⟩, ⟨cK, -, cN, -⟩, cf, cl2, -⟩ := C
  have hpre := vm_pre (as := as) hC hR
  refine ⟨_, va_runSN (As := as.map (vm_v w)) (rest := st1.map (vm_v w)) ⟨cx, cb, cm, cown, chts⟩ hM ⟨va_cnB n chts (gw_in l5) rfl rfl rfl (cN _ l1) (chts _ l4) l7 ⟨by show fr' + 1 ≤ _; omega, by show 8 + (maxL + 11) + 64 * fr' ≤ _; omega⟩, chts _ hi, trivial⟩ ⟨vm_Pc_blind, hpre⟩ rfl (by rw [List.length_map]; exact hn) hla.1 ?_ (lv_room (by rw [vm_sum]; exact hs8)) hd ⟨c1, c2⟩⟩
  subst hst
  show (_ : List Value) = _
  rw [List.map_append, List.map_reverse]
theorem vm_runSW {hh : List (Nat × Nat × Nat × Nat)} (C : vm_C l w y fr p R s m args meth c0) (hR : vm_R w M H) (hla : lv_has la y.2.2.1 (ls.map (fun q => (q.1, vm_v w q.2)))) (c1 : cells + (mm_ce M0 - mm_ce M) ≤ R.cells) (c2 : slots + (mm_se M0 - mm_se M) ≤ R.slots)
    (hd : decode y.2.1 pc = .ok (.invokestatic idx, 3)) (hL : vm_LS y.1 idx yn (.codeWith yn bytes maxL ret hh) n) (hM : Met l yn (.codeWith yn bytes maxL ret hh :: gw_G) (vm_rm fr' M M0) (vm_Pc w as M) (vm_Q w M0 (ex' r0)) (mm_ce M0 - mm_ce M) (mm_se M0 - mm_se M) (vm_A w)) (hfr : fr' + 1 ≤ fr) (hmx : maxL ≤ 45) (hn : as.length = n) (hst : st0 = as.reverse ++ st1) (hs8 : (st1.map vm_ct).sum ≤ 8) :
    ∃ a : Array Value, va_Run p l e R s m args below meth c0 H locs cells slots (mm_ce M0 - mm_ce M) (mm_se M0 - mm_se M) (F0 m pc la (st0.map (vm_v w))) (st1.map (vm_v w)) (vm_Q w M0 (ex' r0) a) (vm_A w) := by
  obtain ⟨⟨l1, l2, l3, l5⟩, l7⟩ := hL
  have hC := id C
  obtain ⟨⟨cx, cb, cm, cown, chts⟩, ⟨cK, -⟩, cf, cl2, -⟩ := C
  have hpre := vm_pre (as := as) hC hR
  refine ⟨_, vx_runSW (As := as.map (vm_v w)) (rest := st1.map (vm_v w)) ⟨cx, cb, cm, cown, chts⟩ hM (vx_cwSW n chts (gw_inA (a := [_, _, _]) (fun v hv => ?_) l5) rfl rfl rfl l7 ⟨by show fr' + 1 ≤ _; omega, by show 8 + (maxL + 11) + 64 * fr' ≤ _; omega⟩) ⟨vm_Pc_blind, hpre⟩ rfl (by rw [List.length_map]; exact hn) hla.1 ?_ (lv_room (by rw [vm_sum]; exact hs8)) hd ⟨c1, c2⟩⟩
  · rcases List.mem_cons.mp hv with e | hv
    · rw [e]; exact l1
    rcases List.mem_cons.mp hv with e | hv
    · rw [e]; exact l2
    rw [List.mem_singleton.mp hv]; exact l3
  · subst hst
    show (_ : List Value) = _
    rw [List.map_append, List.map_reverse]
end RUNS
end CALLS
