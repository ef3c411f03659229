theorem vm_Q_out {w : vm_W} {M' : mm_T} {o : vm_O} {a : Array Value} {st t : State} {v : Option Value} (h : vm_Q w M' o a st (.returned v) t) : ∃ sr, vm_os o = some sr ∧ v.toList = sr.map (vm_v w) ∧ vm_R w M' t.heap ∧ va_F (vm_A w) st t := by
  rcases o with E | _ | ⟨b, x | x | k⟩
  · exact h.elim
  · obtain ⟨⟨u, h1, -, h2⟩, h3⟩ := h
    cases h1
    exact ⟨[], rfl, rfl, h2, h3⟩
  · obtain ⟨⟨r, u, h1, h4, h2⟩, h3⟩ := h
    cases h1
    subst h4
    exact ⟨[xI x], rfl, rfl, h2, h3⟩
  · obtain ⟨⟨r, u, h1, h4, h2⟩, h3⟩ := h
    cases h1
    subst h4
    exact ⟨[xJ _], rfl, rfl, h2, h3⟩
  · obtain ⟨⟨r, u, h1, h4, h2⟩, h3⟩ := h
    cases h1
    subst h4
    have hv : vm_v w (xA k) = va_rf (vm_ro w k) := by
      show vm_rv w k = _
      unfold vm_rv vm_ro
      split <;> rfl
    exact ⟨[xA k], rfl, by rw [List.map_cons, hv]; rfl, h2, h3⟩
section THROWS
variable {α γ : Type} {l : Launch} {w : vm_W} {y : vm_Y} {fr fr' : Nat} {pc pc' tgt : Nat} {ls ls' : List (Nat × vm_X)} {st st0 st1 : List vm_X} {M M1 : mm_T}
/-- behind a call that may throw -/
theorem vm_afterX {p : Program} {e : Env} {R : Room} {s : State} {m : MethodId} {args : Array Value} {below : List Frame} {meth : Method} {c : Code} {H : Heap} {locs : List Loc} {cells slots mc ms : Nat} {Q : State → Prop} {la : Array Slot} {sv rest : List Value} {a : Array Value} {M' : mm_T} {o : vm_O}
    (hr : vx_Run p l e R s m args below meth c H locs cells slots mc ms (F0 m pc la sv) rest (vm_Q w M' o a) (vm_XC w M' o) (vm_A w)) (hl : ∀ z ∈ locs, vm_base w ≤ z.base)
    (kx : ∀ E0 : Nat, o = .inl E0 → ∀ (H1 : Heap) (locs1 : List Loc) (q : Addr) (ce : Cell), vm_R w M' H1 → H.size ≤ H1.size → (∀ z ∈ locs1, vm_base w ≤ z.base) → H1[q]? = some ce → ce.vm = .none → s.vm.findClass (ex_n E0) = some ce.cls → vx_W p l e R s m args below meth c H1 locs1 (cells + mc) (slots + ms) Q (F0 m pc la rest) q)
    (kk : ∀ sr : List vm_X, vm_os o = some sr → ∀ (H1 : Heap) (locs1 : List Loc), vm_R w M' H1 → H.size ≤ H1.size → (∀ z ∈ locs1, vm_base w ≤ z.base) → W p l e R s m args below meth c H1 locs1 (cells + mc) (slots + ms) Q (F0 m (pc + 3) la (sr.map (vm_v w) ++ rest))) : W p l e R s m args below meth c H locs cells slots Q (F0 m pc la sv) := by
  have hS : va_S (vm_A w) H H locs := ⟨Nat.le_refl _, fun _ _ _ => rfl, hl⟩
  intro T hT X
  rcases hr T hT X with ⟨v, st₀, t, T', L, h0, X', hL, e1, e2, hq, st⟩ | ⟨q, st₀, t, T', L, E, ce, h0, X', hL, e1, e2, ⟨u, -, ⟨⟨E0, ho, hE⟩, hb⟩, hF⟩, hce, hcv, hcl, st⟩
  · obtain ⟨sr, h1, h2, h3, h4⟩ := vm_Q_out hq
    obtain ⟨k1, k2, k3⟩ := vx_keep h0 e1 hS (fun _ _ h => h) (fun _ h => h) hL h4
    obtain ⟨t2, a1, b1⟩ := kk sr h1 T'.heap (locs ++ L) (by rw [e1]; exact h3) k1 k3.2.2 T' rfl X'
    rw [← h2] at a1
    exact ⟨t2, st t2 a1, b1⟩
  · obtain ⟨k1, k2, k3⟩ := vx_keep h0 e1 hS (fun _ _ h => h) (fun _ h => h) hL hF
    subst hE
    obtain ⟨t2, a1, b1⟩ := kx E0 ho T'.heap (locs ++ L) q ce (by rw [e1]; exact hb) k1 k3.2.2 (by rw [e1]; exact hce) hcv hcl T' rfl X'
    exact ⟨t2, st.trans a1, b1⟩
theorem vm_runVX {ex' : γ → vm_O} {p : Program} {e : Env} {R : Room} {s : State} {m : MethodId} {args : Array Value} {below : List Frame} {meth : Method} {c0 : Code} {H : Heap} {locs : List Loc} {cells slots : Nat} {la : Array Slot} {as : List vm_X} {b idx n maxL : Nat} {yn : MethodName} {bytes : ByteArray} {ret : Option FieldType} {r0 : γ} {M0 : mm_T} {c : Nat} {q : vw_C} (C : vm_C l w y fr p R s m args meth c0) (hR : vm_R w M H) (hla : lv_has la y.2.2.1 (ls.map (fun q => (q.1, vm_v w q.2)))) (c1 : cells + (mm_ce M0 - mm_ce M) ≤ R.cells) (c2 : slots + (mm_se M0 - mm_se M) ≤ R.slots)
    (hd : decode y.2.1 pc = .ok (.invokevirtual idx, 3)) (hL : vm_LV y.1 idx yn q.1 (.code yn bytes maxL ret) n) (hq : vm_cl[c]? = some q) (ht : mm_ty M b = .inl c) (hM : vx_Met l yn (.code yn bytes maxL ret :: gw_G) (vm_rm fr' M M0) (vm_Pc w (xA b :: as) M) (vm_Q w M0 (ex' r0)) (vm_XC w M0 (ex' r0)) (mm_ce M0 - mm_ce M) (mm_se M0 - mm_se M) (vm_A w)) (hfr : fr' + 1 ≤ fr) (hmx : maxL ≤ 45) (hn : as.length = n) (hst : st0 = as.reverse ++ xA b :: st1) (hs8 : (st1.map vm_ct).sum ≤ 8) :
    ∃ a : Array Value, vx_Run p l e R s m args below meth c0 H locs cells slots (mm_ce M0 - mm_ce M) (mm_se M0 - mm_se M) (F0 m pc la (st0.map (vm_v w))) (st1.map (vm_v w)) (vm_Q w M0 (ex' r0) a) (vm_XC w M0 (ex' r0)) (vm_A w) := by
  obtain ⟨⟨l1, l2, l3, l4, l5⟩, l6⟩ := hL
  obtain ⟨g1, g2, cell, q1, q2, q3, -⟩ := vm_E_obj hR ht hq
  have e0 : vm_v w (xA b) = .ref (vm_ad w b) := vm_rv_n0 w g1
  have hC := id C
  obtain ⟨⟨cx, cb, cm, cown, chts⟩, ⟨cK, -⟩, cf, cl2, -⟩ := C
  have hpre := vm_pre (as := xA b :: as) hC hR
  rw [List.map_cons, e0] at hpre
  refine ⟨_, vx_runV (As := as.map (vm_v w)) (rest := st1.map (vm_v w)) ⟨cx, cb, cm, cown, chts⟩ hM (cwV n chts (gw_inA (a := [_, _, _, _]) (fun v hv => ?_) l5) rfl rfl rfl l6 ⟨by show fr' + 1 ≤ _; omega, by show 8 + (maxL + 11) + 64 * fr' ≤ _; omega⟩) ⟨vm_Pc_blind, ⟨cell, q1, by rw [q3]; rfl, by rw [q2]; exact (cK c q hq).2.1⟩, hpre⟩ rfl (by rw [List.length_map]; exact hn) hla.1 ?_ (lv_room (by rw [vm_sum]; exact hs8)) hd ⟨c1, c2⟩⟩
  · rcases List.mem_cons.mp hv with e | hv
    · rw [e]; exact l1
    rcases List.mem_cons.mp hv with e | hv
    · rw [e]; exact l2
    rcases List.mem_cons.mp hv with e | hv
    · rw [e]; exact l3
    rw [List.mem_singleton.mp hv]; exact l4
  · subst hst
    show (_ : List Value) = _
    rw [List.map_append, List.map_cons, e0, List.map_reverse]
/-- a call that may throw, in a method that catches nothing -/
theorem v_xV {β : Type} {exb : β → vm_O} {exc : γ → vm_O} {kc : Option ((Nat ⊕ γ) × mm_T)} {f : γ → mm_T → Option ((Nat ⊕ β) × mm_T)} {as : List vm_X} {b c idx n maxL : Nat} {q : vw_C} {yn : MethodName} {bytes : ByteArray} {ret : Option FieldType} {sr : γ → List vm_X} (hd : vm_D y.2.1 pc 3 pc' (.invokevirtual idx)) (hL : vm_LV y.1 idx yn q.1 (.code yn bytes maxL ret) n) (hq : vm_cl[c]? = some q) (hC : vm_ConX l yn (.code yn bytes maxL ret) fr' (ex_T exc) (xA b :: as) M kc) (he : ∀ r, vm_os (exc r) = some (sr r)) (hfr : fr' + 1 ≤ fr) (hmx : maxL ≤ 45) (hn : as.length = n) (hst : st0 = as.reverse ++ xA b :: st1) (hs8 : (st1.map vm_ct).sum ≤ 8) (hy : y.2.2.2.2 = [])
    (kk : ∀ (r : γ) (M1 : mm_T), V_ l w y fr (ex_T exb) pc' ls (sr r ++ st1) M1 (f r M1)) : V_ l w y fr (ex_T exb) pc ls st0 M (ob_ M b c (cx_ kc (fun E M1 => some (.inl E, M1)) f)) := by
  obtain ⟨hd, rfl⟩ := hd
  unfold ob_
  by_cases ht : mm_ty M b = .inl c
  · rw [if_pos ht]
    intro r M' hk h1 h2 h3
    cases hkc : kc with
    | none => rw [hkc] at hk; cases hk
    | some r0 =>
      obtain ⟨r0, M0⟩ := r0
      rw [hkc] at hk
      have hao : ∀ v ∈ xA b :: as, vm_okv v := fun v hv => h2 v ((mem_recv hst).1 v hv)
      obtain ⟨⟨a1, a2, a3, a4⟩, hM⟩ := hC w r0 M0 hkc hao h3
      rcases r0 with E | r0
      · cases hk
        refine ⟨⟨a1, a2, trivial, a4⟩, ?_⟩
        intro p e R s m args below meth c0 H locs cells slots mc ms Q la C hR hs hl hla c1 c2 c3 c4 hZ
        obtain ⟨a, hrn⟩ := vm_runVX (locs := locs) (cells := cells) (slots := slots) (e := e) (below := below) (ex' := ex_T exc) C hR hla (by omega) (by omega) hd hL hq ht hM hfr hmx hn hst hs8
        refine vm_afterX hrn hl (fun E0 hE H1 locs1 q9 ce hR1 hz hl1 hce hcv hcl => ?_) (fun sr h => by cases h)
        cases hE
        obtain ⟨Qc, XC, free, rfl, hfree, hXC⟩ := hZ
        have htab := C.2.2.2.2.2.2.2
        rw [hy] at htab
        exact vx_widen (k := mc) (n := ms) (by omega) (by omega) (vx_out (E := ex_n E) (fun x hx => by rw [htab] at hx; cases hx) C.2.2.2.2.1 hce hcv hcl (fun t ht hvm => hXC t hvm (by rw [ht]; omega) (by rw [ht]; exact hR1)) (fun z hz => hfree _ (hl1 z hz)) (Nat.le_refl _) (Nat.le_refl _))
      · have hk : f r0 M0 = some (r, M') := hk
        obtain ⟨⟨b1, b2, b3, b4⟩, bb⟩ := kk r0 M0 r M' hk h1 (fun v hv => (List.mem_append.mp hv).elim (vm_os_ok (he r0) a3 v) (fun h => h2 v ((mem_recv hst).2 v h))) a4
        refine ⟨⟨by omega, by omega, b3, b4⟩, ?_⟩
        intro p e R s m args below meth c0 H locs cells slots mc ms Q la C hR hs hl hla c1 c2 c3 c4 hZ
        obtain ⟨a, hrn⟩ := vm_runVX (locs := locs) (cells := cells) (slots := slots) (e := e) (below := below) (ex' := ex_T exc) C hR hla (by omega) (by omega) hd hL hq ht hM hfr hmx hn hst hs8
        refine vm_afterX hrn hl (fun E0 hE => ?_) (fun sr' hsr H1 locs1 hR1 hz hl1 => ?_)
        · have : (exc r0) = .inl E0 := hE
          have h9 := he r0
          rw [this] at h9
          cases h9
        · have e9 : sr' = sr r0 := Option.some.inj (hsr.symm.trans (he r0))
          subst e9
          have := bb p e R s m args below meth c0 H1 locs1 (cells + (mm_ce M0 - mm_ce M)) (slots + (mm_se M0 - mm_se M)) mc ms Q la C hR1 (by omega) hl1 hla (by omega) (by omega) c3 c4 hZ
          rw [List.map_append] at this
          exact this
  · rw [if_neg ht]
    exact V_.none
end THROWS
