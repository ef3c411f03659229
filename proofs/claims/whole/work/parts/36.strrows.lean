section STR2
variable {α : Type} {l : Launch} {w : vm_W} {y : vm_Y} {fr fr' : Nat} {ex : α → vm_O} {pc pc' tgt : Nat} {ls ls' : List (Nat × vm_X)} {st st0 st1 : List vm_X} {M M1 : mm_T} {k1 : Option (α × mm_T)}
theorem vm_afterJ {p : Program} {e : Env} {R : Room} {s : State} {m : MethodId} {args : Array Value} {below : List Frame} {meth : Method} {c : Code} {H : Heap} {locs : List Loc} {cells slots : Nat} {Q : State → Prop} {la : Array Slot} {sv rest : List Value} {a : Array Value} {r0 : Int32}
    (hr : va_Run p l e R s m args below meth c H locs cells slots 0 0 (F0 m pc la sv) rest (jQ H r0 a) (fun _ => False)) (kk : W p l e R s m args below meth c H locs cells slots Q (F0 m (pc + 3) la (.int r0 :: rest))) : W p l e R s m args below meth c H locs cells slots Q (F0 m pc la sv) := by
  intro T hT X
  obtain ⟨v, st₀, t, T', L, h0, X', hL, e1, e2, ⟨⟨r, u, hv, hp, hb⟩, hz⟩, st⟩ := hr T hT X
  cases hv
  have hp : r = r0 := hp
  subst hp
  have hL0 : L = [] := by
    cases L with
    | nil => rfl
    | cons z L => exact (hL z List.mem_cons_self).elim
  subst hL0
  have hb : t.heap = H := hb
  rw [List.append_nil] at X'
  obtain ⟨t2, a1, b1⟩ := kk T' (by rw [e1]; exact hb) X'
  exact ⟨t2, st t2 a1, b1⟩
theorem vm_txt {a : Nat} (h : 2 ≤ a ∧ a < 10) : vm_v w (xA a) = .ref (vm_sa w (a - 2 + 2)) := by
  show vm_rv w a = _
  unfold vm_rv vm_ad
  rw [if_neg (by omega), if_neg (by omega), if_pos (by omega), show a - 2 + 2 = a by omega]
theorem vm_jpre {av : List Value} {p : Program} {R : Room} {s : State} {m : MethodId} {args : Array Value} {meth : Method} {c : Code} {H : Heap} (C : vm_C l w y fr p R s m args meth c) (hR : vm_R w M H) : ∀ U : State, U.heap = H → s.WarmedH U.vm → jP w H av av.toArray U := fun U hU hW => ⟨rfl, vm_K.moved hW (by rw [hU]; have := hR.1.1; omega) (fun q hq => by rw [hU]; exact hR.2.1 q hq) C.2.1, hU⟩
theorem vm_jrecv {i : Nat} (hi : i < 8) {p : Program} {R : Room} {s : State} {m : MethodId} {args : Array Value} {meth : Method} {c : Code} {H : Heap} (C : vm_C l w y fr p R s m args meth c) (hR : vm_R w M H) : ∃ cell : Cell, H[vm_sa w (i + 2)]? = some cell ∧ cell.vm.isStatics = false ∧ s.vm.findClass "java/lang/String" = some cell.cls := by
  obtain ⟨adV, hE⟩ := C.2.1.2.2.2.2.2.2.2.2.2.2.2.2.2.1
  obtain ⟨cell, h1, h2, h3, h4⟩ := (hE.1 i hi).1
  have hlt : vm_sa w (i + 2) < vm_base w := (Array.getElem?_eq_some_iff.mp h1).1
  exact ⟨cell, by rw [hR.2.1 _ hlt]; exact h1, h2, h3⟩
theorem v_sle {a idx : Nat} {f : Int → Option (α × mm_T)} (hd : vm_D y.2.1 pc 3 pc' (.invokevirtual idx)) (hL : Cond.methodLink y.1 idx yJ0_length_8abf5 ∈ gw_G) (hfr : 6 ≤ fr) (hs8 : (st.map vm_ct).sum ≤ 8) (kk : ∀ x : Int, V_ l w y fr ex pc' ls (xI x :: st) M (f x)) : V_ l w y fr ex pc ls (xA a :: st) M (tl_ a f) := by
  obtain ⟨hd, rfl⟩ := hd
  intro r M' hk
  unfold tl_ at hk
  split at hk
  case isFalse => cases hk
  case isTrue ht =>
    have hi : a - 2 < 8 := by omega
    have h100 := (jl_1 _ hi).2.2
    refine V_.go (st := xA a :: st) (kk _) (fun h1 h2 h3 => ⟨h1, List.forall_mem_cons.mpr ⟨(show mm_in _ from ⟨by omega, by omega⟩), fun v hv => h2 v (List.mem_cons_of_mem _ hv)⟩⟩) ?_ r M' hk
    intro _ _ _ p e R s m args below meth c0 H locs cells slots Q la hc hs C hR hl2 K
    obtain ⟨⟨cx, cb, cm, cown, chts⟩, -, cf, cl2, -⟩ := id C
    rw [List.map_cons, vm_txt ht]
    exact vm_afterJ (va_runV (As := []) (rest := st.map (vm_v w)) ⟨cx, cb, cm, cown, chts⟩ (j_length l w H hi) (cwV 0 chts (gw_inA (a := [_, _, _, _]) (fun v hv => by
      rcases List.mem_cons.mp hv with e | hv
      · rw [e]; exact hL
      rcases List.mem_cons.mp hv with e | hv
      · rw [e]; exact jw_686
      rcases List.mem_cons.mp hv with e | hv
      · rw [e]; exact jw_687
      rw [List.mem_singleton.mp hv]; exact jw_122) jw_688) rfl rfl rfl (by decide +kernel) ⟨by show 1 + 1 ≤ _; omega, by show 8 + (1 + 11) + 64 ≤ _; omega⟩) ⟨jP_blind, vm_jrecv hi C hR, vm_jpre C hR⟩ rfl rfl hl2.1 rfl (lv_room (by rw [vm_sum]; exact hs8)) hd ⟨hc, hs⟩) (K la hl2)
theorem v_sch {a idx : Nat} {i : Int} {f : Int → Option (α × mm_T)} (hd : vm_D y.2.1 pc 3 pc' (.invokevirtual idx)) (hL : Cond.methodLink y.1 idx yJ0_charAt_5068e ∈ gw_G) (hfr : 6 ≤ fr) (hs8 : (st.map vm_ct).sum ≤ 8) (kk : ∀ x : Int, V_ l w y fr ex pc' ls (xI x :: st) M (f x)) : V_ l w y fr ex pc ls (xI i :: xA a :: st) M (tc_ a i f) := by
  obtain ⟨hd, rfl⟩ := hd
  intro r M' hk
  unfold tc_ at hk
  split at hk
  case isFalse => cases hk
  case isTrue ht =>
    obtain ⟨t1, t2, t3, t4⟩ := ht
    have hi : a - 2 < 8 := by omega
    have hl9 := (jl_1 _ hi).2.1
    have hl10 := jl_3 _ hi
    have hk9 : i.toNat < vm_sl.getD (a - 2) 0 := by omega
    have hb9 := jl_4 _ hi i.toNat (by omega)
    refine V_.go (st := xI i :: xA a :: st) (kk _) (fun h1 h2 h3 => ⟨h1, List.forall_mem_cons.mpr ⟨(show mm_in _ from ⟨by omega, by omega⟩), fun v hv => h2 v (List.mem_cons_of_mem _ (List.mem_cons_of_mem _ hv))⟩⟩) ?_ r M' hk
    intro _ _ _ p e R s m args below meth c0 H locs cells slots Q la hc hs C hR hl2 K
    obtain ⟨⟨cx, cb, cm, cown, chts⟩, -, cf, cl2, -⟩ := id C
    have ei : vm_v w (xI i) = .int (Int32.ofInt ((i.toNat : Nat) : Int)) := by
      show Value.int (Int32.ofInt i) = _
      rw [Int.toNat_of_nonneg t3]
    rw [List.map_cons, List.map_cons, vm_txt ⟨t1, t2⟩, ei]
    exact vm_afterJ (va_runV (As := [.int (Int32.ofInt ((i.toNat : Nat) : Int))]) (rest := st.map (vm_v w)) ⟨cx, cb, cm, cown, chts⟩ (j_charAt l w H hi hk9) (cwV 1 chts (gw_inA (a := [_, _, _, _]) (fun v hv => by
      rcases List.mem_cons.mp hv with e | hv
      · rw [e]; exact hL
      rcases List.mem_cons.mp hv with e | hv
      · rw [e]; exact jw_696
      rcases List.mem_cons.mp hv with e | hv
      · rw [e]; exact jw_697
      rw [List.mem_singleton.mp hv]; exact jw_122) jw_698) rfl rfl rfl (by decide +kernel) ⟨by show 3 + 1 ≤ _; omega, by show 8 + (2 + 11) + 192 ≤ _; omega⟩) ⟨jP_blind, vm_jrecv hi C hR, vm_jpre C hR⟩ rfl rfl hl2.1 rfl (lv_room (by rw [vm_sum]; exact hs8)) hd ⟨hc, hs⟩) (K la hl2)
/-- the script's contents -/
def vm_xz (w : vm_W) : Nat → Int := fun j => (vm_xs w j).toInt
theorem v_sln {f : Int → Option (α × mm_T)} (hd : vm_D y.2.1 pc 1 pc' .arraylength) (kk : ∀ x : Int, V_ l w y fr ex pc' ls (xI x :: st) M (f x)) (hL : vm_L w < 2147483648) : V_ l w y fr ex pc ls (xA 1 :: st) M (sn_ (vm_L w) f) := by
  obtain ⟨hd, rfl⟩ := hd
  refine V_.go (st := xA 1 :: st) (kk (vm_L w : Int)) (fun h1 h2 h3 => ⟨h1, List.forall_mem_cons.mpr ⟨(show mm_in _ from ⟨by omega, by omega⟩), fun v hv => h2 v (List.mem_cons_of_mem _ hv)⟩⟩) ?_
  intro _ _ _ p e R s m args below meth c0 H locs cells slots Q la _ _ C hR hl2 K
  obtain ⟨scr, h1, h2, h3, h4, h5⟩ := C.2.1.2.2.2.1
  have hb := C.2.1.2.2.2.2.1
  have e0 : vm_v w (xA 1) = .ref (vm_b w) := rfl
  rw [List.map_cons, e0]
  refine W.alen (n := Int32.ofInt (vm_L w : Int)) C.1.1 C.1.2.1 (by rw [hR.2.1 _ hb]; exact h1) h2 ?_ rfl rfl hd (K la hl2)
  rw [h4]
  rfl
theorem v_sld {i : Int} {f : Int → Option (α × mm_T)} (hd : vm_D y.2.1 pc 1 pc' .iaload) (kk : ∀ x : Int, V_ l w y fr ex pc' ls (xI x :: st) M (f x)) (hL : vm_L w < 2147483648) : V_ l w y fr ex pc ls (xI i :: xA 1 :: st) M (sl_ (vm_L w) (vm_xz w) i f) := by
  obtain ⟨hd, rfl⟩ := hd
  intro r M' hk
  unfold sl_ at hk
  split at hk
  case isFalse => cases hk
  case isTrue ht =>
    refine V_.go (st := xI i :: xA 1 :: st) (kk (vm_xz w i.toNat)) (fun h1 h2 h3 => ⟨h1, List.forall_mem_cons.mpr ⟨mm_in_32 _, fun v hv => h2 v (List.mem_cons_of_mem _ (List.mem_cons_of_mem _ hv))⟩⟩) ?_ r M' hk
    intro _ _ _ p e R s m args below meth c0 H locs cells slots Q la _ _ C hR hl2 K
    obtain ⟨scr, h1, h2, h3, h4, h5⟩ := C.2.1.2.2.2.1
    have hb := C.2.1.2.2.2.2.1
    obtain ⟨x1, x2⟩ := mm_idx ht.1 ht.2 hL
    have e0 : vm_v w (xA 1) = .ref (vm_b w) := rfl
    rw [List.map_cons, List.map_cons, e0]
    refine W.iald (v := vm_v w (xI (vm_xz w i.toNat))) C.1.1 C.1.2.1 (by rw [hR.2.1 _ hb]; exact h1) h2 h3 (by rw [h4]; exact x1) ?_ rfl rfl hd (K la hl2)
    rw [x2, h5 _ (by omega)]
    show some (Value.int (vm_xs w i.toNat)) = some (Value.int (Int32.ofInt (vm_xs w i.toNat).toInt))
    rw [Int32.ofInt_toInt]
end STR2
