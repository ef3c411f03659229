section NEWROWS
variable {α : Type} {l : Launch} {w : vm_W} {y : vm_Y} {fr : Nat} {ex : α → vm_O} {pc pc' tgt : Nat} {ls ls' : List (Nat × vm_X)} {st st' : List vm_X} {M M1 : mm_T} {k k1 k2 : Option (α × mm_T)}
/-- cells come to the end of the heap: those before stay as they are -/
theorem vm_R_grow {H H1 : Heap} {n : Nat} (hR : vm_R w M H) (hx : mm_ce M = mm_nc M) (e1 : mm_nc M1 = mm_nc M + n) (e2 : mm_ce M1 = mm_ce M + n) (z : H1.size = H.size + n) (o : ∀ x, x < H.size → H1[x]? = H[x]?)
    (hty : ∀ b, b < 20 + mm_nc M → mm_ty M1 b = mm_ty M b) (hI : ∀ b, b < 20 + mm_nc M → mm_I M1 b = mm_I M b) (hJ : ∀ b, b < 20 + mm_nc M → mm_J M1 b = mm_J M b) (hRr : ∀ b, b < 20 + mm_nc M → mm_R M1 b = mm_R M b)
    (hout : ∀ b, 20 + mm_nc M + n ≤ b → mm_ty M1 b = mm_ty M b) (hE : ∀ b, 20 + mm_nc M ≤ b → b < 20 + mm_nc M + n → vm_E w M1 b H1) : vm_R w M1 H1 := by
  obtain ⟨⟨r1, r2, r5⟩, r3, r4⟩ := hR
  have hs := r2 hx
  refine ⟨⟨by rw [e1, z]; omega, fun _ => by rw [e1, z]; omega, by rw [e1, e2]; omega⟩, fun q hq => ?_, fun b => ?_⟩
  · rw [o q (by omega)]
    exact r3 q hq
  · by_cases hb : b < 20 + mm_nc M
    · have h4 := r4 b
      unfold vm_E at h4 ⊢
      rw [hty b hb]
      split at h4
      · next c hc =>
        intro q hq
        obtain ⟨g1, g2, g3⟩ := h4 q hq
        refine ⟨g1, by rw [e1]; omega, ?_⟩
        have e3 : vm_fv w M1 c b = vm_fv w M c b := by
          funext j
          unfold vm_fv
          rw [hI b hb, hRr b hb]
        rw [e3]
        exact g3.kept (o _ (by rw [vm_ad_eq w g1]; omega))
      · next t n hc =>
        obtain ⟨g1, g2, g3, g5, g4⟩ := h4
        refine ⟨g1, by rw [e1]; omega, g3, g5, ?_⟩
        have e3 : vm_av w M1 t b = vm_av w M t b := by
          funext j
          unfold vm_av
          rw [hI b hb, hJ b hb, hRr b hb]
        rw [e3, o _ (by rw [vm_ad_eq w g1]; omega)]
        exact g4
    · by_cases hb2 : b < 20 + mm_nc M + n
      · exact hE b (by omega) hb2
      · have h4 := r4 b
        unfold vm_E at h4 ⊢
        rw [hout b (by omega)]
        split at h4
        · next c hc =>
          intro q hq
          obtain ⟨g1, g2, g3⟩ := h4 q hq
          omega
        · next t n hc =>
          obtain ⟨g1, g2, -⟩ := h4
          omega
theorem mm_row_ne {β : Type} {f : Nat → β} {a b : Nat} {x : β} (h : b ≠ a) : mm_row f a x b = f b := if_neg h
theorem mm_row_eq {β : Type} {f : Nat → β} {a : Nat} {x : β} : mm_row f a x a = x := if_pos rfl
theorem mm_ok_new {kd : mm_K} {n : Nat} (h : mm_ok M) : mm_ok (mm_new M kd n) := by
  intro b i
  show mm_in (mm_row (mm_I M) (20 + M.1.1) (fun _ => 0) b i)
  unfold mm_row
  split
  · exact mm_0
  · exact h b i
theorem v_new {c n idx : Nat} {q : vw_C} {f : Nat → mm_T → Option (α × mm_T)} (hd : vm_D y.2.1 pc 3 pc' (.new idx)) (hq : vm_cl[c]? = some q) (hn : q.2.2 = n) (h1 : Cond.classLink y.1 idx q.1 ∈ gw_G) (h2 : Cond.instantiable q.1 n ∈ gw_G) (h3 : Cond.initialized q.1 ∈ gw_G)
    (hdf : ∀ j, j < n → ∀ ty, parseFieldDescriptor (q.2.1 j).2.2.1 = some ty → defaultValue ty = (if vm_fr c j = true then .null else .int 0)) (kk : ∀ (a : Nat) (M1 : mm_T), V_ l w y fr ex pc' ls (xA a :: st) M1 (f a M1)) : V_ l w y fr ex pc ls st M (nw_ M c n f) := by
  obtain ⟨hd, rfl⟩ := hd
  intro r M' hk
  unfold nw_ at hk
  split at hk
  case isFalse => cases hk
  case isTrue hx =>
    refine V_.goM (M := M) (M1 := mm_new M (.inl c) n) (dc := 1) (ds := n) (kk _ _) rfl rfl (fun h1 h2 h3 => ⟨h1, List.forall_mem_cons.mpr ⟨trivial, h2⟩, mm_ok_new h3⟩) ?_ r M' hk
    intro _ _ _ p e R s m args below meth c0 H locs cells slots Q la hcl hsl C hR hl2 K
    obtain ⟨hin, ty0, hty0, hnm⟩ := vm_cl_ok c q hq
    obtain ⟨⟨cx, cb, cm, cown, chts⟩, ⟨cK, -⟩, -⟩ := C
    have hKn := cK c q hq
    have hsz := hR.1.2.1 hx
    subst hn
    refine W.newcK cx cb cown (chts _ h1) (chts _ h2) (chts _ h3) rfl hd hcl hsl hKn.2.1 rfl fun H1 kC hkC e1 z1 o1 => ?_
    have ead : vm_ad w (20 + mm_nc M) = H.size := by rw [vm_ad_eq w (by omega)]; omega
    have K2 := K H1 locs ?_ (by omega) (fun z hz => Or.inl hz) la hl2
    · rw [List.map_cons] at K2
      change W p l e R s m args below meth c0 H1 locs (cells + 1) (slots + q.2.2) Q (F0 m (pc + 3) la (vm_rv w (20 + mm_nc M) :: st.map (vm_v w))) at K2
      rw [vm_rv_n0 w (by omega), ead] at K2
      exact K2
    · refine vm_R_grow (n := 1) hR hx rfl rfl z1 o1 (fun b hb => mm_row_ne (show b ≠ 20 + mm_nc M by omega)) (fun b hb => mm_row_ne (show b ≠ 20 + mm_nc M by omega)) (fun b hb => mm_row_ne (show b ≠ 20 + mm_nc M by omega)) (fun b hb => mm_row_ne (show b ≠ 20 + mm_nc M by omega)) (fun b hb => mm_row_ne (show b ≠ 20 + mm_nc M by omega)) (fun b hb1 hb2 => ?_)
      have hb : b = 20 + mm_nc M := by omega
      subst hb
      unfold vm_E
      rw [show mm_ty (mm_new M (.inl c) q.2.2) (20 + mm_nc M) = .inl c from mm_row_eq]
      intro q' hq'
      have := Option.some.inj (hq'.symm.trans hq)
      subst this
      refine ⟨by omega, (show 20 + mm_nc M < 20 + (mm_nc M + 1) by omega), ?_⟩
      rw [ead]
      refine t_OB_cong (u_born ty0 chts hin hKn hkC e1 hty0) (fun j hj => ?_)
      rw [hdf j hj _ (hty0 j hj)]
      unfold vm_fv
      have eI : mm_I (mm_new M (.inl c) q'.2.2) (20 + mm_nc M) = fun _ => 0 := mm_row_eq
      have eR : mm_R (mm_new M (.inl c) q'.2.2) (20 + mm_nc M) = fun _ => 0 := mm_row_eq
      rw [eI, eR]
      rfl
theorem va_RA_find {U : State} {cA : ClassId} {ty : FieldType} (h : va_RA U cA ty) : U.vm.findClass ("[" ++ ty.toString) = some cA := by
  cases ty with
  | object C =>
    obtain ⟨kA, comp, h1, h2, h3, h4⟩ := h
    exact h4
  | _ => exact h
theorem vm_R_arr {H H1 : Heap} {t n : Nat} (hR : vm_R w M H) (hx : mm_ce M = mm_nc M) (ht : t < 8) (hn : n < 2147483648) (z : H1.size = H.size + 1) (o : ∀ x, x < H.size → H1[x]? = H[x]?) (e1 : H1[H.size]? = some (arrV (vm_cA w t) n (fun _ => if t < 3 then .int 0 else if t = 3 then .long 0 else .null))) : vm_R w (mm_new M (.inr (t, n)) n) H1 := by
  have hsz := hR.1.2.1 hx
  have ead : vm_ad w (20 + mm_nc M) = H.size := by rw [vm_ad_eq w (by omega)]; omega
  refine vm_R_grow (n := 1) hR hx rfl rfl z o (fun b hb => mm_row_ne (show b ≠ 20 + mm_nc M by omega)) (fun b hb => mm_row_ne (show b ≠ 20 + mm_nc M by omega)) (fun b hb => mm_row_ne (show b ≠ 20 + mm_nc M by omega)) (fun b hb => mm_row_ne (show b ≠ 20 + mm_nc M by omega)) (fun b hb => mm_row_ne (show b ≠ 20 + mm_nc M by omega)) (fun b hb1 hb2 => ?_)
  have hb : b = 20 + mm_nc M := by omega
  subst hb
  unfold vm_E
  rw [show mm_ty (mm_new M (.inr (t, n)) n) (20 + mm_nc M) = .inr (t, n) from mm_row_eq]
  refine ⟨by omega, (show 20 + mm_nc M < 20 + (mm_nc M + 1) by omega), hn, ht, ?_⟩
  rw [ead, e1]
  congr 2
  funext j
  unfold vm_av
  have eI : mm_I (mm_new M (.inr (t, n)) n) (20 + mm_nc M) = fun _ => 0 := mm_row_eq
  have eJ : mm_J (mm_new M (.inr (t, n)) n) (20 + mm_nc M) = fun _ => 0 := mm_row_eq
  have eR : mm_R (mm_new M (.inr (t, n)) n) (20 + mm_nc M) = fun _ => 0 := mm_row_eq
  rw [eI, eJ, eR]
  rfl
theorem v_newa {t : Nat} {n : Int} {atype : ArrayType} {f : Nat → mm_T → Option (α × mm_T)} (hd : vm_D y.2.1 pc 2 pc' (.newarray atype)) (ht : vm_at[t]? = some (newarray.typeOf atype)) (h1 : Cond.arrayClass (newarray.typeOf atype) ∈ gw_G) (hdf : defaultValue (newarray.typeOf atype) = (if t < 3 then .int 0 else if t = 3 then .long 0 else .null)) (hcb : componentBytes (newarray.typeOf atype) ≤ 8) (kk : ∀ (a : Nat) (M1 : mm_T), V_ l w y fr ex pc' ls (xA a :: st) M1 (f a M1)) : V_ l w y fr ex pc ls (xI n :: st) M (na_ M t n f) := by
  obtain ⟨hd, rfl⟩ := hd
  intro r M' hk
  unfold na_ at hk
  split at hk
  case isFalse => cases hk
  case isTrue hx =>
    obtain ⟨hx, n0, n1⟩ := hx
    have ht8 : t < 8 := (List.getElem?_eq_some_iff.mp ht).1
    refine V_.goM (st := xI n :: st) (M := M) (M1 := mm_new M (.inr (t, n.toNat)) n.toNat) (dc := 1) (ds := n.toNat) (kk _ _) rfl rfl (fun h1 h2 h3 => ⟨h1, List.forall_mem_cons.mpr ⟨trivial, fun v hv => h2 v (List.mem_cons_of_mem _ hv)⟩, mm_ok_new h3⟩) ?_ r M' hk
    intro _ _ _ p e R s m args below meth c0 H locs cells slots Q la hcl hsl C hR hl2 K
    obtain ⟨⟨cx, cb, cm, cown, chts⟩, ⟨cK, cA, -⟩, -⟩ := C
    have hi : mm_in n := by unfold mm_in; omega
    have e2 : (Int32.ofInt n).toNatClampNeg = n.toNat := by
      show (Int32.ofInt n).toInt.toNat = _
      rw [mm_of hi]
    have hn0 : ¬ Int32.ofInt n < 0 := fun h => by have := (mm_lt hi mm_0).mp h; omega
    have hsz := hR.1.2.1 hx
    have hmul : n.toNat * componentBytes (newarray.typeOf atype) ≤ 4096 * 8 := Nat.mul_le_mul (by omega) hcb
    refine W.newa cx cb (chts _ h1) rfl hd rfl hn0 (by rw [e2]; omega) hcl (by rw [e2]; exact hsl) fun cA' kA comp f1 f2 f3 => ?_
    have e3 : cA' = vm_cA w t := Option.some.inj (f1.symm.trans (va_RA_find (cA t _ ht).2))
    subst e3
    rw [e2]
    generalize hH1 : H.push ({ cls := vm_cA w t, slots := Array.replicate n.toNat (defaultValue (newarray.typeOf atype)), vm := .none } : Cell) = H1
    have z1 : H1.size = H.size + 1 := by rw [← hH1, Array.size_push]
    have e1 : H1[H.size]? = some (arrV (vm_cA w t) n.toNat (fun _ => defaultValue (newarray.typeOf atype))) := by rw [← hH1, Array.getElem?_push_size, ← arrV_new]
    have o1 : ∀ q : Nat, q < H.size → H1[q]? = H[q]? := fun q hq => by rw [← hH1, Array.getElem?_push, if_neg (Nat.ne_of_lt hq)]
    have ead : vm_ad w (20 + mm_nc M) = H.size := by rw [vm_ad_eq w (by omega)]; omega
    have K2 := K H1 locs (vm_R_arr hR hx ht8 (by omega) z1 o1 (by rw [e1, hdf])) (by omega) (fun z hz => Or.inl hz) la hl2
    rw [List.map_cons] at K2
    change W p l e R s m args below meth c0 H1 locs (cells + 1) (slots + n.toNat) Q (F0 m (pc + 2) la (vm_rv w (20 + mm_nc M) :: st.map (vm_v w))) at K2
    rw [vm_rv_n0 w (by omega), ead] at K2
    exact K2
theorem v_anew {t idx : Nat} {n : Int} {C0 : String} {f : Nat → mm_T → Option (α × mm_T)} (hd : vm_D y.2.1 pc 3 pc' (.anewarray idx)) (ht4 : 4 ≤ t) (ht : vm_at[t]? = some (.object C0)) (h1 : Cond.classLink y.1 idx C0 ∈ gw_G) (hC : C0 = RX2 ∨ C0 = RX6) (kk : ∀ (a : Nat) (M1 : mm_T), V_ l w y fr ex pc' ls (xA a :: st) M1 (f a M1)) : V_ l w y fr ex pc ls (xI n :: st) M (na_ M t n f) := by
  obtain ⟨hd, rfl⟩ := hd
  intro r M' hk
  unfold na_ at hk
  split at hk
  case isFalse => cases hk
  case isTrue hx =>
    obtain ⟨hx, n0, n1⟩ := hx
    have ht8 : t < 8 := (List.getElem?_eq_some_iff.mp ht).1
    refine V_.goM (st := xI n :: st) (M := M) (M1 := mm_new M (.inr (t, n.toNat)) n.toNat) (dc := 1) (ds := n.toNat) (kk _ _) rfl rfl (fun h1 h2 h3 => ⟨h1, List.forall_mem_cons.mpr ⟨trivial, fun v hv => h2 v (List.mem_cons_of_mem _ hv)⟩, mm_ok_new h3⟩) ?_ r M' hk
    intro _ _ _ p e R s m args below meth c0 H locs cells slots Q la hcl hsl C hR hl2 K
    obtain ⟨⟨cx, cb, cm, cown, chts⟩, ⟨cK, cA, -, -, -, -, -, -, cO2, cO6, -⟩, -⟩ := C
    have hi : mm_in n := by unfold mm_in; omega
    have e2 : (Int32.ofInt n).toNatClampNeg = n.toNat := by
      show (Int32.ofInt n).toInt.toNat = _
      rw [mm_of hi]
    have hn0 : ¬ Int32.ofInt n < 0 := fun h => by have := (mm_lt hi mm_0).mp h; omega
    have hsz := hR.1.2.1 hx
    have hover : (Cond.arrayOver (.object C0)).before args s = true := by
      rcases hC with rfl | rfl
      · exact cO2.use
      · exact cO6.use
    refine W.anew cx cb cown (chts _ h1) hover rfl hd rfl hn0 (by rw [e2]; omega) hcl (by rw [e2]; exact hsl) fun cA' kA comp f1 f2 f3 f4 => ?_
    have e3 : cA' = vm_cA w t := Option.some.inj (f1.symm.trans (va_RA_find (cA t _ ht).2))
    subst e3
    rw [e2]
    generalize hH1 : H.push ({ cls := vm_cA w t, slots := Array.replicate n.toNat .null, vm := .none } : Cell) = H1
    have z1 : H1.size = H.size + 1 := by rw [← hH1, Array.size_push]
    have e1 : H1[H.size]? = some (arrV (vm_cA w t) n.toNat (fun _ => .null)) := by rw [← hH1, Array.getElem?_push_size, ← arrV_new]
    have o1 : ∀ q : Nat, q < H.size → H1[q]? = H[q]? := fun q hq => by rw [← hH1, Array.getElem?_push, if_neg (Nat.ne_of_lt hq)]
    have ead : vm_ad w (20 + mm_nc M) = H.size := by rw [vm_ad_eq w (by omega)]; omega
    have K2 := K H1 locs (vm_R_arr hR hx ht8 (by omega) z1 o1 (by rw [e1, if_neg (by omega), if_neg (by omega)])) (by omega) (fun z hz => Or.inl hz) la hl2
    rw [List.map_cons] at K2
    change W p l e R s m args below meth c0 H1 locs (cells + 1) (slots + n.toNat) Q (F0 m (pc + 3) la (vm_rv w (20 + mm_nc M) :: st.map (vm_v w))) at K2
    rw [vm_rv_n0 w (by omega), ead] at K2
    exact K2
end NEWROWS
