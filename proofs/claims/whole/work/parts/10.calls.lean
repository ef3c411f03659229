section CALLROWS
variable {α : Type} {l : Launch} {w : vm_W} {y : vm_Y} {fr : Nat} {ex : α → vm_O} {pc pc' tgt : Nat} {ls ls' : List (Nat × vm_X)} {st st' : List vm_X} {M M1 : mm_T} {k k1 k2 : Option (α × mm_T)}
theorem v_mna {t u idx : Nat} {n k : Int} {ty : FieldType} {f : Nat → mm_T → Option (α × mm_T)} (hd : vm_D y.2.1 pc 4 pc' (.multianewarray idx 2)) (ht : vm_at[t]? = some (.array ty)) (hu : vm_at[u]? = some ty) (h4 : 4 ≤ t) (h1 : Cond.classLink y.1 idx ("[" ++ (FieldType.array ty).toString) ∈ gw_G) (h2 : Cond.arrayClass ty ∈ gw_G) (hty : ty = .int ∨ ty = .long)
    (hdf : defaultValue ty = (if u < 3 then .int 0 else if u = 3 then .long 0 else .null)) (kk : ∀ (a : Nat) (M1 : mm_T), V_ l w y fr ex pc' ls (xA a :: st) M1 (f a M1)) : V_ l w y fr ex pc ls (xI k :: xI n :: st) M (nm_ M t u n k f) := by
  obtain ⟨hd, rfl⟩ := hd
  intro r M' hk
  unfold nm_ at hk
  split at hk
  case isFalse => cases hk
  case isTrue hx =>
    obtain ⟨hx, n0, n1, k0, k1⟩ := hx
    have ht8 : t < 8 := (List.getElem?_eq_some_iff.mp ht).1
    have hu8 : u < 8 := (List.getElem?_eq_some_iff.mp hu).1
    refine V_.goM (st := xI k :: xI n :: st) (M := M) (M1 := mm_newm M t u n.toNat k.toNat) (dc := 1 + n.toNat) (ds := n.toNat + n.toNat * k.toNat) (kk _ _) (by show M.1.2.1 + 1 + n.toNat = M.1.2.1 + _; omega) (by show M.1.2.2 + n.toNat + _ = M.1.2.2 + _; omega) (fun h1 h2 h3 => ⟨h1, List.forall_mem_cons.mpr ⟨trivial, fun v hv => h2 v (List.mem_cons_of_mem _ (List.mem_cons_of_mem _ hv))⟩, fun b i => ?_⟩) ?_ r M' hk
    · show mm_in ((if _ then (fun _ => 0) else mm_I M b) i)
      split
      · exact mm_0
      · exact h3 b i
    intro _ _ _ p e R s m args below meth c0 H locs cells slots Q la hcl hsl C hR hl2 K
    obtain ⟨⟨cx, cb, cm, cown, chts⟩, ⟨cK, cA, -, -, -, -, -, -, -, -, cI, cL, -⟩, -⟩ := C
    have conv : ∀ x : Int, 0 ≤ x → x ≤ 4096 → (Int32.ofInt x).toNatClampNeg = x.toNat ∧ ¬ Int32.ofInt x < 0 := by
      intro x x0 x1
      have hi : mm_in x := by unfold mm_in; omega
      refine ⟨?_, fun h => by have := (mm_lt hi mm_0).mp h; omega⟩
      show (Int32.ofInt x).toInt.toNat = _
      rw [mm_of hi]
    obtain ⟨en, hn0⟩ := conv n n0 n1
    obtain ⟨ek, hk0⟩ := conv k k0 k1
    have hover : (Cond.arrayOver (.array ty)).before args s = true := by
      rcases hty with rfl | rfl
      · exact cI
      · exact cL
    have hcb : componentBytes ty ≤ 8 := by rcases hty with rfl | rfl <;> decide
    have hmul : k.toNat * componentBytes ty ≤ 4096 * 8 := Nat.mul_le_mul (by omega) hcb
    have hfit : fits ty (defaultValue ty) = true ∧ (defaultValue ty).isDefault = true := by rcases hty with rfl | rfl <;> exact ⟨rfl, rfl⟩
    have hsz := hR.1.2.1 hx
    intro T hT Xs
    obtain ⟨vm₁, cA', comp, -, fA, fC, hO, -, X', step⟩ := Xs.multianewarray2F (ty := ty) cx cown (chts _ h1) hover (chts _ h2) (g := F0 m pc la (.int (Int32.ofInt k) :: .int (Int32.ofInt n) :: st.map (vm_v w))) rfl (by rw [cb]; exact hd) rfl hn0 hk0 (by rw [en]; omega) (by rw [ek]; omega) (by rw [ek]; omega) hfit.1 hfit.2 (by rw [en]; omega) (by rw [en, ek]; omega)
    have e1 : cA' = vm_cA w t := Option.some.inj (fA.symm.trans (va_RA_find (cA t _ ht).2))
    have e2 : comp = vm_cA w u := Option.some.inj (fC.symm.trans (va_RA_find (cA u _ hu).2))
    subst e1
    subst e2
    rw [en, ek] at X' step
    generalize hF : Jvm.Free.Multi.fill (T.setVm vm₁) (vm_cA w t) (vm_cA w u) n.toNat k.toNat (defaultValue ty) n.toNat = F at X' step
    have hTh : (T.setVm vm₁).heap = H := hT
    obtain ⟨f1, f2, -, -⟩ := Jvm.Free.Multi.fill_facts (T.setVm vm₁) (vm_cA w t) (vm_cA w u) n.toNat k.toNat (defaultValue ty) n.toNat
    rw [hF, hTh] at f1 f2
    have hold : ∀ x : Nat, x < H.size → F.heap[x]? = H[x]? := fun x hx => by
      have := Jvm.Free.Multi.fill_old (T.setVm vm₁) (vm_cA w t) (vm_cA w u) n.toNat k.toNat (defaultValue ty) (a := x) (by rw [hTh]; exact hx) n.toNat
      rw [hF, hTh] at this
      exact this
    have hrow : ∀ j : Nat, j < n.toNat → F.heap[H.size + 1 + j]? = some (arrV (vm_cA w u) k.toNat (fun _ => defaultValue ty)) := fun j hj => by
      have := Jvm.Free.Multi.fill_inner (T.setVm vm₁) (vm_cA w t) (vm_cA w u) n.toNat k.toNat (defaultValue ty) n.toNat j hj
      rw [hF, hTh] at this
      rw [this, ← arrV_new]
      rfl
    rw [vr_outer] at f2
    have ead : vm_ad w (20 + mm_nc M) = H.size := by rw [vm_ad_eq w (by omega)]; omega
    have hRn : vm_R w (mm_newm M t u n.toNat k.toNat) F.heap := by
      refine vm_R_grow (n := 1 + n.toNat) hR hx (by show M.1.1 + 1 + n.toNat = M.1.1 + _; omega) (by show M.1.2.1 + 1 + n.toNat = M.1.2.1 + _; omega) (by omega) hold (fun b hb => ?_) (fun b hb => ?_) (fun b hb => ?_) (fun b hb => ?_) (fun b hb => ?_) (fun b hb1 hb2 => ?_)
      · show (if b = 20 + mm_nc M then _ else if 20 + mm_nc M < b ∧ b ≤ 20 + mm_nc M + n.toNat then _ else mm_ty M b) = _
        rw [if_neg (by omega), if_neg (by omega)]
      · show (if 20 + mm_nc M ≤ b ∧ b ≤ 20 + mm_nc M + n.toNat then _ else mm_I M b) = _
        rw [if_neg (by omega)]
      · show (if 20 + mm_nc M ≤ b ∧ b ≤ 20 + mm_nc M + n.toNat then _ else mm_J M b) = _
        rw [if_neg (by omega)]
      · show (if b = 20 + mm_nc M then _ else if 20 + mm_nc M < b ∧ b ≤ 20 + mm_nc M + n.toNat then _ else mm_R M b) = _
        rw [if_neg (by omega), if_neg (by omega)]
      · show (if b = 20 + mm_nc M then _ else if 20 + mm_nc M < b ∧ b ≤ 20 + mm_nc M + n.toNat then _ else mm_ty M b) = _
        rw [if_neg (by omega), if_neg (by omega)]
      · have eI : mm_I (mm_newm M t u n.toNat k.toNat) b = fun _ => 0 := by
          show (if 20 + mm_nc M ≤ b ∧ b ≤ 20 + mm_nc M + n.toNat then _ else mm_I M b) = _
          rw [if_pos (by omega)]
        have eJ : mm_J (mm_newm M t u n.toNat k.toNat) b = fun _ => 0 := by
          show (if 20 + mm_nc M ≤ b ∧ b ≤ 20 + mm_nc M + n.toNat then _ else mm_J M b) = _
          rw [if_pos (by omega)]
        have eN : mm_nc (mm_newm M t u n.toNat k.toNat) = mm_nc M + 1 + n.toNat := rfl
        unfold vm_E
        by_cases hb : b = 20 + mm_nc M
        · have eT : mm_ty (mm_newm M t u n.toNat k.toNat) b = .inr (t, n.toNat) := by
            show (if b = 20 + mm_nc M then _ else _) = _
            rw [if_pos hb]
          have eR : mm_R (mm_newm M t u n.toNat k.toNat) b = fun i => if i < n.toNat then 20 + mm_nc M + 1 + i else 0 := by
            show (if b = 20 + mm_nc M then _ else _) = _
            rw [if_pos hb]
            rfl
          rw [eT]
          refine ⟨by omega, by rw [eN]; omega, by omega, ht8, ?_⟩
          subst hb
          rw [ead, f2]
          congr 2
          funext j
          unfold vm_av
          have h3 : ¬ t < 3 := by omega
          have h5 : ¬ t = 3 := by omega
          rw [eR]
          simp only [h3, h5, if_false]
          by_cases hj : j < n.toNat
          · simp only [hj, if_true]
            rw [vm_rv_n0 w (by omega), vm_ad_eq w (by omega)]
            exact congrArg Value.ref (show H.size + 1 + j = vm_base w + (20 + mm_nc M + 1 + j - 20) by omega)
          · simp only [hj, if_false]
            rfl
        · have eT : mm_ty (mm_newm M t u n.toNat k.toNat) b = .inr (u, k.toNat) := by
            show (if b = 20 + mm_nc M then _ else if 20 + mm_nc M < b ∧ b ≤ 20 + mm_nc M + n.toNat then _ else mm_ty M b) = _
            rw [if_neg hb, if_pos (by omega)]
          have eR : mm_R (mm_newm M t u n.toNat k.toNat) b = fun _ => 0 := by
            show (if b = 20 + mm_nc M then _ else if 20 + mm_nc M < b ∧ b ≤ 20 + mm_nc M + n.toNat then _ else mm_R M b) = _
            rw [if_neg hb, if_pos (by omega)]
          rw [eT]
          refine ⟨by omega, by rw [eN]; omega, by omega, hu8, ?_⟩
          have e9 : vm_ad w b = H.size + 1 + (b - 21 - mm_nc M) := by rw [vm_ad_eq w (by omega)]; omega
          rw [e9, hrow _ (by omega)]
          congr 2
          funext j
          unfold vm_av
          rw [eI, eJ, eR, hdf]
          rfl
    have K2 := K F.heap locs hRn (by omega) (fun z hz => Or.inl hz) la hl2
    rw [List.map_cons] at K2
    change W p l e R s m args below meth c0 F.heap locs (cells + (1 + n.toNat)) (slots + (n.toNat + n.toNat * k.toNat)) Q (F0 m (pc + 4) la (vm_rv w (20 + mm_nc M) :: st.map (vm_v w))) at K2
    rw [vm_rv_n0 w (by omega), ead] at K2
    have X2 : Stand p l e R s m args below meth c0 F locs (cells + (1 + n.toNat)) (slots + (n.toNat + n.toNat * k.toNat)) := by
      have ea : cells + (1 + n.toNat) = cells + 1 + n.toNat := by omega
      have eb : slots + (n.toNat + n.toNat * k.toNat) = slots + n.toNat + n.toNat * k.toNat := by omega
      rw [ea, eb]
      exact X'
    obtain ⟨t9, a1, b1⟩ := K2 F rfl X2
    refine ⟨t9, step t9 ?_, b1⟩
    rw [show T.heap.size = H.size by rw [hT]]
    exact a1
end CALLROWS
