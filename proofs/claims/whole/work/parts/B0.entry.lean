/-! THE LAW AT ITS ENTRY: what the tables and the start give. -/
/-! the terms of the texts, as the two pools name them -/
def ws_ix : List Nat := [39, 105, 128, 130, 132, 113, 118, 123]
def ws_iy : List Nat := [118, 120, 122, 124, 126, 128, 130, 132]
def ws_t (i : Nat) : Term := Term.string "RepeatFree$Reader" (ws_ix.getD i 0)
def ws_u (i : Nat) : Term := Term.string "RepeatFreeModel" (ws_iy.getD i 0)
def ws_N : List Cond := flatC (Jvm.Cond.and given_1 narrow_1)
theorem ws_1 : ∀ i, i < 8 → Cond.exactly (ws_t i) "java/lang/String" ∈ ws_N := by decide +kernel
theorem ws_2 : ∀ i, i < 8 → Cond.eq (.field (ws_t i) "java/lang/String" "coder" "B") (.int 0) ∈ ws_N := by decide +kernel
theorem ws_3 : ∀ i, i < 8 → Cond.arrayOf (.field (ws_t i) "java/lang/String" "value" "[B") .byte ∈ ws_N := by decide +kernel
theorem ws_4 : ∀ i, i < 8 → Cond.eq (.length (.field (ws_t i) "java/lang/String" "value" "[B")) (.int (Int32.ofNat (vm_sl.getD i 0))) ∈ ws_N := by decide +kernel
theorem ws_5 : ∀ i, i < 8 → ∀ j, j < vm_sl.getD i 0 → Cond.eq (.elem (.field (ws_t i) "java/lang/String" "value" "[B") (.int (Int32.ofNat j))) (.int ((vm_sb.getD i []).getD j 0)) ∈ ws_N := by decide +kernel
theorem ws_6 : ∀ i, i < 8 → ∀ j, j < 8 → i ≠ j → Cond.not (Cond.eq (ws_t i) (ws_t j)) ∈ ws_N ∨ Cond.not (Cond.eq (ws_t j) (ws_t i)) ∈ ws_N := by decide +kernel
theorem ws_7 : ∀ i, i < 8 → Cond.eq (ws_t i) (ws_u i) ∈ ws_N := by decide +kernel
theorem ws_8 : ∀ q ∈ vm_nc, Cond.not (.castable q.1 q.2) ∈ ws_N := by decide +kernel
theorem ws_9 : ∀ q ∈ vm_sr, Cond.stringRef q.1 q.2.1 (vm_st.getD q.2.2 "") ∈ lw_tbl := by decide +kernel
theorem ws_10 : ∀ q ∈ vm_cl, Cond.instantiable q.1 q.2.2 ∈ lw_tbl := by decide +kernel
theorem ws_11 : ∀ i, i < 8 → vm_sl.getD i 0 < 2 ^ 31 := by decide +kernel
theorem ws_G {v : Cond} (h : v ∈ gw_G) : v ∈ lw_tbl := (List.mem_filter.mp h).1
section WS
variable {s : State} {b : Nat}
theorem ws_ar {t : FieldType} {cA : ClassId} {kA : Class} {comp : ClassId} (h1 : s.vm.classes[cA]? = some kA) (h2 : kA.kind = .array comp t) : ArrOfT s cA t := fun N z => ⟨(fun k h => by cases h), kA, h1, comp, h2⟩
theorem ws_at (hts : ∀ w ∈ lw_tbl, w.before #[Value.ref b] s = true) : ∀ t : Nat, ∃ cA : ClassId, ∀ ty, vm_at[t]? = some ty → ArrOfT s cA ty ∧ va_RA s cA ty := by
  intro t
  match t with
  | 0 =>
    obtain ⟨cA, kA, comp, h1, h2, h3⟩ := Cond.arrayClass_spec (hts (.arrayClass .int) (ws_G gw_164))
    exact ⟨cA, fun ty e => by cases e; exact ⟨ws_ar h2 h3, h1⟩⟩
  | 1 =>
    obtain ⟨cA, kA, comp, h1, h2, h3⟩ := Cond.arrayClass_spec (hts (.arrayClass .byte) (ws_G gw_895))
    exact ⟨cA, fun ty e => by cases e; exact ⟨ws_ar h2 h3, h1⟩⟩
  | 2 =>
    obtain ⟨cA, kA, comp, h1, h2, h3⟩ := Cond.arrayClass_spec (hts (.arrayClass .boolean) (ws_G gw_1476))
    exact ⟨cA, fun ty e => by cases e; exact ⟨ws_ar h2 h3, h1⟩⟩
  | 3 =>
    obtain ⟨cA, kA, comp, h1, h2, h3⟩ := Cond.arrayClass_spec (hts (.arrayClass .long) (ws_G gw_424))
    exact ⟨cA, fun ty e => by cases e; exact ⟨ws_ar h2 h3, h1⟩⟩
  | 4 =>
    obtain ⟨comp, cA, kA, h1, -, h3, h4, h5⟩ := Jvm.Stand.arrayOver_specB (hts (.arrayOver (.array .int)) (by decide +kernel))
    exact ⟨cA, fun ty e => by cases e; exact ⟨ws_ar h3 h4, h5⟩⟩
  | 5 =>
    obtain ⟨comp, cA, kA, h1, -, h3, h4, h5⟩ := Jvm.Stand.arrayOver_specB (hts (.arrayOver (.array .long)) (by decide +kernel))
    exact ⟨cA, fun ty e => by cases e; exact ⟨ws_ar h3 h4, h5⟩⟩
  | 6 =>
    obtain ⟨comp, cA, kA, h1, -, h3, h4, h5⟩ := Cond.arrayOver_spec (hts (.arrayOver (.object RX2)) (by decide +kernel))
    exact ⟨cA, fun ty e => by cases e; exact ⟨ws_ar h3 h4, kA, comp, h3, h4, h1, h5⟩⟩
  | 7 =>
    obtain ⟨comp, cA, kA, h1, -, h3, h4, h5⟩ := Cond.arrayOver_spec (hts (.arrayOver (.object RX6)) (by decide +kernel))
    exact ⟨cA, fun ty e => by cases e; exact ⟨ws_ar h3 h4, kA, comp, h3, h4, h1, h5⟩⟩
  | t + 8 => exact ⟨0, fun ty e => by simp [vm_at] at e⟩
theorem ws_cl (hts : ∀ w ∈ lw_tbl, w.before #[Value.ref b] s = true) : ∀ k : Nat, ∃ p : ClassId × (Nat → Nat), ∀ q, vm_cl[k]? = some q → u_Kn s q.1 q.2.1 q.2.2 p.1 p.2 := by
  intro k
  cases hk : vm_cl[k]? with
  | none => exact ⟨(0, fun _ => 0), fun q e => by cases e⟩
  | some q =>
    obtain ⟨cC, iS, h⟩ := u_known (C := q.1) (T := q.2.1) (N := q.2.2) (n := q.2.2) hts (fun v hv => ws_G ((vm_cl_ok k q hk).1 v hv)) (hts _ (ws_10 q (List.mem_of_getElem? hk)))
    exact ⟨(cC, iS), fun q' e => by cases e; exact h⟩
/-! what is known at the law's entry -/
theorem ws_K {L : Nat} {xs : Nat → Int32} (hts : ∀ w ∈ lw_tbl, w.before #[Value.ref b] s = true) (hgv : (Jvm.Cond.and given_1 narrow_1).before #[Value.ref b] s = true) (hX : va_X b L xs s s.heap) (hbl : b < s.heap.size) :
    ∃ (dC : Nat → ClassId) (dI : Nat → Nat → Nat) (cA : Nat → ClassId) (sa : Nat → Nat), vm_K ((dC, dI, cA), (b, L, xs), s.heap, sa) s := by
  have hs : ∀ c ∈ ws_N, c.before #[Value.ref b] s = true := flat_of_before _ hgv
  have hA : ∀ a : Nat, a < s.heap.size → ¬ s.heap.size ≤ a := fun a h => Nat.not_le.mpr h
  obtain ⟨fc, hfc⟩ := Classical.axiomOfChoice (ws_cl hts)
  obtain ⟨fa, hfa⟩ := Classical.axiomOfChoice (ws_at hts)
  obtain ⟨adK, adV, hS, hE⟩ := vk_Sof (args := #[Value.ref b]) (s := s) (N := 8) (tm := ws_t) (len := vm_sl) (byt := vm_sb) (A := fun q => s.heap.size ≤ q) ws_11 (fun i hi => hs _ (ws_1 i hi)) (fun i hi => hs _ (ws_2 i hi)) (fun i hi => hs _ (ws_3 i hi)) (fun i hi => hs _ (ws_4 i hi)) (fun i hi j hj => hs _ (ws_5 i hi j hj))
    (fun i j hi hj hne => (ws_6 i hi j hj hne).elim (fun h => Or.inl (hs _ h)) (fun h => Or.inr (hs _ h))) hA
  have hU : ∀ i : Nat, i < 8 → (ws_u i).eval #[Value.ref b] s none [] s = some (.ref (adK i)) := fun i hi => va_eqR (hs _ (ws_7 i hi)) (hE i hi)
  refine ⟨fun k => (fc k).1, fun k => (fc k).2, fa, fun k => adK (k - 2), hfc, hfa, fun v hv => ?_, hX, hbl, ⟨Nat.le_refl _, fun q _ => rfl⟩, ?_, ?_, va_AO.of (hts (.arrayOver (.object RX2)) (by decide +kernel)), va_AO.of (hts (.arrayOver (.object RX6)) (by decide +kernel)), hts (.arrayOver (.array .int)) (by decide +kernel), hts (.arrayOver (.array .long)) (by decide +kernel), fun q hq => va_Nc.of (hs _ (ws_8 q hq)), ⟨adV, ?_⟩, fun q hq => vk_R.of (hts _ (ws_9 q hq)) ?_, ?_, ?_⟩
  · have hv1 := (List.mem_filter.mp hv).1
    have hv2 := (List.mem_filter.mp hv).2
    have hv3 := hts v hv1
    refine va_Nw.of ?_ hv3
    cases v <;> first | rfl | (simp [vm_xw] at hv2; done)
  · exact vx_Zqof (args := #[Value.ref b]) (hts _ (by decide +kernel)) (hts _ (by decide +kernel)) (hs _ (by decide +kernel)) hA
  · exact vx_Zqof (args := #[Value.ref b]) (hts _ (by decide +kernel)) (hts _ (by decide +kernel)) (hs _ (by decide +kernel)) hA
  · have e : (fun i => vm_sa ((fun k => (fc k).1, fun k => (fc k).2, fa), (b, L, xs), s.heap, fun k => adK (k - 2)) (i + 2)) = adK := funext fun i => by
      show adK (i + 2 - 2) = adK i
      rw [Nat.add_sub_cancel]
    rw [e]
    exact hS
  · simp only [vm_sr, List.mem_cons, List.not_mem_nil, or_false] at hq
    rcases hq with rfl | rfl | rfl | rfl | rfl | rfl | rfl | rfl | rfl | rfl | rfl | rfl | rfl | rfl | rfl | rfl
    · exact hE 0 (by decide)
    · exact hE 1 (by decide)
    · exact hE 2 (by decide)
    · exact hE 3 (by decide)
    · exact hE 4 (by decide)
    · exact hE 5 (by decide)
    · exact hE 6 (by decide)
    · exact hE 7 (by decide)
    · exact hU 0 (by decide)
    · exact hU 1 (by decide)
    · exact hU 2 (by decide)
    · exact hU 3 (by decide)
    · exact hU 4 (by decide)
    · exact hU 5 (by decide)
    · exact hU 6 (by decide)
    · exact hU 7 (by decide)
  · exact va_Zof (args := #[Value.ref b]) (hts _ (by decide +kernel)) (hts _ (by decide +kernel)) (va_eqt (hs _ (by decide +kernel))) hA
  · exact va_Zqof (args := #[Value.ref b]) (hts _ (by decide +kernel)) (hts _ (by decide +kernel)) (hs _ (by decide +kernel)) hA
end WS
