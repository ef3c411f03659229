theorem dJ0_coder_7d493_0 : decode cJ0_coder_7d493 0 = .ok (.getstatic 38, 3) := by decide +kernel
theorem dJ0_coder_7d493_3 : decode cJ0_coder_7d493 3 = .ok (.ifCond .eq 10, 3) := by decide +kernel
theorem dJ0_coder_7d493_6 : decode cJ0_coder_7d493 6 = .ok (.aload_n 0, 1) := by decide +kernel
theorem dJ0_coder_7d493_7 : decode cJ0_coder_7d493 7 = .ok (.getfield 15, 3) := by decide +kernel
theorem dJ0_coder_7d493_10 : decode cJ0_coder_7d493 10 = .ok (.goto 4, 3) := by decide +kernel
theorem dJ0_coder_7d493_13 : decode cJ0_coder_7d493 13 = .ok (.iconst 1, 1) := by decide +kernel
theorem dJ0_coder_7d493_14 : decode cJ0_coder_7d493 14 = .ok (.ireturn, 1) := by decide +kernel
theorem dJ0_isLatin1_aae02_0 : decode cJ0_isLatin1_aae02 0 = .ok (.getstatic 38, 3) := by decide +kernel
theorem dJ0_isLatin1_aae02_3 : decode cJ0_isLatin1_aae02 3 = .ok (.ifCond .eq 14, 3) := by decide +kernel
theorem dJ0_isLatin1_aae02_6 : decode cJ0_isLatin1_aae02 6 = .ok (.aload_n 0, 1) := by decide +kernel
theorem dJ0_isLatin1_aae02_7 : decode cJ0_isLatin1_aae02 7 = .ok (.getfield 15, 3) := by decide +kernel
theorem dJ0_isLatin1_aae02_10 : decode cJ0_isLatin1_aae02 10 = .ok (.ifCond .ne 7, 3) := by decide +kernel
theorem dJ0_isLatin1_aae02_13 : decode cJ0_isLatin1_aae02 13 = .ok (.iconst 1, 1) := by decide +kernel
theorem dJ0_isLatin1_aae02_14 : decode cJ0_isLatin1_aae02 14 = .ok (.goto 4, 3) := by decide +kernel
theorem dJ0_isLatin1_aae02_17 : decode cJ0_isLatin1_aae02 17 = .ok (.iconst 0, 1) := by decide +kernel
theorem dJ0_isLatin1_aae02_18 : decode cJ0_isLatin1_aae02 18 = .ok (.ireturn, 1) := by decide +kernel
theorem dJ0_length_8abf5_0 : decode cJ0_length_8abf5 0 = .ok (.aload_n 0, 1) := by decide +kernel
theorem dJ0_length_8abf5_1 : decode cJ0_length_8abf5 1 = .ok (.getfield 9, 3) := by decide +kernel
theorem dJ0_length_8abf5_4 : decode cJ0_length_8abf5 4 = .ok (.arraylength, 1) := by decide +kernel
theorem dJ0_length_8abf5_5 : decode cJ0_length_8abf5 5 = .ok (.aload_n 0, 1) := by decide +kernel
theorem dJ0_length_8abf5_6 : decode cJ0_length_8abf5 6 = .ok (.invokevirtual 335, 3) := by decide +kernel
theorem dJ0_length_8abf5_9 : decode cJ0_length_8abf5 9 = .ok (.ishr, 1) := by decide +kernel
theorem dJ0_length_8abf5_10 : decode cJ0_length_8abf5 10 = .ok (.ireturn, 1) := by decide +kernel
theorem dJ0_charAt_5068e_0 : decode cJ0_charAt_5068e 0 = .ok (.aload_n 0, 1) := by decide +kernel
theorem dJ0_charAt_5068e_1 : decode cJ0_charAt_5068e 1 = .ok (.invokevirtual 492, 3) := by decide +kernel
theorem dJ0_charAt_5068e_4 : decode cJ0_charAt_5068e 4 = .ok (.ifCond .eq 12, 3) := by decide +kernel
theorem dJ0_charAt_5068e_7 : decode cJ0_charAt_5068e 7 = .ok (.aload_n 0, 1) := by decide +kernel
theorem dJ0_charAt_5068e_8 : decode cJ0_charAt_5068e 8 = .ok (.getfield 9, 3) := by decide +kernel
theorem dJ0_charAt_5068e_11 : decode cJ0_charAt_5068e 11 = .ok (.iload_n 1, 1) := by decide +kernel
theorem dJ0_charAt_5068e_12 : decode cJ0_charAt_5068e 12 = .ok (.invokestatic 495, 3) := by decide +kernel
theorem dJ0_charAt_5068e_15 : decode cJ0_charAt_5068e 15 = .ok (.ireturn, 1) := by decide +kernel
theorem dJ0_charAt_5068e_16 : decode cJ0_charAt_5068e 16 = .ok (.aload_n 0, 1) := by decide +kernel
theorem dJ0_charAt_5068e_17 : decode cJ0_charAt_5068e 17 = .ok (.getfield 9, 3) := by decide +kernel
theorem dJ0_charAt_5068e_20 : decode cJ0_charAt_5068e 20 = .ok (.iload_n 1, 1) := by decide +kernel
theorem dJ0_charAt_5068e_21 : decode cJ0_charAt_5068e 21 = .ok (.invokestatic 498, 3) := by decide +kernel
theorem dJ0_charAt_5068e_24 : decode cJ0_charAt_5068e 24 = .ok (.ireturn, 1) := by decide +kernel
theorem dJ1_charAt_3b067_0 : decode cJ1_charAt_3b067 0 = .ok (.iload_n 1, 1) := by decide +kernel
theorem dJ1_charAt_3b067_1 : decode cJ1_charAt_3b067 1 = .ok (.aload_n 0, 1) := by decide +kernel
theorem dJ1_charAt_3b067_2 : decode cJ1_charAt_3b067 2 = .ok (.arraylength, 1) := by decide +kernel
theorem dJ1_charAt_3b067_3 : decode cJ1_charAt_3b067 3 = .ok (.invokestatic 9, 3) := by decide +kernel
theorem dJ1_charAt_3b067_6 : decode cJ1_charAt_3b067 6 = .ok (.aload_n 0, 1) := by decide +kernel
theorem dJ1_charAt_3b067_7 : decode cJ1_charAt_3b067 7 = .ok (.iload_n 1, 1) := by decide +kernel
theorem dJ1_charAt_3b067_8 : decode cJ1_charAt_3b067 8 = .ok (.baload, 1) := by decide +kernel
theorem dJ1_charAt_3b067_9 : decode cJ1_charAt_3b067 9 = .ok (.sipush 255, 3) := by decide +kernel
theorem dJ1_charAt_3b067_12 : decode cJ1_charAt_3b067 12 = .ok (.iand, 1) := by decide +kernel
theorem dJ1_charAt_3b067_13 : decode cJ1_charAt_3b067 13 = .ok (.i2c, 1) := by decide +kernel
theorem dJ1_charAt_3b067_14 : decode cJ1_charAt_3b067 14 = .ok (.ireturn, 1) := by decide +kernel
theorem dJ0_checkIndex_df160_0 : decode cJ0_checkIndex_df160 0 = .ok (.iload_n 0, 1) := by decide +kernel
theorem dJ0_checkIndex_df160_1 : decode cJ0_checkIndex_df160 1 = .ok (.iload_n 1, 1) := by decide +kernel
theorem dJ0_checkIndex_df160_2 : decode cJ0_checkIndex_df160 2 = .ok (.getstatic 1053, 3) := by decide +kernel
theorem dJ0_checkIndex_df160_5 : decode cJ0_checkIndex_df160 5 = .ok (.invokestatic 1059, 3) := by decide +kernel
theorem dJ0_checkIndex_df160_8 : decode cJ0_checkIndex_df160 8 = .ok (.pop, 1) := by decide +kernel
theorem dJ0_checkIndex_df160_9 : decode cJ0_checkIndex_df160 9 = .ok (.return_, 1) := by decide +kernel
theorem dJ3_checkIndex_8e157_0 : decode cJ3_checkIndex_8e157 0 = .ok (.iload_n 0, 1) := by decide +kernel
theorem dJ3_checkIndex_8e157_1 : decode cJ3_checkIndex_8e157 1 = .ok (.ifCond .lt 8, 3) := by decide +kernel
theorem dJ3_checkIndex_8e157_4 : decode cJ3_checkIndex_8e157 4 = .ok (.iload_n 0, 1) := by decide +kernel
theorem dJ3_checkIndex_8e157_5 : decode cJ3_checkIndex_8e157 5 = .ok (.iload_n 1, 1) := by decide +kernel
theorem dJ3_checkIndex_8e157_6 : decode cJ3_checkIndex_8e157 6 = .ok (.if_icmp .lt 10, 3) := by decide +kernel
theorem dJ3_checkIndex_8e157_9 : decode cJ3_checkIndex_8e157 9 = .ok (.aload_n 2, 1) := by decide +kernel
theorem dJ3_checkIndex_8e157_10 : decode cJ3_checkIndex_8e157 10 = .ok (.iload_n 0, 1) := by decide +kernel
theorem dJ3_checkIndex_8e157_11 : decode cJ3_checkIndex_8e157 11 = .ok (.iload_n 1, 1) := by decide +kernel
theorem dJ3_checkIndex_8e157_12 : decode cJ3_checkIndex_8e157 12 = .ok (.invokestatic 95, 3) := by decide +kernel
theorem dJ3_checkIndex_8e157_15 : decode cJ3_checkIndex_8e157 15 = .ok (.athrow, 1) := by decide +kernel
theorem dJ3_checkIndex_8e157_16 : decode cJ3_checkIndex_8e157 16 = .ok (.iload_n 0, 1) := by decide +kernel
theorem dJ3_checkIndex_8e157_17 : decode cJ3_checkIndex_8e157 17 = .ok (.ireturn, 1) := by decide +kernel
set_option maxRecDepth 100000 in
theorem jw_693 : Cond.fieldLink RJ0 38 "java/lang/String" "COMPACT_STRINGS" "Z" ∈ gw_G := gt_3 (i := 111) rfl rfl
set_option maxRecDepth 100000 in
theorem jw_1959 : Cond.fieldLink RJ0 15 "java/lang/String" "coder" "B" ∈ gw_G := gt_8 (i := 182) rfl rfl
set_option maxRecDepth 100000 in
theorem jw_1958 : Cond.fieldLink RJ0 9 "java/lang/String" "value" "[B" ∈ gw_G := gt_8 (i := 181) rfl rfl
set_option maxRecDepth 100000 in
theorem jw_689 : Cond.methodLink RJ0 335 yJ0_coder_7d493 ∈ gw_G := gt_3 (i := 107) rfl rfl
set_option maxRecDepth 100000 in
theorem jw_699 : Cond.methodLink RJ0 492 yJ0_isLatin1_aae02 ∈ gw_G := gt_3 (i := 117) rfl rfl
set_option maxRecDepth 100000 in
theorem jw_703 : Cond.methodLink RJ0 495 yJ1_charAt_3b067 ∈ gw_G := gt_3 (i := 121) rfl rfl
set_option maxRecDepth 100000 in
theorem jw_706 : Cond.methodLink RJ1 9 yJ0_checkIndex_df160 ∈ gw_G := gt_3 (i := 124) rfl rfl
set_option maxRecDepth 100000 in
theorem jw_711 : Cond.methodLink RJ0 1059 yJ3_checkIndex_8e157 ∈ gw_G := gt_3 (i := 129) rfl rfl
set_option maxRecDepth 100000 in
theorem jw_709 : Cond.fieldLink RJ0 1053 "jdk/internal/util/Preconditions" "SIOOBE_FORMATTER" "Ljava/util/function/BiFunction;" ∈ gw_G := gt_3 (i := 127) rfl rfl
set_option maxRecDepth 100000 in
theorem jw_704 : Cond.static yJ1_charAt_3b067 ∈ gw_G := gt_3 (i := 122) rfl rfl
set_option maxRecDepth 100000 in
theorem jw_707 : Cond.static yJ0_checkIndex_df160 ∈ gw_G := gt_3 (i := 125) rfl rfl
set_option maxRecDepth 100000 in
theorem jw_712 : Cond.static yJ3_checkIndex_8e157 ∈ gw_G := gt_3 (i := 130) rfl rfl
set_option maxRecDepth 100000 in
theorem jw_688 : Cond.code yJ0_length_8abf5 cJ0_length_8abf5 1 (some .int) ∈ gw_G := gt_3 (i := 106) rfl rfl
set_option maxRecDepth 100000 in
theorem jw_692 : Cond.code yJ0_coder_7d493 cJ0_coder_7d493 1 (some .byte) ∈ gw_G := gt_3 (i := 110) rfl rfl
set_option maxRecDepth 100000 in
theorem jw_698 : Cond.code yJ0_charAt_5068e cJ0_charAt_5068e 2 (some .char) ∈ gw_G := gt_3 (i := 116) rfl rfl
set_option maxRecDepth 100000 in
theorem jw_702 : Cond.code yJ0_isLatin1_aae02 cJ0_isLatin1_aae02 1 (some .boolean) ∈ gw_G := gt_3 (i := 120) rfl rfl
set_option maxRecDepth 100000 in
theorem jw_708 : Cond.code yJ0_checkIndex_df160 cJ0_checkIndex_df160 2 none ∈ gw_G := gt_3 (i := 126) rfl rfl
set_option maxRecDepth 100000 in
theorem jw_705 : Cond.code yJ1_charAt_3b067 cJ1_charAt_3b067 2 (some .char) ∈ gw_G := gt_3 (i := 123) rfl rfl
set_option maxRecDepth 100000 in
theorem jw_713 : Cond.code yJ3_checkIndex_8e157 cJ3_checkIndex_8e157 3 (some .int) ∈ gw_G := gt_3 (i := 131) rfl rfl
set_option maxRecDepth 100000 in
theorem jw_687 : Cond.selects RJ0 yJ0_length_8abf5 yJ0_length_8abf5 ∈ gw_G := gt_3 (i := 105) rfl rfl
set_option maxRecDepth 100000 in
theorem jw_691 : Cond.selects RJ0 yJ0_coder_7d493 yJ0_coder_7d493 ∈ gw_G := gt_3 (i := 109) rfl rfl
set_option maxRecDepth 100000 in
theorem jw_697 : Cond.selects RJ0 yJ0_charAt_5068e yJ0_charAt_5068e ∈ gw_G := gt_3 (i := 115) rfl rfl
set_option maxRecDepth 100000 in
theorem jw_701 : Cond.selects RJ0 yJ0_isLatin1_aae02 yJ0_isLatin1_aae02 ∈ gw_G := gt_3 (i := 119) rfl rfl
set_option maxRecDepth 100000 in
theorem jw_686 : Cond.instanceMethod yJ0_length_8abf5 ∈ gw_G := gt_3 (i := 104) rfl rfl
set_option maxRecDepth 100000 in
theorem jw_690 : Cond.instanceMethod yJ0_coder_7d493 ∈ gw_G := gt_3 (i := 108) rfl rfl
set_option maxRecDepth 100000 in
theorem jw_696 : Cond.instanceMethod yJ0_charAt_5068e ∈ gw_G := gt_3 (i := 114) rfl rfl
set_option maxRecDepth 100000 in
theorem jw_700 : Cond.instanceMethod yJ0_isLatin1_aae02 ∈ gw_G := gt_3 (i := 118) rfl rfl
set_option maxRecDepth 100000 in
theorem jw_122 : Cond.initialized RJ0 ∈ gw_G := gt_1 (i := 13) rfl rfl
set_option maxRecDepth 100000 in
theorem jw_123 : Cond.initialized RJ1 ∈ gw_G := gt_1 (i := 14) rfl rfl
set_option maxRecDepth 100000 in
theorem jw_124 : Cond.initialized RJ3 ∈ gw_G := gt_1 (i := 15) rfl rfl
/-- what a JDK member's body starts with -/
abbrev jr_0 : Room := { frames := 0, cells := 0, slots := 0, locals := 0 }
abbrev jr_1 : Room := { frames := 1, cells := 0, slots := 0, locals := 64 }
abbrev jr_2 : Room := { frames := 2, cells := 0, slots := 0, locals := 128 }
abbrev jr_3 : Room := { frames := 3, cells := 0, slots := 0, locals := 192 }
def jP (w : vm_W) (H : Heap) (av : List Value) : Array Value → State → Prop := va_Pc av (fun U => vm_K w U ∧ U.heap = H)
def jQ (H : Heap) (r0 : Int32) : Array Value → State → Outcome → State → Prop := va_Qi (fun (r : Int32) (_ : Unit) => r = r0) (fun _ t => t.heap = H) (fun _ => False)
def jV (H : Heap) : Array Value → State → Outcome → State → Prop := va_Qv (fun _ : Unit => True) (fun _ t => t.heap = H) (fun _ => False)
theorem jP_blind {w : vm_W} {H : Heap} {av : List Value} : FrameBlind (jP w H av) := by
  intro a U g mk h
  exact ⟨h.1, vm_K.moved (State.WarmedH.refl U) h.2.1.2.2.2.2.2.1.1 h.2.1.2.2.2.2.2.1.2 h.2.1, h.2.2⟩
theorem jK_kp {w : vm_W} {s : State} (hK : vm_K w s) : ∀ a : Nat, a < (vm_H0 w).size → ¬ (fun q => vm_base w ≤ q) a → s.heap[a]? = (vm_H0 w)[a]? := fun a ha _ => hK.2.2.2.2.2.1.2 a ha
theorem jK_S {w : vm_W} {s : State} (hK : vm_K w s) : ∃ adV : Nat → Nat, vk_S 8 vm_sl vm_sb (fun i => vm_sa w (i + 2)) adV (fun q => vm_base w ≤ q) s s.heap := by
  obtain ⟨adV, h⟩ := hK.2.2.2.2.2.2.2.2.2.2.2.2.2.1
  exact ⟨adV, h.kept (jK_kp hK)⟩
theorem jK_Z {w : vm_W} {s : State} (hK : vm_K w s) : va_Z "java/lang/String" "COMPACT_STRINGS" "Z" (.int 1) (fun q => vm_base w ≤ q) s s.heap := va_Z.kept hK.2.2.2.2.2.2.2.2.2.2.2.2.2.2.2.1 (jK_kp hK)
theorem jK_F {w : vm_W} {s : State} (hK : vm_K w s) : va_Zq "jdk/internal/util/Preconditions" "SIOOBE_FORMATTER" "Ljava/util/function/BiFunction;" (fun q => vm_base w ≤ q) s s.heap := va_Zq.kept hK.2.2.2.2.2.2.2.2.2.2.2.2.2.2.2.2 (jK_kp hK)
theorem jF {s t : State} {H : Heap} (hH : s.heap = H) (ht : t.heap = H) : va_F (fun _ => False) s t := ⟨by rw [ht, hH]; exact Nat.le_refl _, fun q _ _ => by rw [ht, hH]⟩
set_option maxHeartbeats 4000000 in
theorem j_coder (l : Launch) (w : vm_W) (H : Heap) {i : Nat} (hi : i < 8) : Met l yJ0_coder_7d493 (.code yJ0_coder_7d493 cJ0_coder_7d493 1 (some .byte) :: gw_G) jr_0 (jP w H [.ref (vm_sa w (i + 2))]) (jQ H 0) 0 0 (fun _ => False) := by
  refine Met.ofW (cc := cJ0_coder_7d493) (maxL := 1) (ret := (some .byte)) (by decide) rfl ?_
  intro p e s m args below meth c s₁ B hml hv
  obtain ⟨rfl, hK, hH⟩ := hv
  have hx := B.exec
  have hb := B.bytes
  have hr := B.returns
  have hlk := B.notSynchronized
  have hts0 := atoms_spec (ws := .code yJ0_coder_7d493 cJ0_coder_7d493 1 (some .byte) :: gw_G) B.pre
  have hts : ∀ v ∈ gw_G, v.before ([.ref (vm_sa w (i + 2))] : List Value).toArray s = true := fun v hv => hts0 v (List.mem_cons_of_mem _ hv)
  have hown : s.vm.findClass RJ0 = some m.cls := findClass_of_methodNamed B.named
  have hS : va_S (fun q => vm_base w ≤ q) s.heap s.heap [] := va_S.rf
  obtain ⟨adV, hE⟩ := jK_S hK
  have hl := lv_entry ([.ref (vm_sa w (i + 2))] : List Value) (n := 1) (Nat.le_of_ble_eq_true rfl)
  rw [lg_entry_eq]
  generalize (lg_sl ([.ref (vm_sa w (i + 2))] : List Value) ++ List.replicate (1 - (lg_sl ([.ref (vm_sa w (i + 2))] : List Value)).length) Slot.unset).toArray = ls at hl ⊢
  have hl : lv_has ls 1 [(0, .ref (vm_sa w (i + 2)))] := hl
  refine va_gets hx hb (jK_Z hK) hS hown (hts _ jw_693) (fun _ h => h) dJ0_coder_7d493_0 ?_
  refine lv_if_eq (tgt := 13) hx hb dJ0_coder_7d493_3 (by decide) (fun h => absurd h (by decide)) (fun _ => ?_)
  refine lv_aload_n hx hb dJ0_coder_7d493_6 rfl (lv_at hl 0 rfl) ?_
  refine vk_getf hx hb (hE.1 i hi).2.1 hS hown (hts _ jw_1959) (fun _ h => h) dJ0_coder_7d493_7 ?_
  refine lv_goto (tgt := 14) hx hb dJ0_coder_7d493_10 (by decide) ?_
  exact W.zret hx hb hr rfl (fun t ht _ => ⟨⟨0, (), rfl, rfl, by show t.heap = H; rw [ht]; exact hH⟩, jF hH (by rw [ht]; exact hH)⟩) (fun z hz => by cases hz) dJ0_coder_7d493_14 hlk
set_option maxHeartbeats 4000000 in
theorem j_isLatin1 (l : Launch) (w : vm_W) (H : Heap) {i : Nat} (hi : i < 8) : Met l yJ0_isLatin1_aae02 (.code yJ0_isLatin1_aae02 cJ0_isLatin1_aae02 1 (some .boolean) :: gw_G) jr_0 (jP w H [.ref (vm_sa w (i + 2))]) (jQ H 1) 0 0 (fun _ => False) := by
  refine Met.ofW (cc := cJ0_isLatin1_aae02) (maxL := 1) (ret := (some .boolean)) (by decide) rfl ?_
  intro p e s m args below meth c s₁ B hml hv
  obtain ⟨rfl, hK, hH⟩ := hv
  have hx := B.exec
  have hb := B.bytes
  have hr := B.returns
  have hlk := B.notSynchronized
  have hts0 := atoms_spec (ws := .code yJ0_isLatin1_aae02 cJ0_isLatin1_aae02 1 (some .boolean) :: gw_G) B.pre
  have hts : ∀ v ∈ gw_G, v.before ([.ref (vm_sa w (i + 2))] : List Value).toArray s = true := fun v hv => hts0 v (List.mem_cons_of_mem _ hv)
  have hown : s.vm.findClass RJ0 = some m.cls := findClass_of_methodNamed B.named
  have hS : va_S (fun q => vm_base w ≤ q) s.heap s.heap [] := va_S.rf
  obtain ⟨adV, hE⟩ := jK_S hK
  have hl := lv_entry ([.ref (vm_sa w (i + 2))] : List Value) (n := 1) (Nat.le_of_ble_eq_true rfl)
  rw [lg_entry_eq]
  generalize (lg_sl ([.ref (vm_sa w (i + 2))] : List Value) ++ List.replicate (1 - (lg_sl ([.ref (vm_sa w (i + 2))] : List Value)).length) Slot.unset).toArray = ls at hl ⊢
  have hl : lv_has ls 1 [(0, .ref (vm_sa w (i + 2)))] := hl
  refine va_gets hx hb (jK_Z hK) hS hown (hts _ jw_693) (fun _ h => h) dJ0_isLatin1_aae02_0 ?_
  refine lv_if_eq (tgt := 17) hx hb dJ0_isLatin1_aae02_3 (by decide) (fun h => absurd h (by decide)) (fun _ => ?_)
  refine lv_aload_n hx hb dJ0_isLatin1_aae02_6 rfl (lv_at hl 0 rfl) ?_
  refine vk_getf hx hb (hE.1 i hi).2.1 hS hown (hts _ jw_1959) (fun _ h => h) dJ0_isLatin1_aae02_7 ?_
  refine lv_if_ne (tgt := 17) hx hb dJ0_isLatin1_aae02_10 (by decide) (fun h => absurd rfl h) (fun _ => ?_)
  refine lv_iconst (v := 1) hx hb dJ0_isLatin1_aae02_13 (by decide) ?_
  refine lv_goto (tgt := 18) hx hb dJ0_isLatin1_aae02_14 (by decide) ?_
  exact W.zret hx hb hr rfl (fun t ht _ => ⟨⟨1, (), rfl, rfl, by show t.heap = H; rw [ht]; exact hH⟩, jF hH (by rw [ht]; exact hH)⟩) (fun z hz => by cases hz) dJ0_isLatin1_aae02_18 hlk
set_option maxHeartbeats 4000000 in
theorem j_pre (l : Launch) (w : vm_W) (H : Heap) {x n : Int32} {v3 : Value} (h0 : ¬ x < 0) (h1 : x < n) (h3 : v3 = .null ∨ ∃ a, v3 = .ref a) : Met l yJ3_checkIndex_8e157 (.code yJ3_checkIndex_8e157 cJ3_checkIndex_8e157 3 (some .int) :: gw_G) jr_0 (jP w H [.int x, .int n, v3]) (jQ H x) 0 0 (fun _ => False) := by
  refine Met.ofW (cc := cJ3_checkIndex_8e157) (maxL := 3) (ret := (some .int)) (by decide) rfl ?_
  intro p e s m args below meth c s₁ B hml hv
  obtain ⟨rfl, hK, hH⟩ := hv
  have hx := B.exec
  have hb := B.bytes
  have hr := B.returns
  have hlk := B.notSynchronized
  have hts0 := atoms_spec (ws := .code yJ3_checkIndex_8e157 cJ3_checkIndex_8e157 3 (some .int) :: gw_G) B.pre
  have hts : ∀ v ∈ gw_G, v.before ([.int x, .int n, v3] : List Value).toArray s = true := fun v hv => hts0 v (List.mem_cons_of_mem _ hv)
  have hown : s.vm.findClass RJ3 = some m.cls := findClass_of_methodNamed B.named
  have hS : va_S (fun q => vm_base w ≤ q) s.heap s.heap [] := va_S.rf
  obtain ⟨adV, hE⟩ := jK_S hK
  have hcat : v3.category = 1 := by rcases h3 with rfl | ⟨a, rfl⟩ <;> rfl
  have hl := lv_entry ([.int x, .int n, v3] : List Value) (n := 3) (by rcases h3 with rfl | ⟨a, rfl⟩ <;> exact Nat.le_of_ble_eq_true rfl)
  rw [lg_entry_eq]
  generalize (lg_sl ([.int x, .int n, v3] : List Value) ++ List.replicate (3 - (lg_sl ([.int x, .int n, v3] : List Value)).length) Slot.unset).toArray = ls at hl ⊢
  have hl : lv_has ls 3 [(0, .int x), (1, .int n), (2, v3)] := hl
  refine lv_iload_n hx hb dJ3_checkIndex_8e157_0 rfl (lv_at hl 0 rfl) ?_
  refine lv_if_lt (tgt := 9) hx hb dJ3_checkIndex_8e157_1 (by decide) (fun h => absurd h h0) (fun _ => ?_)
  refine lv_iload_n hx hb dJ3_checkIndex_8e157_4 rfl (lv_at hl 0 rfl) ?_
  refine lv_iload_n hx hb dJ3_checkIndex_8e157_5 rfl (lv_at hl 1 rfl) ?_
  refine lv_icmp_lt (tgt := 16) hx hb dJ3_checkIndex_8e157_6 (by decide) (fun _ => ?_) (fun h => absurd h1 h)
  refine lv_iload_n hx hb dJ3_checkIndex_8e157_16 rfl (lv_at hl 0 rfl) ?_
  exact W.zret hx hb hr rfl (fun t ht _ => ⟨⟨x, (), rfl, rfl, by show t.heap = H; rw [ht]; exact hH⟩, jF hH (by rw [ht]; exact hH)⟩) (fun z hz => by cases hz) dJ3_checkIndex_8e157_17 hlk
set_option maxHeartbeats 4000000 in
theorem j_check (l : Launch) (w : vm_W) (H : Heap) {x n : Int32} (h0 : ¬ x < 0) (h1 : x < n) : Met l yJ0_checkIndex_df160 (.code yJ0_checkIndex_df160 cJ0_checkIndex_df160 2 none :: gw_G) jr_1 (jP w H [.int x, .int n]) (jV H) 0 0 (fun _ => False) := by
  refine Met.ofW (cc := cJ0_checkIndex_df160) (maxL := 2) (ret := none) (by decide) rfl ?_
  intro p e s m args below meth c s₁ B hml hv
  obtain ⟨rfl, hK, hH⟩ := hv
  have hx := B.exec
  have hb := B.bytes
  have hr := B.returns
  have hlk := B.notSynchronized
  have hts0 := atoms_spec (ws := .code yJ0_checkIndex_df160 cJ0_checkIndex_df160 2 none :: gw_G) B.pre
  have hts : ∀ v ∈ gw_G, v.before ([.int x, .int n] : List Value).toArray s = true := fun v hv => hts0 v (List.mem_cons_of_mem _ hv)
  have hown : s.vm.findClass RJ0 = some m.cls := findClass_of_methodNamed B.named
  have hS : va_S (fun q => vm_base w ≤ q) s.heap s.heap [] := va_S.rf
  obtain ⟨adV, hE⟩ := jK_S hK
  have hl := lv_entry ([.int x, .int n] : List Value) (n := 2) (Nat.le_of_ble_eq_true rfl)
  rw [lg_entry_eq]
  generalize (lg_sl ([.int x, .int n] : List Value) ++ List.replicate (2 - (lg_sl ([.int x, .int n] : List Value)).length) Slot.unset).toArray = ls at hl ⊢
  have hl : lv_has ls 2 [(0, .int x), (1, .int n)] := hl
  refine lv_iload_n hx hb dJ0_checkIndex_df160_0 rfl (lv_at hl 0 rfl) ?_
  refine lv_iload_n hx hb dJ0_checkIndex_df160_1 rfl (lv_at hl 1 rfl) ?_
  have go : ∀ v3 : Value, (v3 = .null ∨ ∃ a, v3 = .ref a) → W p l e jr_1 s m ([.int x, .int n] : List Value).toArray below meth c s.heap [] 0 0 (MQ below (jV H) ([.int x, .int n] : List Value).toArray s 0 0 (fun _ => False)) (F0 m 5 ls [v3, .int n, .int x]) := by
    intro v3 h3
    refine va_calli (A0 := fun _ => False) (H0 := s.heap) (va_runS (As := [.int x, .int n, v3]) (rest := []) ⟨hx, hb, hml, hown, hts⟩ (j_pre l w s.heap h0 h1 h3) (va_cwS 3 hts (gw_inA (a := [_, _, _]) (fun v hv => by
      rcases List.mem_cons.mp hv with e | hv
      · rw [e]; exact jw_711
      rcases List.mem_cons.mp hv with e | hv
      · rw [e]; exact jw_712
      rw [List.mem_singleton.mp hv]; exact jw_124) jw_713) rfl rfl rfl (by decide +kernel) ⟨by decide, by decide⟩) ⟨jP_blind, fun U hU hW => ⟨rfl, vm_K.moved hW (by rw [hU]; exact hK.2.2.2.2.2.1.1) (by rw [hU]; exact hK.2.2.2.2.2.1.2) hK, hU⟩⟩ rfl rfl hl.1 rfl (lv_room (Nat.le_of_ble_eq_true rfl)) dJ0_checkIndex_df160_5 ⟨Nat.le_refl _, Nat.le_refl _⟩) va_S.rf (fun _ _ h => h) (fun _ h => h) (fun r u t H1 locs ht _ hw hB hz1 hk1 hS1 => ?_)
    have hB : t.heap = s.heap := hB
    refine lv_pop hx hb dJ0_checkIndex_df160_8 rfl ?_
    exact W.vret hx hb hr (fun t2 ht2 _ => ⟨⟨(), rfl, trivial, by show t2.heap = H; rw [ht2, ← ht, hB]; exact hH⟩, jF hH (by rw [ht2, ← ht, hB]; exact hH)⟩) (fun z hz => hS1.2.2 z hz) dJ0_checkIndex_df160_9 hlk
  rcases jK_F hK with hz | ⟨a, hz⟩
  · refine va_gets hx hb hz hS hown (hts _ jw_709) (fun _ h => h) dJ0_checkIndex_df160_2 ?_
    exact go _ (Or.inl rfl)
  · refine va_gets hx hb hz hS hown (hts _ jw_709) (fun _ h => h) dJ0_checkIndex_df160_2 ?_
    exact go _ (Or.inr ⟨a, rfl⟩)
theorem jl_1 : ∀ i, i < 8 → Int32.ofNat (vm_sl.getD i 0) >>> ((0 : Int32) &&& 31) = Int32.ofInt ((tx_B.getD i []).length : Int) ∧ vm_sl.getD i 0 = (tx_B.getD i []).length ∧ (tx_B.getD i []).length < 100 := by decide +kernel
theorem jl_2 : ∀ i, i < 8 → ∀ k, k < 10 → k < vm_sl.getD i 0 → ((((vm_sb.getD i []).getD k 0) &&& 255).toUInt32 % 65536).toInt32 = Int32.ofInt ((tx_B.getD i []).getD k 0) ∧ narrow .char (.int (Int32.ofInt ((tx_B.getD i []).getD k 0))) = .int (Int32.ofInt ((tx_B.getD i []).getD k 0)) := by decide +kernel
theorem jl_3 : ∀ i, i < 8 → vm_sl.getD i 0 < 10 := by decide +kernel
theorem jl_4 : ∀ i, i < 8 → ∀ k, k < 10 → 0 ≤ (tx_B.getD i []).getD k 0 ∧ (tx_B.getD i []).getD k 0 < 200 := by decide +kernel
set_option maxHeartbeats 4000000 in
theorem j_length (l : Launch) (w : vm_W) (H : Heap) {i : Nat} (hi : i < 8) : Met l yJ0_length_8abf5 (.code yJ0_length_8abf5 cJ0_length_8abf5 1 (some .int) :: gw_G) jr_1 (jP w H [.ref (vm_sa w (i + 2))]) (jQ H (Int32.ofInt ((tx_B.getD i []).length : Int))) 0 0 (fun _ => False) := by
  refine Met.ofW (cc := cJ0_length_8abf5) (maxL := 1) (ret := (some .int)) (by decide) rfl ?_
  intro p e s m args below meth c s₁ B hml hv
  obtain ⟨rfl, hK, hH⟩ := hv
  have hx := B.exec
  have hb := B.bytes
  have hr := B.returns
  have hlk := B.notSynchronized
  have hts0 := atoms_spec (ws := .code yJ0_length_8abf5 cJ0_length_8abf5 1 (some .int) :: gw_G) B.pre
  have hts : ∀ v ∈ gw_G, v.before ([.ref (vm_sa w (i + 2))] : List Value).toArray s = true := fun v hv => hts0 v (List.mem_cons_of_mem _ hv)
  have hown : s.vm.findClass RJ0 = some m.cls := findClass_of_methodNamed B.named
  have hS : va_S (fun q => vm_base w ≤ q) s.heap s.heap [] := va_S.rf
  obtain ⟨adV, hE⟩ := jK_S hK
  have hl := lv_entry ([.ref (vm_sa w (i + 2))] : List Value) (n := 1) (Nat.le_of_ble_eq_true rfl)
  rw [lg_entry_eq]
  generalize (lg_sl ([.ref (vm_sa w (i + 2))] : List Value) ++ List.replicate (1 - (lg_sl ([.ref (vm_sa w (i + 2))] : List Value)).length) Slot.unset).toArray = ls at hl ⊢
  have hl : lv_has ls 1 [(0, .ref (vm_sa w (i + 2)))] := hl
  refine lv_aload_n hx hb dJ0_length_8abf5_0 rfl (lv_at hl 0 rfl) ?_
  refine vk_getf hx hb (hE.1 i hi).2.2.1 hS hown (hts _ jw_1958) (fun _ h => h) dJ0_length_8abf5_1 ?_
  refine va_tlen hx hb (hE.1 i hi).2.2.2 hS rfl dJ0_length_8abf5_4 ?_
  refine lv_aload_n hx hb dJ0_length_8abf5_5 rfl (lv_at hl 0 rfl) ?_
  refine va_calli (A0 := fun _ => False) (H0 := s.heap) (va_runV (As := []) (rest := [_]) ⟨hx, hb, hml, hown, hts⟩ (j_coder l w s.heap hi) (cwV 0 hts (gw_inA (a := [_, _, _, _]) (fun v hv => by
      rcases List.mem_cons.mp hv with e | hv
      · rw [e]; exact jw_689
      rcases List.mem_cons.mp hv with e | hv
      · rw [e]; exact jw_690
      rcases List.mem_cons.mp hv with e | hv
      · rw [e]; exact jw_691
      rw [List.mem_singleton.mp hv]; exact jw_122) jw_692) rfl rfl rfl (by decide +kernel) ⟨by decide, by decide⟩) ⟨jP_blind, vk_recv hE hi hS, fun U hU hW => ⟨rfl, vm_K.moved hW (by rw [hU]; exact hK.2.2.2.2.2.1.1) (by rw [hU]; exact hK.2.2.2.2.2.1.2) hK, hU⟩⟩ rfl rfl hl.1 rfl (lv_room (Nat.le_of_ble_eq_true rfl)) dJ0_length_8abf5_6 ⟨Nat.le_refl _, Nat.le_refl _⟩) va_S.rf (fun _ _ h => h) (fun _ h => h) (fun r u t H1 locs ht _ hw hB hz1 hk1 hS1 => ?_)
  have hB : t.heap = s.heap := hB
  have hw : r = 0 := hw
  subst hw
  refine lv_ishr hx hb dJ0_length_8abf5_9 ?_
  rw [(jl_1 i hi).1]
  exact W.zret hx hb hr rfl (fun t2 ht2 _ => ⟨⟨_, (), rfl, rfl, by show t2.heap = H; rw [ht2, ← ht, hB]; exact hH⟩, jF hH (by rw [ht2, ← ht, hB]; exact hH)⟩) (fun z hz => hS1.2.2 z hz) dJ0_length_8abf5_10 hlk
set_option maxHeartbeats 4000000 in
theorem j_chL (l : Launch) (w : vm_W) (H : Heap) {i k : Nat} (hi : i < 8) (hk : k < vm_sl.getD i 0) {adV0 : Nat → Nat} : Met l yJ1_charAt_3b067 (.code yJ1_charAt_3b067 cJ1_charAt_3b067 2 (some .char) :: gw_G) jr_2 (va_Pc [.ref (adV0 i), .int (Int32.ofInt (k : Int))] (fun U => (vm_K w U ∧ U.heap = H) ∧ va_T .byte (adV0 i) (vm_sl.getD i 0) (fun j => .int ((vm_sb.getD i []).getD j 0)) (fun q => vm_base w ≤ q) U U.heap)) (jQ H (Int32.ofInt ((tx_B.getD i []).getD k 0))) 0 0 (fun _ => False) := by
  refine Met.ofW (cc := cJ1_charAt_3b067) (maxL := 2) (ret := (some .char)) (by decide) rfl ?_
  intro p e s m args below meth c s₁ B hml hv
  obtain ⟨rfl, ⟨hK, hH⟩, hT⟩ := hv
  have hx := B.exec
  have hb := B.bytes
  have hr := B.returns
  have hlk := B.notSynchronized
  have hts0 := atoms_spec (ws := .code yJ1_charAt_3b067 cJ1_charAt_3b067 2 (some .char) :: gw_G) B.pre
  have hts : ∀ v ∈ gw_G, v.before ([.ref (adV0 i), .int (Int32.ofInt (k : Int))] : List Value).toArray s = true := fun v hv => hts0 v (List.mem_cons_of_mem _ hv)
  have hown : s.vm.findClass RJ1 = some m.cls := findClass_of_methodNamed B.named
  have hS : va_S (fun q => vm_base w ≤ q) s.heap s.heap [] := va_S.rf
  obtain ⟨adV, hE⟩ := jK_S hK
  have hl := lv_entry ([.ref (adV0 i), .int (Int32.ofInt (k : Int))] : List Value) (n := 2) (Nat.le_of_ble_eq_true rfl)
  rw [lg_entry_eq]
  generalize (lg_sl ([.ref (adV0 i), .int (Int32.ofInt (k : Int))] : List Value) ++ List.replicate (2 - (lg_sl ([.ref (adV0 i), .int (Int32.ofInt (k : Int))] : List Value)).length) Slot.unset).toArray = ls at hl ⊢
  have hl : lv_has ls 2 [(0, .ref (adV0 i)), (1, .int (Int32.ofInt (k : Int)))] := hl
  have k10 := jl_3 i hi
  have hki : mm_in (k : Int) := by unfold mm_in; omega
  have hni : mm_in ((vm_sl.getD i 0 : Nat) : Int) := by unfold mm_in; omega
  have h0 : ¬ Int32.ofInt (k : Int) < 0 := fun h => by have := (mm_lt hki mm_0).mp h; omega
  have h1 : Int32.ofInt (k : Int) < Int32.ofNat (vm_sl.getD i 0) := (mm_lt hki hni).mpr (by omega)
  have hc : (Int32.ofInt (k : Int)).toNatClampNeg = k := by
    show (Int32.ofInt (k : Int)).toInt.toNat = k
    rw [mm_of hki]; rfl
  refine lv_iload_n hx hb dJ1_charAt_3b067_0 rfl (lv_at hl 1 rfl) ?_
  refine lv_aload_n hx hb dJ1_charAt_3b067_1 rfl (lv_at hl 0 rfl) ?_
  refine va_tlen hx hb hT hS rfl dJ1_charAt_3b067_2 ?_
  refine va_callv (A0 := fun _ => False) (H0 := s.heap) (va_runS (As := [.int (Int32.ofInt (k : Int)), .int (Int32.ofNat (vm_sl.getD i 0))]) (rest := []) ⟨hx, hb, hml, hown, hts⟩ (j_check l w s.heap h0 h1) (va_cwS 2 hts (gw_inA (a := [_, _, _]) (fun v hv => by
      rcases List.mem_cons.mp hv with e | hv
      · rw [e]; exact jw_706
      rcases List.mem_cons.mp hv with e | hv
      · rw [e]; exact jw_707
      rw [List.mem_singleton.mp hv]; exact jw_122) jw_708) rfl rfl rfl (by decide +kernel) ⟨by decide, by decide⟩) ⟨jP_blind, fun U hU hW => ⟨rfl, vm_K.moved hW (by rw [hU]; exact hK.2.2.2.2.2.1.1) (by rw [hU]; exact hK.2.2.2.2.2.1.2) hK, hU⟩⟩ rfl rfl hl.1 rfl (lv_room (Nat.le_of_ble_eq_true rfl)) dJ1_charAt_3b067_3 ⟨Nat.le_refl _, Nat.le_refl _⟩) va_S.rf (fun _ _ h => h) (fun _ h => h) (fun u t H1 locs ht _ hw hB hz1 hk1 hS1 => ?_)
  have hB : t.heap = s.heap := hB
  have e1 : H1 = s.heap := by rw [← ht]; exact hB
  subst e1
  have hS2 : va_S (fun q => vm_base w ≤ q) s.heap s.heap locs := ⟨Nat.le_refl _, fun _ _ _ => rfl, fun z hz => (hS1.2.2 z hz).elim⟩
  refine lv_aload_n hx hb dJ1_charAt_3b067_6 rfl (lv_at hl 0 rfl) ?_
  refine lv_iload_n hx hb dJ1_charAt_3b067_7 rfl (lv_at hl 1 rfl) ?_
  refine va_tb hx hb hT hS2 (i := Int32.ofInt (k : Int)) (fun h => h.elim h0 (fun q => by rw [hc] at q; omega)) (v := .int ((vm_sb.getD i []).getD k 0)) (by rw [hc]) dJ1_charAt_3b067_8 ?_
  refine lv_sipush (v := 255) hx hb dJ1_charAt_3b067_9 (by decide) ?_
  refine lv_iand hx hb dJ1_charAt_3b067_12 ?_
  refine lv_i2c hx hb dJ1_charAt_3b067_13 rfl ?_
  rw [(jl_2 i hi k (by omega) hk).1]
  exact W.zret hx hb hr (jl_2 i hi k (by omega) hk).2 (fun t2 ht2 _ => ⟨⟨_, (), rfl, rfl, by show t2.heap = H; rw [ht2]; exact hH⟩, jF hH (by rw [ht2]; exact hH)⟩) (fun z hz => hS1.2.2 z hz) dJ1_charAt_3b067_14 hlk
theorem jT_blind {w : vm_W} {H : Heap} {av : List Value} {a N : Nat} {f : Nat → Value} : FrameBlind (va_Pc av (fun U => (vm_K w U ∧ U.heap = H) ∧ va_T .byte a N f (fun q => vm_base w ≤ q) U U.heap)) := by
  intro a U g mk h
  exact ⟨h.1, ⟨vm_K.moved (State.WarmedH.refl U) h.2.1.1.2.2.2.2.2.1.1 h.2.1.1.2.2.2.2.2.1.2 h.2.1.1, h.2.1.2⟩, va_T.moved (u := U) (U := U.calling g mk a) (Vm.Alike.refl U.vm) h.2.2⟩
set_option maxHeartbeats 4000000 in
theorem j_charAt (l : Launch) (w : vm_W) (H : Heap) {i k : Nat} (hi : i < 8) (hk : k < vm_sl.getD i 0) : Met l yJ0_charAt_5068e (.code yJ0_charAt_5068e cJ0_charAt_5068e 2 (some .char) :: gw_G) jr_3 (jP w H [.ref (vm_sa w (i + 2)), .int (Int32.ofInt (k : Int))]) (jQ H (Int32.ofInt ((tx_B.getD i []).getD k 0))) 0 0 (fun _ => False) := by
  refine Met.ofW (cc := cJ0_charAt_5068e) (maxL := 2) (ret := (some .char)) (by decide) rfl ?_
  intro p e s m args below meth c s₁ B hml hv
  obtain ⟨rfl, hK, hH⟩ := hv
  have hx := B.exec
  have hb := B.bytes
  have hr := B.returns
  have hlk := B.notSynchronized
  have hts0 := atoms_spec (ws := .code yJ0_charAt_5068e cJ0_charAt_5068e 2 (some .char) :: gw_G) B.pre
  have hts : ∀ v ∈ gw_G, v.before ([.ref (vm_sa w (i + 2)), .int (Int32.ofInt (k : Int))] : List Value).toArray s = true := fun v hv => hts0 v (List.mem_cons_of_mem _ hv)
  have hown : s.vm.findClass RJ0 = some m.cls := findClass_of_methodNamed B.named
  have hS : va_S (fun q => vm_base w ≤ q) s.heap s.heap [] := va_S.rf
  obtain ⟨adV, hE⟩ := jK_S hK
  have hl := lv_entry ([.ref (vm_sa w (i + 2)), .int (Int32.ofInt (k : Int))] : List Value) (n := 2) (Nat.le_of_ble_eq_true rfl)
  rw [lg_entry_eq]
  generalize (lg_sl ([.ref (vm_sa w (i + 2)), .int (Int32.ofInt (k : Int))] : List Value) ++ List.replicate (2 - (lg_sl ([.ref (vm_sa w (i + 2)), .int (Int32.ofInt (k : Int))] : List Value)).length) Slot.unset).toArray = ls at hl ⊢
  have hl : lv_has ls 2 [(0, .ref (vm_sa w (i + 2))), (1, .int (Int32.ofInt (k : Int)))] := hl
  refine lv_aload_n hx hb dJ0_charAt_5068e_0 rfl (lv_at hl 0 rfl) ?_
  refine va_calli (A0 := fun _ => False) (H0 := s.heap) (va_runV (As := []) (rest := []) ⟨hx, hb, hml, hown, hts⟩ (j_isLatin1 l w s.heap hi) (cwV 0 hts (gw_inA (a := [_, _, _, _]) (fun v hv => by
      rcases List.mem_cons.mp hv with e | hv
      · rw [e]; exact jw_699
      rcases List.mem_cons.mp hv with e | hv
      · rw [e]; exact jw_700
      rcases List.mem_cons.mp hv with e | hv
      · rw [e]; exact jw_701
      rw [List.mem_singleton.mp hv]; exact jw_122) jw_702) rfl rfl rfl (by decide +kernel) ⟨by decide, by decide⟩) ⟨jP_blind, vk_recv hE hi hS, fun U hU hW => ⟨rfl, vm_K.moved hW (by rw [hU]; exact hK.2.2.2.2.2.1.1) (by rw [hU]; exact hK.2.2.2.2.2.1.2) hK, hU⟩⟩ rfl rfl hl.1 rfl (lv_room (Nat.le_of_ble_eq_true rfl)) dJ0_charAt_5068e_1 ⟨Nat.le_refl _, Nat.le_refl _⟩) va_S.rf (fun _ _ h => h) (fun _ h => h) (fun r u t H1 locs ht _ hw hB hz1 hk1 hS1 => ?_)
  have hB : t.heap = s.heap := hB
  have hw : r = 1 := hw
  subst hw
  have e1 : H1 = s.heap := by rw [← ht]; exact hB
  subst e1
  have hS2 : va_S (fun q => vm_base w ≤ q) s.heap s.heap locs := ⟨Nat.le_refl _, fun _ _ _ => rfl, fun z hz => (hS1.2.2 z hz).elim⟩
  refine lv_if_eq (tgt := 16) hx hb dJ0_charAt_5068e_4 (by decide) (fun h => absurd h (by decide)) (fun _ => ?_)
  refine lv_aload_n hx hb dJ0_charAt_5068e_7 rfl (lv_at hl 0 rfl) ?_
  refine vk_getf hx hb (hE.1 i hi).2.2.1 hS2 hown (hts _ jw_1958) (fun _ h => h) dJ0_charAt_5068e_8 ?_
  refine lv_iload_n hx hb dJ0_charAt_5068e_11 rfl (lv_at hl 1 rfl) ?_
  refine va_calli (A0 := fun _ => False) (H0 := s.heap) (va_runS (As := [.ref (adV i), .int (Int32.ofInt (k : Int))]) (rest := []) ⟨hx, hb, hml, hown, hts⟩ (j_chL l w s.heap hi hk (adV0 := adV)) (va_cwS 2 hts (gw_inA (a := [_, _, _]) (fun v hv => by
      rcases List.mem_cons.mp hv with e | hv
      · rw [e]; exact jw_703
      rcases List.mem_cons.mp hv with e | hv
      · rw [e]; exact jw_704
      rw [List.mem_singleton.mp hv]; exact jw_123) jw_705) rfl rfl rfl (by decide +kernel) ⟨by decide, by decide⟩) ⟨jT_blind, fun U hU hW => ⟨rfl, ⟨vm_K.moved hW (by rw [hU]; exact hK.2.2.2.2.2.1.1) (by rw [hU]; exact hK.2.2.2.2.2.1.2) hK, hU⟩, by rw [hU]; exact va_T.moved hW.alike (hE.1 i hi).2.2.2⟩⟩ rfl rfl hl.1 rfl (lv_room (Nat.le_of_ble_eq_true rfl)) dJ0_charAt_5068e_12 ⟨Nat.le_refl _, Nat.le_refl _⟩) hS1 (fun _ _ h => h) (fun _ h => h) (fun r u t2 H2 locs2 ht2 _ hw2 hB2 hz2 hk2 hS3 => ?_)
  have hB2 : t2.heap = s.heap := hB2
  have hw2 : r = Int32.ofInt ((tx_B.getD i []).getD k 0) := hw2
  subst hw2
  exact W.zret hx hb hr (jl_2 i hi k (by have := jl_3 i hi; omega) hk).2 (fun t3 ht3 _ => ⟨⟨_, (), rfl, rfl, by show t3.heap = H; rw [ht3, ← ht2, hB2]; exact hH⟩, jF hH (by rw [ht3, ← ht2, hB2]; exact hH)⟩) (fun z hz => hS3.2.2 z hz) dJ0_charAt_5068e_15 hlk
