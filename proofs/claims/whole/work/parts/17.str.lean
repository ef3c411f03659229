section STR
variable {α : Type} {l : Launch} {w : vm_W} {y : vm_Y} {fr fr' : Nat} {ex : α → vm_O} {pc pc' tgt : Nat} {ls ls' : List (Nat × vm_X)} {st st0 st1 : List vm_X} {M M1 : mm_T} {k1 : Option (α × mm_T)}
theorem v_ldcS {idx i : Nat} (hd : vm_D y.2.1 pc 2 pc' (.ldc idx)) (hs : (y.1, idx, i) ∈ vm_sr) (hi : i < 8) (kk : V_ l w y fr ex pc' ls (xA (i + 2) :: st) M k1) : V_ l w y fr ex pc ls st M k1 := by
  obtain ⟨hd, rfl⟩ := hd
  refine V_.go kk (fun h1 h2 _ => ⟨h1, List.forall_mem_cons.mpr ⟨trivial, h2⟩⟩) ?_
  intro _ _ _ p e R s m args below meth c H locs cells slots Q la _ _ C hR hl2 K
  have K2 := K la hl2
  have e0 : vm_v w (xA (i + 2)) = .ref (vm_sa w (i + 2)) := by
    show vm_rv w (i + 2) = _
    unfold vm_rv vm_ad
    rw [if_neg (by omega), if_neg (by omega), if_pos (by omega)]
  rw [List.map_cons, e0] at K2
  have hR2 := C.2.1.2.2.2.2.2.2.2.2.2.2.2.2.2.2.1 _ hs
  exact va_ldcS C.1.1 C.1.2.1 C.1.2.2.2.1 hR2 hd K2
end STR
