def ex_I : Int → vm_O := fun x => .inr (some (false, xI x))
def ex_Z : Int → vm_O := fun x => .inr (some (true, xI x))
def ex_J : Int64 → vm_O := fun x => .inr (some (false, xJ x))
def ex_A : Nat → vm_O := fun x => .inr (some (false, xA x))
def ex_V : Unit → vm_O := fun _ => .inr none
def ex_T {γ : Type} (f : γ → vm_O) : (Nat ⊕ γ) → vm_O
  | .inl E => .inl E
  | .inr x => f x
section CALLS2
variable {α : Type} {l : Launch} {w : vm_W} {y : vm_Y} {fr fr' : Nat} {ex : α → vm_O} {pc pc' tgt : Nat} {ls ls' : List (Nat × vm_X)} {st0 st1 : List vm_X} {M : mm_T}
variable {as : List vm_X} {b c idx n maxL : Nat} {q : vw_C} {yn : MethodName} {bytes : ByteArray} {ret : Option FieldType} {host : String} {hh : List (Nat × Nat × Nat × Nat)}
theorem mem_recv {as st1 : List vm_X} {b : vm_X} {st0 : List vm_X} (h : st0 = as.reverse ++ b :: st1) : (∀ v ∈ b :: as, v ∈ st0) ∧ ∀ v ∈ st1, v ∈ st0 := by
  subst h
  refine ⟨fun v hv => ?_, fun v hv => List.mem_append_right _ (List.mem_cons_of_mem _ hv)⟩
  rcases List.mem_cons.mp hv with e | e
  · subst e; exact List.mem_append_right _ List.mem_cons_self
  · exact List.mem_append_left _ (List.mem_reverse.mpr e)
theorem mem_stat {as st1 : List vm_X} {st0 : List vm_X} (h : st0 = as.reverse ++ st1) : (∀ v ∈ as, v ∈ st0) ∧ ∀ v ∈ st1, v ∈ st0 := by
  subst h
  exact ⟨fun v hv => List.mem_append_left _ (List.mem_reverse.mpr hv), fun v hv => List.mem_append_right _ hv⟩
theorem v_cVi {ex' : Int → vm_O} {kc : Option (Int × mm_T)} {f : Int → mm_T → Option (α × mm_T)} (hd : vm_D y.2.1 pc 3 pc' (.invokevirtual idx)) (hL : vm_LV y.1 idx yn q.1 (.code yn bytes maxL ret) n) (hq : vm_cl[c]? = some q) (hC : vm_Con l yn (.code yn bytes maxL ret) fr' ex' (xA b :: as) M kc) (he : ∀ r, vm_os (ex' r) = some [xI r]) (hfr : fr' + 1 ≤ fr) (hmx : maxL ≤ 45) (hn : as.length = n) (hst : st0 = as.reverse ++ xA b :: st1) (hs8 : (st1.map vm_ct).sum ≤ 8) (kk : ∀ (r : Int) (M1 : mm_T), V_ l w y fr ex pc' ls (xI r :: st1) M1 (f r M1)) : V_ l w y fr ex pc ls st0 M (ob_ M b c (cl_ kc f)) := by
  obtain ⟨hd, rfl⟩ := hd
  unfold ob_
  by_cases ht : mm_ty M b = .inl c
  · rw [if_pos ht]
    exact vm_callG (fun r M' h1 h2 h3 => (hC w r M' h1 h2 h3).1) (mem_recv hst).1 (mem_recv hst).2 he kk (fun r0 M0 h1 h2 h3 p e R s m args below meth c0 H locs cells slots la C hR hla hs c1 c2 => vm_runV C hR hla c1 c2 hd hL hq ht (hC w r0 M0 h1 h2 h3).2 hfr hmx hn hst hs8)
  · rw [if_neg ht]
    exact V_.none
theorem v_cVl {ex' : Int64 → vm_O} {kc : Option (Int64 × mm_T)} {f : Int64 → mm_T → Option (α × mm_T)} (hd : vm_D y.2.1 pc 3 pc' (.invokevirtual idx)) (hL : vm_LV y.1 idx yn q.1 (.code yn bytes maxL ret) n) (hq : vm_cl[c]? = some q) (hC : vm_Con l yn (.code yn bytes maxL ret) fr' ex' (xA b :: as) M kc) (he : ∀ r, vm_os (ex' r) = some [xJ r]) (hfr : fr' + 1 ≤ fr) (hmx : maxL ≤ 45) (hn : as.length = n) (hst : st0 = as.reverse ++ xA b :: st1) (hs8 : (st1.map vm_ct).sum ≤ 8) (kk : ∀ (r : Int64) (M1 : mm_T), V_ l w y fr ex pc' ls (xJ r :: st1) M1 (f r M1)) : V_ l w y fr ex pc ls st0 M (ob_ M b c (cl_ kc f)) := by
  obtain ⟨hd, rfl⟩ := hd
  unfold ob_
  by_cases ht : mm_ty M b = .inl c
  · rw [if_pos ht]
    exact vm_callG (fun r M' h1 h2 h3 => (hC w r M' h1 h2 h3).1) (mem_recv hst).1 (mem_recv hst).2 he kk (fun r0 M0 h1 h2 h3 p e R s m args below meth c0 H locs cells slots la C hR hla hs c1 c2 => vm_runV C hR hla c1 c2 hd hL hq ht (hC w r0 M0 h1 h2 h3).2 hfr hmx hn hst hs8)
  · rw [if_neg ht]
    exact V_.none
theorem v_cVq {ex' : Nat → vm_O} {kc : Option (Nat × mm_T)} {f : Nat → mm_T → Option (α × mm_T)} (hd : vm_D y.2.1 pc 3 pc' (.invokevirtual idx)) (hL : vm_LV y.1 idx yn q.1 (.code yn bytes maxL ret) n) (hq : vm_cl[c]? = some q) (hC : vm_Con l yn (.code yn bytes maxL ret) fr' ex' (xA b :: as) M kc) (he : ∀ r, vm_os (ex' r) = some [xA r]) (hfr : fr' + 1 ≤ fr) (hmx : maxL ≤ 45) (hn : as.length = n) (hst : st0 = as.reverse ++ xA b :: st1) (hs8 : (st1.map vm_ct).sum ≤ 8) (kk : ∀ (r : Nat) (M1 : mm_T), V_ l w y fr ex pc' ls (xA r :: st1) M1 (f r M1)) : V_ l w y fr ex pc ls st0 M (ob_ M b c (cl_ kc f)) := by
  obtain ⟨hd, rfl⟩ := hd
  unfold ob_
  by_cases ht : mm_ty M b = .inl c
  · rw [if_pos ht]
    exact vm_callG (fun r M' h1 h2 h3 => (hC w r M' h1 h2 h3).1) (mem_recv hst).1 (mem_recv hst).2 he kk (fun r0 M0 h1 h2 h3 p e R s m args below meth c0 H locs cells slots la C hR hla hs c1 c2 => vm_runV C hR hla c1 c2 hd hL hq ht (hC w r0 M0 h1 h2 h3).2 hfr hmx hn hst hs8)
  · rw [if_neg ht]
    exact V_.none
theorem v_cVv {ex' : Unit → vm_O} {kc : Option (Unit × mm_T)} {f : Unit → mm_T → Option (α × mm_T)} (hd : vm_D y.2.1 pc 3 pc' (.invokevirtual idx)) (hL : vm_LV y.1 idx yn q.1 (.code yn bytes maxL ret) n) (hq : vm_cl[c]? = some q) (hC : vm_Con l yn (.code yn bytes maxL ret) fr' ex' (xA b :: as) M kc) (he : ∀ r, vm_os (ex' r) = some []) (hfr : fr' + 1 ≤ fr) (hmx : maxL ≤ 45) (hn : as.length = n) (hst : st0 = as.reverse ++ xA b :: st1) (hs8 : (st1.map vm_ct).sum ≤ 8) (kk : ∀ (r : Unit) (M1 : mm_T), V_ l w y fr ex pc' ls (st1) M1 (f r M1)) : V_ l w y fr ex pc ls st0 M (ob_ M b c (cl_ kc f)) := by
  obtain ⟨hd, rfl⟩ := hd
  unfold ob_
  by_cases ht : mm_ty M b = .inl c
  · rw [if_pos ht]
    exact vm_callG (fun r M' h1 h2 h3 => (hC w r M' h1 h2 h3).1) (mem_recv hst).1 (mem_recv hst).2 he kk (fun r0 M0 h1 h2 h3 p e R s m args below meth c0 H locs cells slots la C hR hla hs c1 c2 => vm_runV C hR hla c1 c2 hd hL hq ht (hC w r0 M0 h1 h2 h3).2 hfr hmx hn hst hs8)
  · rw [if_neg ht]
    exact V_.none
theorem v_cSi {ex' : Int → vm_O} {kc : Option (Int × mm_T)} {f : Int → mm_T → Option (α × mm_T)} (hd : vm_D y.2.1 pc 3 pc' (.invokestatic idx)) (hL : vm_LS y.1 idx yn (.code yn bytes maxL ret) n) (hC : vm_Con l yn (.code yn bytes maxL ret) fr' ex' as M kc) (he : ∀ r, vm_os (ex' r) = some [xI r]) (hfr : fr' + 1 ≤ fr) (hmx : maxL ≤ 45) (hn : as.length = n) (hst : st0 = as.reverse ++ st1) (hs8 : (st1.map vm_ct).sum ≤ 8) (kk : ∀ (r : Int) (M1 : mm_T), V_ l w y fr ex pc' ls (xI r :: st1) M1 (f r M1)) : V_ l w y fr ex pc ls st0 M (cl_ kc f) := by
  obtain ⟨hd, rfl⟩ := hd
  exact vm_callG (fun r M' h1 h2 h3 => (hC w r M' h1 h2 h3).1) (mem_stat hst).1 (mem_stat hst).2 he kk (fun r0 M0 h1 h2 h3 p e R s m args below meth c0 H locs cells slots la C hR hla hs c1 c2 => vm_runS C hR hla c1 c2 hd hL (hC w r0 M0 h1 h2 h3).2 hfr hmx hn hst hs8)
theorem v_cSl {ex' : Int64 → vm_O} {kc : Option (Int64 × mm_T)} {f : Int64 → mm_T → Option (α × mm_T)} (hd : vm_D y.2.1 pc 3 pc' (.invokestatic idx)) (hL : vm_LS y.1 idx yn (.code yn bytes maxL ret) n) (hC : vm_Con l yn (.code yn bytes maxL ret) fr' ex' as M kc) (he : ∀ r, vm_os (ex' r) = some [xJ r]) (hfr : fr' + 1 ≤ fr) (hmx : maxL ≤ 45) (hn : as.length = n) (hst : st0 = as.reverse ++ st1) (hs8 : (st1.map vm_ct).sum ≤ 8) (kk : ∀ (r : Int64) (M1 : mm_T), V_ l w y fr ex pc' ls (xJ r :: st1) M1 (f r M1)) : V_ l w y fr ex pc ls st0 M (cl_ kc f) := by
  obtain ⟨hd, rfl⟩ := hd
  exact vm_callG (fun r M' h1 h2 h3 => (hC w r M' h1 h2 h3).1) (mem_stat hst).1 (mem_stat hst).2 he kk (fun r0 M0 h1 h2 h3 p e R s m args below meth c0 H locs cells slots la C hR hla hs c1 c2 => vm_runS C hR hla c1 c2 hd hL (hC w r0 M0 h1 h2 h3).2 hfr hmx hn hst hs8)
theorem v_cSq {ex' : Nat → vm_O} {kc : Option (Nat × mm_T)} {f : Nat → mm_T → Option (α × mm_T)} (hd : vm_D y.2.1 pc 3 pc' (.invokestatic idx)) (hL : vm_LS y.1 idx yn (.code yn bytes maxL ret) n) (hC : vm_Con l yn (.code yn bytes maxL ret) fr' ex' as M kc) (he : ∀ r, vm_os (ex' r) = some [xA r]) (hfr : fr' + 1 ≤ fr) (hmx : maxL ≤ 45) (hn : as.length = n) (hst : st0 = as.reverse ++ st1) (hs8 : (st1.map vm_ct).sum ≤ 8) (kk : ∀ (r : Nat) (M1 : mm_T), V_ l w y fr ex pc' ls (xA r :: st1) M1 (f r M1)) : V_ l w y fr ex pc ls st0 M (cl_ kc f) := by
  obtain ⟨hd, rfl⟩ := hd
  exact vm_callG (fun r M' h1 h2 h3 => (hC w r M' h1 h2 h3).1) (mem_stat hst).1 (mem_stat hst).2 he kk (fun r0 M0 h1 h2 h3 p e R s m args below meth c0 H locs cells slots la C hR hla hs c1 c2 => vm_runS C hR hla c1 c2 hd hL (hC w r0 M0 h1 h2 h3).2 hfr hmx hn hst hs8)
theorem v_cSv {ex' : Unit → vm_O} {kc : Option (Unit × mm_T)} {f : Unit → mm_T → Option (α × mm_T)} (hd : vm_D y.2.1 pc 3 pc' (.invokestatic idx)) (hL : vm_LS y.1 idx yn (.code yn bytes maxL ret) n) (hC : vm_Con l yn (.code yn bytes maxL ret) fr' ex' as M kc) (he : ∀ r, vm_os (ex' r) = some []) (hfr : fr' + 1 ≤ fr) (hmx : maxL ≤ 45) (hn : as.length = n) (hst : st0 = as.reverse ++ st1) (hs8 : (st1.map vm_ct).sum ≤ 8) (kk : ∀ (r : Unit) (M1 : mm_T), V_ l w y fr ex pc' ls (st1) M1 (f r M1)) : V_ l w y fr ex pc ls st0 M (cl_ kc f) := by
  obtain ⟨hd, rfl⟩ := hd
  exact vm_callG (fun r M' h1 h2 h3 => (hC w r M' h1 h2 h3).1) (mem_stat hst).1 (mem_stat hst).2 he kk (fun r0 M0 h1 h2 h3 p e R s m args below meth c0 H locs cells slots la C hR hla hs c1 c2 => vm_runS C hR hla c1 c2 hd hL (hC w r0 M0 h1 h2 h3).2 hfr hmx hn hst hs8)
theorem v_cIv {ex' : Unit → vm_O} {kc : Option (Unit × mm_T)} {f : Unit → mm_T → Option (α × mm_T)} (hd : vm_D y.2.1 pc 3 pc' (.invokespecial idx)) (hL : vm_LI y.1 idx yn (.code yn bytes maxL none) n) (hq : vm_cl[c]? = some q) (hC : vm_Con l yn (.code yn bytes maxL none) fr' ex' (xA b :: as) M kc) (he : ∀ r, vm_os (ex' r) = some []) (hfr : fr' + 1 ≤ fr) (hmx : maxL ≤ 45) (hn : as.length = n) (hst : st0 = as.reverse ++ xA b :: st1) (hs8 : (st1.map vm_ct).sum ≤ 8) (kk : ∀ (r : Unit) (M1 : mm_T), V_ l w y fr ex pc' ls (st1) M1 (f r M1)) : V_ l w y fr ex pc ls st0 M (ob_ M b c (cl_ kc f)) := by
  obtain ⟨hd, rfl⟩ := hd
  unfold ob_
  by_cases ht : mm_ty M b = .inl c
  · rw [if_pos ht]
    exact vm_callG (fun r M' h1 h2 h3 => (hC w r M' h1 h2 h3).1) (mem_recv hst).1 (mem_recv hst).2 he kk (fun r0 M0 h1 h2 h3 p e R s m args below meth c0 H locs cells slots la C hR hla hs c1 c2 => vm_runI C hR hla c1 c2 hd hL hq ht (hC w r0 M0 h1 h2 h3).2 hfr hmx hn hst hs8)
  · rw [if_neg ht]
    exact V_.none
theorem v_cINv {ex' : Unit → vm_O} {kc : Option (Unit × mm_T)} {f : Unit → mm_T → Option (α × mm_T)} (hd : vm_D y.2.1 pc 3 pc' (.invokespecial idx)) (hL : vm_LN y.1 idx yn host (.code yn bytes maxL none) n) (hi : yn.name = "<init>" ∧ Cond.instanceMethod yn ∈ gw_G) (hq : vm_cl[c]? = some q) (hC : vm_Con l yn (.code yn bytes maxL none) fr' ex' (xA b :: as) M kc) (he : ∀ r, vm_os (ex' r) = some []) (hfr : fr' + 1 ≤ fr) (hmx : maxL ≤ 45) (hn : as.length = n) (hst : st0 = as.reverse ++ xA b :: st1) (hs8 : (st1.map vm_ct).sum ≤ 8) (kk : ∀ (r : Unit) (M1 : mm_T), V_ l w y fr ex pc' ls (st1) M1 (f r M1)) : V_ l w y fr ex pc ls st0 M (ob_ M b c (cl_ kc f)) := by
  obtain ⟨hd, rfl⟩ := hd
  unfold ob_
  by_cases ht : mm_ty M b = .inl c
  · rw [if_pos ht]
    exact vm_callG (fun r M' h1 h2 h3 => (hC w r M' h1 h2 h3).1) (mem_recv hst).1 (mem_recv hst).2 he kk (fun r0 M0 h1 h2 h3 p e R s m args below meth c0 H locs cells slots la C hR hla hs c1 c2 => vm_runIN C hR hla c1 c2 hd hL hi hq ht (hC w r0 M0 h1 h2 h3).2 hfr hmx hn hst hs8)
  · rw [if_neg ht]
    exact V_.none
theorem v_cSNi {ex' : Int → vm_O} {kc : Option (Int × mm_T)} {f : Int → mm_T → Option (α × mm_T)} (hd : vm_D y.2.1 pc 3 pc' (.invokestatic idx)) (hL : vm_LN y.1 idx yn host (.code yn bytes maxL ret) n) (hi : Cond.static yn ∈ gw_G) (hC : vm_Con l yn (.code yn bytes maxL ret) fr' ex' as M kc) (he : ∀ r, vm_os (ex' r) = some [xI r]) (hfr : fr' + 1 ≤ fr) (hmx : maxL ≤ 45) (hn : as.length = n) (hst : st0 = as.reverse ++ st1) (hs8 : (st1.map vm_ct).sum ≤ 8) (kk : ∀ (r : Int) (M1 : mm_T), V_ l w y fr ex pc' ls (xI r :: st1) M1 (f r M1)) : V_ l w y fr ex pc ls st0 M (cl_ kc f) := by
  obtain ⟨hd, rfl⟩ := hd
  exact vm_callG (fun r M' h1 h2 h3 => (hC w r M' h1 h2 h3).1) (mem_stat hst).1 (mem_stat hst).2 he kk (fun r0 M0 h1 h2 h3 p e R s m args below meth c0 H locs cells slots la C hR hla hs c1 c2 => vm_runSN C hR hla c1 c2 hd hL hi (hC w r0 M0 h1 h2 h3).2 hfr hmx hn hst hs8)
theorem v_cSWi {ex' : Int → vm_O} {kc : Option (Int × mm_T)} {f : Int → mm_T → Option (α × mm_T)} (hd : vm_D y.2.1 pc 3 pc' (.invokestatic idx)) (hL : vm_LS y.1 idx yn (.codeWith yn bytes maxL ret hh) n) (hC : vm_Con l yn (.codeWith yn bytes maxL ret hh) fr' ex' as M kc) (he : ∀ r, vm_os (ex' r) = some [xI r]) (hfr : fr' + 1 ≤ fr) (hmx : maxL ≤ 45) (hn : as.length = n) (hst : st0 = as.reverse ++ st1) (hs8 : (st1.map vm_ct).sum ≤ 8) (kk : ∀ (r : Int) (M1 : mm_T), V_ l w y fr ex pc' ls (xI r :: st1) M1 (f r M1)) : V_ l w y fr ex pc ls st0 M (cl_ kc f) := by
  obtain ⟨hd, rfl⟩ := hd
  exact vm_callG (fun r M' h1 h2 h3 => (hC w r M' h1 h2 h3).1) (mem_stat hst).1 (mem_stat hst).2 he kk (fun r0 M0 h1 h2 h3 p e R s m args below meth c0 H locs cells slots la C hR hla hs c1 c2 => vm_runSW C hR hla c1 c2 hd hL (hC w r0 M0 h1 h2 h3).2 hfr hmx hn hst hs8)
end CALLS2
