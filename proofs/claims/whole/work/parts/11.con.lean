section CON
variable {α : Type} {l : Launch} {w : vm_W} {y : vm_Y} {fr : Nat} {ex : α → vm_O} {pc pc' tgt : Nat} {ls ls' : List (Nat × vm_X)} {st st' : List vm_X} {M M1 : mm_T} {k k1 k2 : Option (α × mm_T)}
theorem vm_sum (w : vm_W) (st : List vm_X) : ((st.map (vm_v w)).map fun v => v.category).sum = (st.map vm_ct).sum := by
  rw [List.map_map]
  congr 2
  funext X
  exact vm_ct_v w X
theorem gw_good : ∀ v ∈ gw_G, (v.onTables && v.keeps) = true ∨ ∃ ty, v = .arrayClass ty := fun _ h => good_of_word (List.mem_filter.mp h).2
-- Object's constructor, Math
theorem v_objinit {a c idx : Nat} {q : vw_C} (hd : vm_D y.2.1 pc 3 pc' (.invokespecial idx)) (hq : vm_cl[c]? = some q) (h1 : Cond.methodLink y.1 idx Lib.objectInit ∈ gw_G) (h2 : Cond.instanceMethod Lib.objectInit ∈ gw_G) (h3 : Cond.code Lib.objectInit ⟨#[0xb1]⟩ 1 none ∈ gw_G) (hfr : 1 ≤ fr) (kk : V_ l w y fr ex pc' ls [] M k) : V_ l w y fr ex pc ls [xA a] M (ob_ M a c k) := by
  obtain ⟨hd, rfl⟩ := hd
  intro r M' hk
  unfold ob_ at hk
  split at hk
  case isFalse => cases hk
  case isTrue ht =>
    refine V_.go (st := [xA a]) kk (fun h1 h2 _ => ⟨h1, fun v hv => (by cases hv)⟩) ?_ r M' hk
    intro _ _ _ p e R s m args below meth c0 H locs cells slots Q la _ _ C hR hl2 K
    obtain ⟨g1, g2, g3⟩ := vm_E_obj hR ht hq
    have e0 : vm_v w (xA a) = .ref (vm_ad w a) := vm_rv_n0 w g1
    rw [List.map_cons, e0]
    obtain ⟨⟨cx, cb, cm, cown, chts⟩, -, cf, cl2, -⟩ := C
    exact W.objInit cx cb cown (chts _ h1) (chts _ h2) (chts _ h3) rfl (by rw [cm]; exact hl2.1) rfl hd (by omega) (by show 2 * 0 + 0 + 12 ≤ _; omega) (K la hl2)
theorem v_mmax {a b : Int} {idx : Nat} (hd : vm_D y.2.1 pc 3 pc' (.invokestatic idx)) (h1 : Cond.methodLink y.1 idx Lib.Math.max.name ∈ gw_G) (h2 : Cond.static Lib.Math.max.name ∈ gw_G) (h3 : Cond.initialized "java/lang/Math" ∈ gw_G) (h4 : Cond.code Lib.Math.max.name Lib.Math.max.code 2 (some .int) ∈ gw_G) (hfr : 1 ≤ fr) (hst : (st.map vm_ct).sum ≤ 40) (kk : V_ l w y fr ex pc' ls (xI (mx_ a b) :: st) M k) : V_ l w y fr ex pc ls (xI b :: xI a :: st) M k := by
  obtain ⟨hd, rfl⟩ := hd
  refine V_.go kk (fun h1 h2 _ => ⟨h1, List.forall_mem_cons.mpr ⟨?_, fun v hv => h2 v (List.mem_cons_of_mem _ (List.mem_cons_of_mem _ hv))⟩⟩) ?_
  · have ha := h2 (xI a) (List.mem_cons_of_mem _ List.mem_cons_self)
    have hb := h2 (xI b) List.mem_cons_self
    show mm_in (mx_ a b)
    unfold mx_
    split
    · exact hb
    · exact ha
  intro _ h9 _ p e R s m args below meth c0 H locs cells slots Q la hc hs C hR hl2 K
  have ha : mm_in a := h9 (xI a) (List.mem_cons_of_mem _ List.mem_cons_self)
  have hb : mm_in b := h9 (xI b) List.mem_cons_self
  obtain ⟨⟨cx, cb, cm, cown, chts⟩, -, cf, cl2, -⟩ := C
  have K2 := K la hl2
  refine va_mmax cx cb (by rw [cm]; exact hl2.1.symm) cown (chts _ h1) (chts _ h2) (chts _ h3) (chts _ h4) (by omega) (by rw [vm_sum]; omega) hc hs hd ?_
  have e1 : (if Int32.ofInt a < Int32.ofInt b then Int32.ofInt b else Int32.ofInt a) = Int32.ofInt (mx_ a b) := by
    unfold mx_
    by_cases h : a < b
    · rw [if_pos h, if_pos ((mm_lt ha hb).mpr h)]
    · rw [if_neg h, if_neg (fun q => h ((mm_lt ha hb).mp q))]
  rw [e1]
  exact K2
theorem v_mmin {a b : Int} {idx : Nat} (hd : vm_D y.2.1 pc 3 pc' (.invokestatic idx)) (h1 : Cond.methodLink y.1 idx Lib.Math.min.name ∈ gw_G) (h2 : Cond.static Lib.Math.min.name ∈ gw_G) (h3 : Cond.initialized "java/lang/Math" ∈ gw_G) (h4 : Cond.code Lib.Math.min.name Lib.Math.min.code 2 (some .int) ∈ gw_G) (hfr : 1 ≤ fr) (hst : (st.map vm_ct).sum ≤ 40) (kk : V_ l w y fr ex pc' ls (xI (mn_ a b) :: st) M k) : V_ l w y fr ex pc ls (xI b :: xI a :: st) M k := by
  obtain ⟨hd, rfl⟩ := hd
  refine V_.go kk (fun h1 h2 _ => ⟨h1, List.forall_mem_cons.mpr ⟨?_, fun v hv => h2 v (List.mem_cons_of_mem _ (List.mem_cons_of_mem _ hv))⟩⟩) ?_
  · have ha := h2 (xI a) (List.mem_cons_of_mem _ List.mem_cons_self)
    have hb := h2 (xI b) List.mem_cons_self
    show mm_in (mn_ a b)
    unfold mn_
    split
    · exact hb
    · exact ha
  intro _ h9 _ p e R s m args below meth c0 H locs cells slots Q la hc hs C hR hl2 K
  have ha : mm_in a := h9 (xI a) (List.mem_cons_of_mem _ List.mem_cons_self)
  have hb : mm_in b := h9 (xI b) List.mem_cons_self
  obtain ⟨⟨cx, cb, cm, cown, chts⟩, -, cf, cl2, -⟩ := C
  have K2 := K la hl2
  refine va_mmin cx cb (by rw [cm]; exact hl2.1.symm) cown (chts _ h1) (chts _ h2) (chts _ h3) (chts _ h4) (by omega) (by rw [vm_sum]; omega) hc hs hd ?_
  have e1 : (if Int32.ofInt b < Int32.ofInt a then Int32.ofInt b else Int32.ofInt a) = Int32.ofInt (mn_ a b) := by
    unfold mn_
    by_cases h : b < a
    · rw [if_pos h, if_pos ((mm_lt hb ha).mpr h)]
    · rw [if_neg h, if_neg (fun q => h ((mm_lt hb ha).mp q))]
  rw [e1]
  exact K2
-- ends
theorem v_ret {r : α} {v : vm_X} (hd : vm_D y.2.1 pc 1 pc' (vm_ri v)) (he : ex r = .inr (some (false, v))) : V_ l w y fr ex pc ls [v] M (some (r, M)) := by
  obtain ⟨hd, -⟩ := hd
  intro r' M' hk h1 h2 h3
  cases hk
  refine ⟨⟨Nat.le_refl _, Nat.le_refl _, ?_, h3⟩, ?_⟩
  · rw [he]; exact ⟨h2 v List.mem_cons_self, fun h => by cases h⟩
  intro p e R s m args below meth c H locs cells slots mc ms Q la C hR hs hl hla c1 c2 c3 c4 hZ
  rw [he] at hZ
  exact W.widen (k := mc) (n := ms) (by omega) (by omega) (hZ H locs pc la hR hs hl hd)
theorem v_zret {r : α} {x : Int} (hd : vm_D y.2.1 pc 1 pc' .ireturn) (he : ex r = .inr (some (true, xI x))) : V_ l w y fr ex pc ls [xI x] M (zz_ x (some (r, M))) := by
  obtain ⟨hd, -⟩ := hd
  intro r' M' hk h1 h2 h3
  unfold zz_ at hk
  split at hk
  case isFalse => cases hk
  case isTrue hx =>
    cases hk
    refine ⟨⟨Nat.le_refl _, Nat.le_refl _, ?_, h3⟩, ?_⟩
    · rw [he]; exact ⟨h2 _ List.mem_cons_self, fun h => by rcases hx with rfl | rfl; exact Or.inl rfl; exact Or.inr rfl⟩
    intro p e R s m args below meth c H locs cells slots mc ms Q la C hR hs hl hla c1 c2 c3 c4 hZ
    rw [he] at hZ
    exact W.widen (k := mc) (n := ms) (by omega) (by omega) (hZ H locs pc la hR hs hl hd)
theorem v_vret {r : α} (hd : vm_D y.2.1 pc 1 pc' .return_) (he : ex r = .inr none) : V_ l w y fr ex pc ls [] M (some (r, M)) := by
  obtain ⟨hd, -⟩ := hd
  intro r' M' hk h1 h2 h3
  cases hk
  refine ⟨⟨Nat.le_refl _, Nat.le_refl _, ?_, h3⟩, ?_⟩
  · rw [he]; trivial
  intro p e R s m args below meth c H locs cells slots mc ms Q la C hR hs hl hla c1 c2 c3 c4 hZ
  rw [he] at hZ
  exact W.widen (k := mc) (n := ms) (by omega) (by omega) (hZ H locs pc la hR hs hl hd)
theorem vm_R_exc {H H1 : Heap} (hR : vm_R w M H) (z : H.size ≤ H1.size) (o : ∀ q, q < H.size → H1[q]? = H[q]?) : vm_R w (mm_exc M) H1 := by
  obtain ⟨⟨r1, r2, r5⟩, r3, r4⟩ := hR
  have e1 : mm_ce (mm_exc M) = mm_ce M + 1 := rfl
  have e2 : mm_nc (mm_exc M) = mm_nc M := rfl
  refine ⟨⟨by rw [e2]; omega, fun h => by rw [e1, e2] at h; omega, by rw [e1, e2]; omega⟩, fun q hq => by rw [o q (by omega)]; exact r3 q hq, fun b => ?_⟩
  have h4 := r4 b
  unfold vm_E at h4 ⊢
  rw [show mm_ty (mm_exc M) b = mm_ty M b from rfl]
  split at h4
  · next c hc =>
    intro q hq
    obtain ⟨g1, g2, g3⟩ := h4 q hq
    exact ⟨g1, g2, t_OB.kept g3 (o _ (by rw [vm_ad_eq w g1]; omega))⟩
  · next t n hc =>
    obtain ⟨g1, g2, g3, g5, g4⟩ := h4
    refine ⟨g1, g2, g3, g5, ?_⟩
    rw [o _ (by rw [vm_ad_eq w g1]; omega)]
    exact g4
theorem v_throw {γ : Type} {ex : (Nat ⊕ γ) → vm_O} {E ik ic : Nat} (he : ex (.inl E) = .inl E) (d0 : decode y.2.1 pc = .ok (.new ik, 3)) (d3 : decode y.2.1 (pc + 3) = .ok (.dup, 1)) (d4 : decode y.2.1 (pc + 4) = .ok (.invokespecial ic, 3)) (d7 : decode y.2.1 (pc + 7) = .ok (.athrow, 1))
    (h1 : Cond.classLink y.1 ik (ex_n E) ∈ gw_G) (h2 : Cond.initialized (ex_n E) ∈ gw_G) (hat : ∀ v ∈ vx_at0 y.1 ic (ex_n E) ["java/lang/RuntimeException", "java/lang/Exception"], v ∈ gw_G ∨ v ∈ gw_X)
    (hgood : ∀ v ∈ Cond.classLink y.1 ik (ex_n E) :: Cond.initialized (ex_n E) :: vx_at0 y.1 ic (ex_n E) ["java/lang/RuntimeException", "java/lang/Exception"], vx_ot v = true) (hfit : Bundle.fit (ex_n E) = true) (hfr : 6 ≤ fr) (hst : (st.map vm_ct).sum ≤ 40) (hy : y.2.2.2.2 = []) :
    V_ l w y fr ex pc ls st M (th_ (γ := γ) M E) := by
  intro r' M' hk h1' h2' h3
  cases hk
  refine ⟨⟨Nat.le_succ _, Nat.le_add_right _ _, ?_, h3⟩, ?_⟩
  · rw [he]; trivial
  intro p e R s m args below meth c H locs cells slots mc ms Q la C hR hs hl hla c1 c2 c3 c4 hZ
  rw [he] at hZ
  obtain ⟨Qc, XC, free, rfl, hfree, hXC⟩ := hZ
  obtain ⟨⟨cx, cb, cm, cown, chts⟩, ⟨cK, cA, cN, cX, cbb, ⟨cz, ch⟩, cU, cS, -⟩, cf, cl2, clk, -, ctr, htab⟩ := C
  rw [hy] at htab
  have e1 : mm_ce (mm_exc M) = mm_ce M + 1 := rfl
  have e2 : mm_se (mm_exc M) = mm_se M + 6 := rfl
  have kp : ∀ a : Nat, a < (vm_H0 w).size → ¬ (fun q => vm_base w ≤ q) a → s.heap[a]? = (vm_H0 w)[a]? := fun a ha _ => ch a ha
  refine vx_throw0 (A := fun q => vm_base w ≤ q) (names := ["java/lang/RuntimeException", "java/lang/Exception"]) cx cb ctr cown hfit (by decide +kernel) (chts _ h1) (chts _ h2) (fun v hv => ?_) hgood (cU.kept kp) (cS.kept kp) ⟨hs, fun q q1 q2 => ?_, hl⟩ (by rw [cm]; exact hla.1) d0 d3 d4 d7 (fun x hx => by rw [htab] at hx; cases hx) (by show 2 + 3 < _; omega) (by rw [vm_sum]; show _ + (13 * (2 + 1) + 42) ≤ _; omega) (by omega) (by omega) clk (fun t t1 t2 t3 => hXC t t1 (by omega) (vm_R_exc hR t2 t3)) (fun z hz => hfree _ (hl z hz)) (by omega) (by omega)
  · rcases hat v hv with h | h
    · exact chts v h
    · exact va_Nw.use (by
        have := (List.mem_filter.mp h).2
        cases v <;> first | (simp [vm_xw] at this; done) | rfl) (cN v h)
  · have q3 : q < vm_base w := by simpa using q2
    rw [hR.2.1 q q3, ch q q3]
end CON
