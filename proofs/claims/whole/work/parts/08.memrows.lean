theorem arB_ok {M : mm_T} {a t : Nat} {i : Int} (h : arB_ M a t i = true) : ∃ n : Nat, mm_ty M a = .inr (t, n) ∧ 0 ≤ i ∧ i < n := by
  unfold arB_ at h
  split at h
  · next q hq =>
    simp only [Bool.and_eq_true, beq_iff_eq, decide_eq_true_eq] at h
    obtain ⟨⟨h1, h2⟩, h3⟩ := h
    exact ⟨q.2, by rw [hq, ← h1], h2, h3⟩
  · cases h
theorem mm_idx {i : Int} {n : Nat} (h0 : 0 ≤ i) (h1 : i < n) (hn : n < 2147483648) : ¬ (Int32.ofInt i < 0 ∨ n ≤ (Int32.ofInt i).toNatClampNeg) ∧ (Int32.ofInt i).toNatClampNeg = i.toNat := by
  have hi : mm_in i := by unfold mm_in; omega
  have e : (Int32.ofInt i).toNatClampNeg = i.toNat := by
    show (Int32.ofInt i).toInt.toNat = _
    rw [mm_of hi]
  refine ⟨fun h => ?_, e⟩
  rcases h with h | h
  · have := (mm_lt hi mm_0).mp h
    omega
  · rw [e] at h
    omega
theorem nar_b {x : Int} (h : -128 ≤ x ∧ x < 128) : narrow .byte (.int (Int32.ofInt x)) = .int (Int32.ofInt x) := by
  have hi : mm_in x := by unfold mm_in; omega
  show Value.int _ = _
  congr 1
  rw [← Int32.toInt_inj, mm_of hi]
  rw [Int8.toInt_toInt32, Int32.toInt_toInt8, mm_of hi]
  apply Int.bmod_eq_of_le <;> omega
theorem nar_z {x : Int} (h : x = 0 ∨ x = 1) : narrow .boolean (.int (Int32.ofInt x)) = .int (Int32.ofInt x) := by
  rcases h with rfl | rfl <;> rfl
section MEMROWS2
variable {α : Type} {l : Launch} {w : vm_W} {y : vm_Y} {fr : Nat} {ex : α → vm_O} {pc pc' tgt : Nat} {ls ls' : List (Nat × vm_X)} {st st' : List vm_X} {M M1 : mm_T} {k k1 k2 : Option (α × mm_T)}
/-- a step that changes the memory -/
theorem V_.goM {dc ds : Nat} (kk : V_ l w y fr ex pc' ls' st' M1 k) (hc : mm_ce M1 = mm_ce M + dc) (hs : mm_se M1 = mm_se M + ds) (hok : (∀ q ∈ ls, vm_okv q.2) → (∀ v ∈ st, vm_okv v) → mm_ok M → (∀ q ∈ ls', vm_okv q.2) ∧ (∀ v ∈ st', vm_okv v) ∧ mm_ok M1)
    (h : (∀ q ∈ ls, vm_okv q.2) → (∀ v ∈ st, vm_okv v) → mm_ok M → ∀ (p : Program) (e : Env) (R : Room) (s : State) (m : MethodId) (args : Array Value) (below : List Frame) (meth : Method) (c : Code) (H : Heap) (locs : List Loc) (cells slots : Nat) (Q : State → Prop) (la : Array Slot), cells + dc ≤ R.cells → slots + ds ≤ R.slots →
      vm_C l w y fr p R s m args meth c → vm_R w M H → lv_has la y.2.2.1 (ls.map (fun q => (q.1, vm_v w q.2))) →
      (∀ (H1 : Heap) (locs1 : List Loc), vm_R w M1 H1 → H.size ≤ H1.size → (∀ z ∈ locs1, z ∈ locs ∨ vm_base w ≤ z.base) → (∀ la' : Array Slot, lv_has la' y.2.2.1 (ls'.map (fun q => (q.1, vm_v w q.2))) → W p l e R s m args below meth c H1 locs1 (cells + dc) (slots + ds) Q (F0 m pc' la' (st'.map (vm_v w))))) →
      W p l e R s m args below meth c H locs cells slots Q (F0 m pc la (st.map (vm_v w)))) : V_ l w y fr ex pc ls st M k := by
  intro r M' hk h1 h2 h3
  obtain ⟨o1, o2, o3⟩ := hok h1 h2 h3
  obtain ⟨⟨a1, a2, a3, a4⟩, b⟩ := kk r M' hk o1 o2 o3
  refine ⟨⟨by omega, by omega, a3, a4⟩, ?_⟩
  intro p e R s m args below meth c H locs cells slots mc ms Q la C hR hs' hl hla c1 c2 c3 c4 hZ
  exact h h1 h2 h3 p e R s m args below meth c H locs cells slots Q la (by omega) (by omega) C hR hla (fun H1 locs1 hR1 hH hL la' hla' => b p e R s m args below meth c H1 locs1 (cells + dc) (slots + ds) mc ms Q la' C hR1 (by omega) (fun z hz => (hL z hz).elim (hl z) id) hla' (by omega) (by omega) c3 c4 hZ)
theorem vm_R_upd {H H1 : Heap} {a : Nat} (hR : vm_R w M H) (ha : 20 ≤ a) (h0 : M1.1 = M.1) (hty : mm_ty M1 = mm_ty M) (hI : ∀ b, b ≠ a → mm_I M1 b = mm_I M b) (hJ : ∀ b, b ≠ a → mm_J M1 b = mm_J M b) (hRr : ∀ b, b ≠ a → mm_R M1 b = mm_R M b) (z : H1.size = H.size) (o : ∀ x, x ≠ vm_ad w a → H1[x]? = H[x]?) (hE : vm_E w M1 a H1) : vm_R w M1 H1 := by
  have e1 : mm_nc M1 = mm_nc M := by unfold mm_nc; rw [h0]
  have e2 : mm_ce M1 = mm_ce M := by unfold mm_ce; rw [h0]
  obtain ⟨⟨r1, r2, r5⟩, r3, r4⟩ := hR
  refine ⟨⟨by rw [e1, z]; exact r1, by rw [e1, e2, z]; exact r2, by rw [e1, e2]; exact r5⟩, fun q hq => ?_, fun b => ?_⟩
  · rw [o q (by have := vm_ad_ge w ha; omega)]
    exact r3 q hq
  · by_cases hb : b = a
    · subst hb; exact hE
    · have h4 := r4 b
      unfold vm_E at h4 ⊢
      rw [hty]
      split at h4
      · next c hc =>
        intro q hq
        obtain ⟨g1, g2, g3⟩ := h4 q hq
        refine ⟨g1, by rw [e1]; exact g2, ?_⟩
        have e3 : vm_fv w M1 c b = vm_fv w M c b := by
          funext j
          unfold vm_fv
          rw [hI b hb, hRr b hb]
        rw [e3]
        exact g3.kept (o _ (fun h => hb (vm_ad_inj w g1 ha h)))
      · next t n hc =>
        obtain ⟨g1, g2, g3, g5, g4⟩ := h4
        refine ⟨g1, by rw [e1]; exact g2, g3, g5, ?_⟩
        have e3 : vm_av w M1 t b = vm_av w M t b := by
          funext j
          unfold vm_av
          rw [hI b hb, hJ b hb, hRr b hb]
        rw [e3, o _ (fun h => hb (vm_ad_inj w g1 ha h))]
        exact g4
theorem mm_up_ne {β : Type} {f : Nat → Nat → β} {a j b : Nat} {x : β} (h : b ≠ a) : mm_up f a j x b = f b := by
  funext i
  unfold mm_up
  rw [if_neg (fun q => h q.1)]
theorem mm_ok_wI {a j : Nat} {x : Int} (h : mm_ok M) (hx : mm_in x) : mm_ok (mm_wI M a j x) := by
  intro b i
  show mm_in (mm_up (mm_I M) a j x b i)
  unfold mm_up
  split
  · exact hx
  · exact h b i
-- fields
theorem v_gI {a c j idx : Nat} {q : vw_C} {f : Int → Option (α × mm_T)} (hd : vm_D y.2.1 pc 3 pc' (.getfield idx)) (hF : vm_FL y.1 idx c j q) (hr : vm_fr c j = false) (kk : ∀ x : Int, V_ l w y fr ex pc' ls (xI x :: st) M (f x)) : V_ l w y fr ex pc ls (xA a :: st) M (gI_ M a c j f) := by
  obtain ⟨hd, rfl⟩ := hd
  intro r M' hk
  unfold gI_ at hk
  split at hk
  case isFalse => cases hk
  case isTrue ht =>
    refine V_.go (kk (mm_I M a j)) (fun h1 h2 h3 => ⟨h1, List.forall_mem_cons.mpr ⟨h3 a j, fun v hv => h2 v (List.mem_cons_of_mem _ hv)⟩⟩) ?_ r M' hk
    intro _ _ _ p e R s m args below meth c0 H locs cells slots Q la _ _ C hR hl2 K
    obtain ⟨g1, g2, g3⟩ := vm_E_obj hR ht hF.1
    have e0 : vm_v w (xA a) = .ref (vm_ad w a) := vm_rv_n0 w g1
    rw [List.map_cons, e0]
    refine mw_get C hF hd g3 ?_
    have e1 : vm_fv w M c a j = .int (Int32.ofInt (mm_I M a j)) := by unfold vm_fv; rw [hr]; rfl
    rw [e1]
    exact K la hl2
theorem v_gR {a c j idx : Nat} {q : vw_C} {f : Nat → Option (α × mm_T)} (hd : vm_D y.2.1 pc 3 pc' (.getfield idx)) (hF : vm_FL y.1 idx c j q) (hr : vm_fr c j = true) (kk : ∀ x : Nat, V_ l w y fr ex pc' ls (xA x :: st) M (f x)) : V_ l w y fr ex pc ls (xA a :: st) M (gR_ M a c j f) := by
  obtain ⟨hd, rfl⟩ := hd
  intro r M' hk
  unfold gR_ at hk
  split at hk
  case isFalse => cases hk
  case isTrue ht =>
    refine V_.go (kk (mm_R M a j)) (fun h1 h2 h3 => ⟨h1, List.forall_mem_cons.mpr ⟨trivial, fun v hv => h2 v (List.mem_cons_of_mem _ hv)⟩⟩) ?_ r M' hk
    intro _ _ _ p e R s m args below meth c0 H locs cells slots Q la _ _ C hR hl2 K
    obtain ⟨g1, g2, g3⟩ := vm_E_obj hR ht hF.1
    have e0 : vm_v w (xA a) = .ref (vm_ad w a) := vm_rv_n0 w g1
    rw [List.map_cons, e0]
    refine mw_get C hF hd g3 ?_
    have e1 : vm_fv w M c a j = vm_rv w (mm_R M a j) := by unfold vm_fv; rw [hr]; rfl
    rw [e1]
    exact K la hl2
/-- whether a field may be written here -/
def vm_FP (y : vm_Y) (idx j : Nat) (q : vw_C) : Prop := (q.2.1 j).2.2.2 = false ∨ (y.2.2.2.1 = true ∧ (q.2.1 j).1 = y.1 ∧ Cond.fieldLink y.1 idx (q.2.1 j).1 (q.2.1 j).2.1 (q.2.1 j).2.2.1 ∈ gw_G ∧ (q.2.1 j).2.2.2 = true)
theorem v_pIg {a c j idx : Nat} {q : vw_C} {x : Int} {ty : FieldType} (hd : decode y.2.1 pc = .ok (.putfield idx, 3)) (hF : vm_FL y.1 idx c j q) (hP : vm_FP y idx j q) (hr : vm_fr c j = false) (hty : parseFieldDescriptor (q.2.1 j).2.2.1 = some ty) (hn : narrow ty (.int (Int32.ofInt x)) = .int (Int32.ofInt x)) (hfit : fits ty (.int (Int32.ofInt x)) = true) (ht : mm_ty M a = .inl c)
    (kk : V_ l w y fr ex (pc + 3) ls st (mm_wI M a j x) k) : V_ l w y fr ex pc ls (xI x :: xA a :: st) M k := by
  refine V_.goM (M := M) (dc := 0) (ds := 0) kk rfl rfl (fun h1 h2 h3 => ⟨h1, fun v hv => h2 v (List.mem_cons_of_mem _ (List.mem_cons_of_mem _ hv)), mm_ok_wI h3 (h2 (xI x) List.mem_cons_self)⟩) ?_
  intro _ _ _ p e R s m args below meth c0 H locs cells slots Q la _ _ C hR hl2 K
  obtain ⟨g1, g2, g3⟩ := vm_E_obj hR ht hF.1
  have e0 : vm_v w (xA a) = .ref (vm_ad w a) := vm_rv_n0 w g1
  rw [List.map_cons, List.map_cons, e0]
  refine mw_put C hF hP hty hn hfit hd g3 (fun H1 i t1 z o => ?_)
  refine K H1 _ (vm_R_upd hR g1 rfl rfl (fun b hb => mm_up_ne hb) (fun b hb => rfl) (fun b hb => rfl) z o ?_) (Nat.le_of_eq z.symm) (fun z9 hz => ?_) la hl2
  · unfold vm_E
    rw [show mm_ty (mm_wI M a j x) a = .inl c from ht]
    intro q' hq'
    have := Option.some.inj (hq'.symm.trans hF.1)
    subst this
    refine ⟨g1, g2, t_OB_cong t1 (fun i hi => ?_)⟩
    unfold updV vm_fv
    by_cases hij : i = j
    · subst hij
      simp [hr, mm_I, mm_wI, mm_up]
      rfl
    · simp [hij, mm_I, mm_R, mm_wI, mm_up]
  · rcases List.mem_append.mp hz with h | h
    · exact Or.inl h
    · right
      rw [List.mem_singleton.mp h]
      exact vm_ad_ge w g1
theorem v_pI {a c j idx : Nat} {q : vw_C} {x : Int} {f : mm_T → Option (α × mm_T)} (hd : vm_D y.2.1 pc 3 pc' (.putfield idx)) (hF : vm_FL y.1 idx c j q) (hP : vm_FP y idx j q) (hr : vm_fr c j = false) (hty : (q.2.1 j).2.2.1 = "I") (kk : ∀ M1 : mm_T, V_ l w y fr ex pc' ls st M1 (f M1)) : V_ l w y fr ex pc ls (xI x :: xA a :: st) M (pI_ M a c j x f) := by
  obtain ⟨hd, rfl⟩ := hd
  intro r M' hk
  unfold pI_ at hk
  split at hk
  case isFalse => cases hk
  case isTrue ht => exact v_pIg (ty := .int) hd hF hP hr (by rw [hty]; rfl) rfl rfl ht (kk _) r M' hk
theorem v_pZ {a c j idx : Nat} {q : vw_C} {x : Int} {f : mm_T → Option (α × mm_T)} (hd : vm_D y.2.1 pc 3 pc' (.putfield idx)) (hF : vm_FL y.1 idx c j q) (hP : vm_FP y idx j q) (hr : vm_fr c j = false) (hty : (q.2.1 j).2.2.1 = "Z") (kk : ∀ M1 : mm_T, V_ l w y fr ex pc' ls st M1 (f M1)) : V_ l w y fr ex pc ls (xI x :: xA a :: st) M (pZ_ M a c j x f) := by
  obtain ⟨hd, rfl⟩ := hd
  intro r M' hk
  unfold pZ_ at hk
  split at hk
  case isFalse => cases hk
  case isTrue ht => exact v_pIg (ty := .boolean) hd hF hP hr (by rw [hty]; rfl) (nar_z ht.2) (by rcases ht.2 with h | h <;> (subst h; rfl)) ht.1 (kk _) r M' hk
theorem v_pR {a c j idx : Nat} {q : vw_C} {x : Nat} {ty : FieldType} {f : mm_T → Option (α × mm_T)} (hd : vm_D y.2.1 pc 3 pc' (.putfield idx)) (hF : vm_FL y.1 idx c j q) (hP : vm_FP y idx j q) (hr : vm_fr c j = true) (hty : parseFieldDescriptor (q.2.1 j).2.2.1 = some ty) (hn : ∀ v : Value, v = .null ∨ (∃ b, v = .ref b) → narrow ty v = v ∧ fits ty v = true) (kk : ∀ M1 : mm_T, V_ l w y fr ex pc' ls st M1 (f M1)) : V_ l w y fr ex pc ls (xA x :: xA a :: st) M (pR_ M a c j x f) := by
  obtain ⟨hd, rfl⟩ := hd
  intro r M' hk
  unfold pR_ at hk
  split at hk
  case isFalse => cases hk
  case isTrue ht =>
    refine V_.goM (st := xA x :: xA a :: st) (M := M) (M1 := mm_wR M a j x) (dc := 0) (ds := 0) (kk _) rfl rfl (fun h1 h2 h3 => ⟨h1, fun v hv => h2 v (List.mem_cons_of_mem _ (List.mem_cons_of_mem _ hv)), h3⟩) ?_ r M' hk
    intro _ _ _ p e R s m args below meth c0 H locs cells slots Q la _ _ C hR hl2 K
    obtain ⟨g1, g2, g3⟩ := vm_E_obj hR ht hF.1
    have e0 : vm_v w (xA a) = .ref (vm_ad w a) := vm_rv_n0 w g1
    rw [List.map_cons, List.map_cons, e0]
    have hv : vm_v w (xA x) = .null ∨ ∃ b, vm_v w (xA x) = .ref b := by
      show vm_rv w x = .null ∨ ∃ b, vm_rv w x = .ref b
      unfold vm_rv
      split
      · exact Or.inl rfl
      · exact Or.inr ⟨_, rfl⟩
    refine mw_put C hF hP hty (hn _ hv).1 (hn _ hv).2 hd g3 (fun H1 i t1 z o => ?_)
    refine K H1 _ (vm_R_upd hR g1 rfl rfl (fun b hb => rfl) (fun b hb => rfl) (fun b hb => mm_up_ne hb) z o ?_) (Nat.le_of_eq z.symm) (fun z9 hz => ?_) la hl2
    · unfold vm_E
      rw [show mm_ty (mm_wR M a j x) a = .inl c from ht]
      intro q' hq'
      have := Option.some.inj (hq'.symm.trans hF.1)
      subst this
      refine ⟨g1, g2, t_OB_cong t1 (fun i hi => ?_)⟩
      unfold updV vm_fv
      by_cases hij : i = j
      · subst hij
        simp [hr, mm_R, mm_wR, mm_up]
        rfl
      · simp [hij, mm_I, mm_R, mm_wR, mm_up]
    · rcases List.mem_append.mp hz with h | h
      · exact Or.inl h
      · right
        rw [List.mem_singleton.mp h]
        exact vm_ad_ge w g1
theorem v_iald {a : Nat} {i : Int} {f : Int → Option (α × mm_T)} (hd : vm_D y.2.1 pc 1 pc' .iaload) (kk : ∀ x : Int, V_ l w y fr ex pc' ls (xI x :: st) M (f x)) : V_ l w y fr ex pc ls (xI i :: xA a :: st) M (aI_ M a 0 i f) := by
  obtain ⟨hd, rfl⟩ := hd
  intro r M' hk
  unfold aI_ at hk
  split at hk
  case isFalse => cases hk
  case isTrue ht =>
    obtain ⟨n, ht, i0, i1⟩ := arB_ok ht
    refine V_.go (st := xI i :: xA a :: st) (kk (mm_I M a i.toNat)) (fun h1 h2 h3 => ⟨h1, List.forall_mem_cons.mpr ⟨h3 a i.toNat, fun v hv => h2 v (List.mem_cons_of_mem _ (List.mem_cons_of_mem _ hv))⟩⟩) ?_ r M' hk
    intro _ _ _ p e R s m args below meth c0 H locs cells slots Q la _ _ C hR hl2 K
    obtain ⟨g1, g2, g3, g5, g4⟩ := vm_E_arr hR ht
    obtain ⟨x1, x2⟩ := mm_idx i0 i1 g3
    have e0 : vm_v w (xA a) = .ref (vm_ad w a) := vm_rv_n0 w g1
    rw [List.map_cons, List.map_cons, e0]
    exact W.iald (v := vm_v w (xI (mm_I M a i.toNat))) C.1.1 C.1.2.1 g4 ((C.2.1.2.1 0 _ rfl).1 n _) (fun q => by cases q) (by rw [arrV_size]; exact x1) (by rw [x2, arrV_read _ _ (by omega)]; rfl) rfl rfl hd (K la hl2)
theorem v_bald {a : Nat} {i : Int} {f : Int → Option (α × mm_T)} (hd : vm_D y.2.1 pc 1 pc' .baload) (kk : ∀ x : Int, V_ l w y fr ex pc' ls (xI x :: st) M (f x)) : V_ l w y fr ex pc ls (xI i :: xA a :: st) M (aI_ M a 1 i f) := by
  obtain ⟨hd, rfl⟩ := hd
  intro r M' hk
  unfold aI_ at hk
  split at hk
  case isFalse => cases hk
  case isTrue ht =>
    obtain ⟨n, ht, i0, i1⟩ := arB_ok ht
    refine V_.go (st := xI i :: xA a :: st) (kk (mm_I M a i.toNat)) (fun h1 h2 h3 => ⟨h1, List.forall_mem_cons.mpr ⟨h3 a i.toNat, fun v hv => h2 v (List.mem_cons_of_mem _ (List.mem_cons_of_mem _ hv))⟩⟩) ?_ r M' hk
    intro _ _ _ p e R s m args below meth c0 H locs cells slots Q la _ _ C hR hl2 K
    obtain ⟨g1, g2, g3, g5, g4⟩ := vm_E_arr hR ht
    obtain ⟨x1, x2⟩ := mm_idx i0 i1 g3
    have e0 : vm_v w (xA a) = .ref (vm_ad w a) := vm_rv_n0 w g1
    rw [List.map_cons, List.map_cons, e0]
    exact W.bald (v := vm_v w (xI (mm_I M a i.toNat))) C.1.1 C.1.2.1 g4 ((C.2.1.2.1 1 _ rfl).1 n _) (fun q => by cases q) (by rw [arrV_size]; exact x1) (by rw [x2, arrV_read _ _ (by omega)]; rfl) rfl rfl hd (K la hl2)
theorem v_zald {a : Nat} {i : Int} {f : Int → Option (α × mm_T)} (hd : vm_D y.2.1 pc 1 pc' .baload) (kk : ∀ x : Int, V_ l w y fr ex pc' ls (xI x :: st) M (f x)) : V_ l w y fr ex pc ls (xI i :: xA a :: st) M (aI_ M a 2 i f) := by
  obtain ⟨hd, rfl⟩ := hd
  intro r M' hk
  unfold aI_ at hk
  split at hk
  case isFalse => cases hk
  case isTrue ht =>
    obtain ⟨n, ht, i0, i1⟩ := arB_ok ht
    refine V_.go (st := xI i :: xA a :: st) (kk (mm_I M a i.toNat)) (fun h1 h2 h3 => ⟨h1, List.forall_mem_cons.mpr ⟨h3 a i.toNat, fun v hv => h2 v (List.mem_cons_of_mem _ (List.mem_cons_of_mem _ hv))⟩⟩) ?_ r M' hk
    intro _ _ _ p e R s m args below meth c0 H locs cells slots Q la _ _ C hR hl2 K
    obtain ⟨g1, g2, g3, g5, g4⟩ := vm_E_arr hR ht
    obtain ⟨x1, x2⟩ := mm_idx i0 i1 g3
    have e0 : vm_v w (xA a) = .ref (vm_ad w a) := vm_rv_n0 w g1
    rw [List.map_cons, List.map_cons, e0]
    exact W.zald (v := vm_v w (xI (mm_I M a i.toNat))) C.1.1 C.1.2.1 g4 ((C.2.1.2.1 2 _ rfl).1 n _) (fun q => by cases q) (by rw [arrV_size]; exact x1) (by rw [x2, arrV_read _ _ (by omega)]; rfl) rfl rfl hd (K la hl2)
theorem v_lald {a : Nat} {i : Int} {f : Int64 → Option (α × mm_T)} (hd : vm_D y.2.1 pc 1 pc' .laload) (kk : ∀ x : Int64, V_ l w y fr ex pc' ls (xJ x :: st) M (f x)) : V_ l w y fr ex pc ls (xI i :: xA a :: st) M (aJ_ M a i f) := by
  obtain ⟨hd, rfl⟩ := hd
  intro r M' hk
  unfold aJ_ at hk
  split at hk
  case isFalse => cases hk
  case isTrue ht =>
    obtain ⟨n, ht, i0, i1⟩ := arB_ok ht
    refine V_.go (st := xI i :: xA a :: st) (kk (mm_J M a i.toNat)) (fun h1 h2 h3 => ⟨h1, List.forall_mem_cons.mpr ⟨trivial, fun v hv => h2 v (List.mem_cons_of_mem _ (List.mem_cons_of_mem _ hv))⟩⟩) ?_ r M' hk
    intro _ _ _ p e R s m args below meth c0 H locs cells slots Q la _ _ C hR hl2 K
    obtain ⟨g1, g2, g3, g5, g4⟩ := vm_E_arr hR ht
    obtain ⟨x1, x2⟩ := mm_idx i0 i1 g3
    have e0 : vm_v w (xA a) = .ref (vm_ad w a) := vm_rv_n0 w g1
    rw [List.map_cons, List.map_cons, e0]
    exact W.lald (v := vm_v w (xJ (mm_J M a i.toNat))) C.1.1 C.1.2.1 g4 ((C.2.1.2.1 3 _ rfl).1 n _) (fun q => by cases q) (by rw [arrV_size]; exact x1) (by rw [x2, arrV_read _ _ (by omega)]; rfl) rfl rfl hd (K la hl2)
theorem v_aald {a t : Nat} {i : Int} {ty : FieldType} {f : Nat → Option (α × mm_T)} (hd : vm_D y.2.1 pc 1 pc' .aaload) (ht4 : 4 ≤ t) (hty : vm_at[t]? = some ty) (hre : ty.isReference = true) (kk : ∀ x : Nat, V_ l w y fr ex pc' ls (xA x :: st) M (f x)) : V_ l w y fr ex pc ls (xI i :: xA a :: st) M (aR_ M a t i f) := by
  obtain ⟨hd, rfl⟩ := hd
  intro r M' hk
  unfold aR_ at hk
  split at hk
  case isFalse => cases hk
  case isTrue ht =>
    obtain ⟨n, ht, i0, i1⟩ := arB_ok ht
    refine V_.go (st := xI i :: xA a :: st) (kk (mm_R M a i.toNat)) (fun h1 h2 h3 => ⟨h1, List.forall_mem_cons.mpr ⟨trivial, fun v hv => h2 v (List.mem_cons_of_mem _ (List.mem_cons_of_mem _ hv))⟩⟩) ?_ r M' hk
    intro _ _ _ p e R s m args below meth c0 H locs cells slots Q la _ _ C hR hl2 K
    obtain ⟨g1, g2, g3, g5, g4⟩ := vm_E_arr hR ht
    obtain ⟨x1, x2⟩ := mm_idx i0 i1 g3
    have e0 : vm_v w (xA a) = .ref (vm_ad w a) := vm_rv_n0 w g1
    rw [List.map_cons, List.map_cons, e0]
    refine W.aald (v := vm_v w (xA (mm_R M a i.toNat))) C.1.1 C.1.2.1 g4 ((C.2.1.2.1 t _ hty).1 n _) hre (fun q => by cases q) (by rw [arrV_size]; exact x1) ?_ rfl rfl hd (K la hl2)
    rw [x2, arrV_read _ _ (by omega)]
    unfold vm_av
    rw [if_neg (by omega), if_neg (by omega)]
    rfl
theorem v_alen {a t : Nat} {ty : FieldType} {f : Int → Option (α × mm_T)} (hd : vm_D y.2.1 pc 1 pc' .arraylength) (hty : vm_at[t]? = some ty) (kk : ∀ x : Int, V_ l w y fr ex pc' ls (xI x :: st) M (f x)) : V_ l w y fr ex pc ls (xA a :: st) M (al_ M a t f) := by
  obtain ⟨hd, rfl⟩ := hd
  intro r M' hk
  unfold al_ at hk
  split at hk
  · next q hq =>
    obtain ⟨t', n⟩ := q
    split at hk
    case isFalse => cases hk
    case isTrue ht =>
      obtain ⟨ht, hn⟩ : t' = t ∧ n < 2147483648 := ht
      subst ht
      refine V_.go (st := xA a :: st) (kk (n : Int)) (fun h1 h2 h3 => ⟨h1, List.forall_mem_cons.mpr ⟨(show mm_in (n : Int) from ⟨by omega, by omega⟩), fun v hv => h2 v (List.mem_cons_of_mem _ hv)⟩⟩) ?_ r M' hk
      intro _ _ _ p e R s m args below meth c0 H locs cells slots Q la _ _ C hR hl2 K
      obtain ⟨g1, g2, g3, g5, g4⟩ := vm_E_arr hR hq
      have e0 : vm_v w (xA a) = .ref (vm_ad w a) := vm_rv_n0 w g1
      rw [List.map_cons, e0]
      refine W.alen (n := Int32.ofInt (n : Int)) C.1.1 C.1.2.1 g4 ((C.2.1.2.1 t' _ hty).1 n _) ?_ rfl rfl hd (K la hl2)
      rw [arrV_size]
      rfl
  · cases hk
theorem v_iast {a : Nat} {i : Int} {x : Int} {f : mm_T → Option (α × mm_T)} (hd : vm_D y.2.1 pc 1 pc' .iastore) (kk : ∀ M1 : mm_T, V_ l w y fr ex pc' ls st M1 (f M1)) : V_ l w y fr ex pc ls (xI x :: xI i :: xA a :: st) M (sI_ M a i x f) := by
  obtain ⟨hd, rfl⟩ := hd
  intro r M' hk
  unfold sI_ at hk
  split at hk
  case isFalse => cases hk
  case isTrue ht =>
    obtain ⟨n, ht, i0, i1⟩ := arB_ok ht
    refine V_.goM (st := xI x :: xI i :: xA a :: st) (M := M) (M1 := mm_wI M a i.toNat x) (dc := 0) (ds := 0) (kk _) rfl rfl (fun h1 h2 h3 => ⟨h1, fun v hv => h2 v (List.mem_cons_of_mem _ (List.mem_cons_of_mem _ (List.mem_cons_of_mem _ hv))), mm_ok_wI h3 (h2 (xI x) List.mem_cons_self)⟩) ?_ r M' hk
    intro _ _ _ p e R s m args below meth c0 H locs cells slots Q la _ _ C hR hl2 K
    obtain ⟨g1, g2, g3, g5, g4⟩ := vm_E_arr hR ht
    obtain ⟨x1, x2⟩ := mm_idx i0 i1 g3
    have e0 : vm_v w (xA a) = .ref (vm_ad w a) := vm_rv_n0 w g1
    rw [List.map_cons, List.map_cons, List.map_cons, e0]
    refine W.iast C.1.1 C.1.2.1 g4 ((C.2.1.2.1 0 _ rfl).1 n _) (fun q => by cases q) (by rw [arrV_size]; exact x1) rfl rfl hd (fun H1 e1 z o => ?_)
    refine K H1 _ (vm_R_upd hR g1 rfl rfl (fun b hb => mm_up_ne hb) (fun b hb => rfl) (fun b hb => rfl) z o ?_) (Nat.le_of_eq z.symm) (fun z9 hz => ?_) la hl2
    · unfold vm_E
      rw [show mm_ty (mm_wI M a i.toNat x) a = .inr (0, n) from ht]
      refine ⟨g1, g2, g3, g5, ?_⟩
      rw [e1, x2]
      rw [arrV_store]
      congr 2
      funext j
      unfold updV vm_av
      by_cases hij : j = i.toNat
      · subst hij
        simp [mm_I, mm_wI, mm_J, mm_wJ, mm_up]
      · simp [hij, mm_I, mm_R, mm_wI, mm_J, mm_wJ, mm_up]
    · rcases List.mem_append.mp hz with h | h
      · exact Or.inl h
      · right
        rw [List.mem_singleton.mp h]
        exact vm_ad_ge w g1
theorem v_bast {a : Nat} {i : Int} {x : Int} {f : mm_T → Option (α × mm_T)} (hd : vm_D y.2.1 pc 1 pc' .bastore) (kk : ∀ M1 : mm_T, V_ l w y fr ex pc' ls st M1 (f M1)) : V_ l w y fr ex pc ls (xI x :: xI i :: xA a :: st) M (sB_ M a i x f) := by
  obtain ⟨hd, rfl⟩ := hd
  intro r M' hk
  unfold sB_ at hk
  split at hk
  case isFalse => cases hk
  case isTrue ht =>
    obtain ⟨ht, ht2⟩ := ht
    obtain ⟨n, ht, i0, i1⟩ := arB_ok ht
    refine V_.goM (st := xI x :: xI i :: xA a :: st) (M := M) (M1 := mm_wI M a i.toNat x) (dc := 0) (ds := 0) (kk _) rfl rfl (fun h1 h2 h3 => ⟨h1, fun v hv => h2 v (List.mem_cons_of_mem _ (List.mem_cons_of_mem _ (List.mem_cons_of_mem _ hv))), mm_ok_wI h3 (h2 (xI x) List.mem_cons_self)⟩) ?_ r M' hk
    intro _ _ _ p e R s m args below meth c0 H locs cells slots Q la _ _ C hR hl2 K
    obtain ⟨g1, g2, g3, g5, g4⟩ := vm_E_arr hR ht
    obtain ⟨x1, x2⟩ := mm_idx i0 i1 g3
    have e0 : vm_v w (xA a) = .ref (vm_ad w a) := vm_rv_n0 w g1
    rw [List.map_cons, List.map_cons, List.map_cons, e0]
    refine W.bast C.1.1 C.1.2.1 g4 ((C.2.1.2.1 1 _ rfl).1 n _) (fun q => by cases q) (by rw [arrV_size]; exact x1) rfl rfl hd (fun H1 e1 z o => ?_)
    refine K H1 _ (vm_R_upd hR g1 rfl rfl (fun b hb => mm_up_ne hb) (fun b hb => rfl) (fun b hb => rfl) z o ?_) (Nat.le_of_eq z.symm) (fun z9 hz => ?_) la hl2
    · unfold vm_E
      rw [show mm_ty (mm_wI M a i.toNat x) a = .inr (1, n) from ht]
      refine ⟨g1, g2, g3, g5, ?_⟩
      rw [e1, x2, nar_b ht2]
      rw [arrV_store]
      congr 2
      funext j
      unfold updV vm_av
      by_cases hij : j = i.toNat
      · subst hij
        simp [mm_I, mm_wI, mm_J, mm_wJ, mm_up]
      · simp [hij, mm_I, mm_R, mm_wI, mm_J, mm_wJ, mm_up]
    · rcases List.mem_append.mp hz with h | h
      · exact Or.inl h
      · right
        rw [List.mem_singleton.mp h]
        exact vm_ad_ge w g1
theorem v_zast {a : Nat} {i : Int} {x : Int} {f : mm_T → Option (α × mm_T)} (hd : vm_D y.2.1 pc 1 pc' .bastore) (kk : ∀ M1 : mm_T, V_ l w y fr ex pc' ls st M1 (f M1)) : V_ l w y fr ex pc ls (xI x :: xI i :: xA a :: st) M (sZ_ M a i x f) := by
  obtain ⟨hd, rfl⟩ := hd
  intro r M' hk
  unfold sZ_ at hk
  split at hk
  case isFalse => cases hk
  case isTrue ht =>
    obtain ⟨ht, ht2⟩ := ht
    obtain ⟨n, ht, i0, i1⟩ := arB_ok ht
    refine V_.goM (st := xI x :: xI i :: xA a :: st) (M := M) (M1 := mm_wI M a i.toNat x) (dc := 0) (ds := 0) (kk _) rfl rfl (fun h1 h2 h3 => ⟨h1, fun v hv => h2 v (List.mem_cons_of_mem _ (List.mem_cons_of_mem _ (List.mem_cons_of_mem _ hv))), mm_ok_wI h3 (h2 (xI x) List.mem_cons_self)⟩) ?_ r M' hk
    intro _ _ _ p e R s m args below meth c0 H locs cells slots Q la _ _ C hR hl2 K
    obtain ⟨g1, g2, g3, g5, g4⟩ := vm_E_arr hR ht
    obtain ⟨x1, x2⟩ := mm_idx i0 i1 g3
    have e0 : vm_v w (xA a) = .ref (vm_ad w a) := vm_rv_n0 w g1
    rw [List.map_cons, List.map_cons, List.map_cons, e0]
    refine W.zast C.1.1 C.1.2.1 g4 ((C.2.1.2.1 2 _ rfl).1 n _) (fun q => by cases q) (by rw [arrV_size]; exact x1) rfl rfl hd (fun H1 e1 z o => ?_)
    refine K H1 _ (vm_R_upd hR g1 rfl rfl (fun b hb => mm_up_ne hb) (fun b hb => rfl) (fun b hb => rfl) z o ?_) (Nat.le_of_eq z.symm) (fun z9 hz => ?_) la hl2
    · unfold vm_E
      rw [show mm_ty (mm_wI M a i.toNat x) a = .inr (2, n) from ht]
      refine ⟨g1, g2, g3, g5, ?_⟩
      rw [e1, x2, nar_z ht2]
      rw [arrV_store]
      congr 2
      funext j
      unfold updV vm_av
      by_cases hij : j = i.toNat
      · subst hij
        simp [mm_I, mm_wI, mm_J, mm_wJ, mm_up]
      · simp [hij, mm_I, mm_R, mm_wI, mm_J, mm_wJ, mm_up]
    · rcases List.mem_append.mp hz with h | h
      · exact Or.inl h
      · right
        rw [List.mem_singleton.mp h]
        exact vm_ad_ge w g1
theorem v_last {a : Nat} {i : Int} {x : Int64} {f : mm_T → Option (α × mm_T)} (hd : vm_D y.2.1 pc 1 pc' .lastore) (kk : ∀ M1 : mm_T, V_ l w y fr ex pc' ls st M1 (f M1)) : V_ l w y fr ex pc ls (xJ x :: xI i :: xA a :: st) M (sJ_ M a i x f) := by
  obtain ⟨hd, rfl⟩ := hd
  intro r M' hk
  unfold sJ_ at hk
  split at hk
  case isFalse => cases hk
  case isTrue ht =>
    obtain ⟨n, ht, i0, i1⟩ := arB_ok ht
    refine V_.goM (st := xJ x :: xI i :: xA a :: st) (M := M) (M1 := mm_wJ M a i.toNat x) (dc := 0) (ds := 0) (kk _) rfl rfl (fun h1 h2 h3 => ⟨h1, fun v hv => h2 v (List.mem_cons_of_mem _ (List.mem_cons_of_mem _ (List.mem_cons_of_mem _ hv))), h3⟩) ?_ r M' hk
    intro _ _ _ p e R s m args below meth c0 H locs cells slots Q la _ _ C hR hl2 K
    obtain ⟨g1, g2, g3, g5, g4⟩ := vm_E_arr hR ht
    obtain ⟨x1, x2⟩ := mm_idx i0 i1 g3
    have e0 : vm_v w (xA a) = .ref (vm_ad w a) := vm_rv_n0 w g1
    rw [List.map_cons, List.map_cons, List.map_cons, e0]
    refine W.last C.1.1 C.1.2.1 g4 ((C.2.1.2.1 3 _ rfl).1 n _) (fun q => by cases q) (by rw [arrV_size]; exact x1) rfl rfl hd (fun H1 e1 z o => ?_)
    refine K H1 _ (vm_R_upd hR g1 rfl rfl (fun b hb => rfl) (fun b hb => mm_up_ne hb) (fun b hb => rfl) z o ?_) (Nat.le_of_eq z.symm) (fun z9 hz => ?_) la hl2
    · unfold vm_E
      rw [show mm_ty (mm_wJ M a i.toNat x) a = .inr (3, n) from ht]
      refine ⟨g1, g2, g3, g5, ?_⟩
      rw [e1, x2]
      rw [arrV_store]
      congr 2
      funext j
      unfold updV vm_av
      by_cases hij : j = i.toNat
      · subst hij
        simp [mm_I, mm_wI, mm_J, mm_wJ, mm_up]
      · simp [hij, mm_I, mm_R, mm_wI, mm_J, mm_wJ, mm_up]
    · rcases List.mem_append.mp hz with h | h
      · exact Or.inl h
      · right
        rw [List.mem_singleton.mp h]
        exact vm_ad_ge w g1
theorem v_aast {a t c : Nat} {i : Int} {x : Nat} {q : vw_C} {f : mm_T → Option (α × mm_T)} (hd : vm_D y.2.1 pc 1 pc' .aastore) (ht4 : 4 ≤ t) (hty : vm_at[t]? = some (.object q.1)) (hq : vm_cl[c]? = some q) (kk : ∀ M1 : mm_T, V_ l w y fr ex pc' ls st M1 (f M1)) : V_ l w y fr ex pc ls (xA x :: xI i :: xA a :: st) M (sR_ M a t i x c f) := by
  obtain ⟨hd, rfl⟩ := hd
  intro r M' hk
  unfold sR_ at hk
  split at hk
  case isFalse => cases hk
  case isTrue ht =>
    obtain ⟨ht, htx⟩ := ht
    obtain ⟨n, ht, i0, i1⟩ := arB_ok ht
    refine V_.goM (st := xA x :: xI i :: xA a :: st) (M := M) (M1 := mm_wR M a i.toNat x) (dc := 0) (ds := 0) (kk _) rfl rfl (fun h1 h2 h3 => ⟨h1, fun v hv => h2 v (List.mem_cons_of_mem _ (List.mem_cons_of_mem _ (List.mem_cons_of_mem _ hv))), h3⟩) ?_ r M' hk
    intro _ _ _ p e R s m args below meth c0 H locs cells slots Q la _ _ C hR hl2 K
    obtain ⟨g1, g2, g3, g5, g4⟩ := vm_E_arr hR ht
    obtain ⟨b1, b2, cellV, f1, f2, f3, -⟩ := vm_E_obj hR htx hq
    obtain ⟨x1, x2⟩ := mm_idx i0 i1 g3
    have e0 : vm_v w (xA a) = .ref (vm_ad w a) := vm_rv_n0 w g1
    have e9 : vm_v w (xA x) = .ref (vm_ad w x) := vm_rv_n0 w b1
    rw [List.map_cons, List.map_cons, List.map_cons, e0, e9]
    have hcls := (C.2.1.1 c q hq).2
    obtain ⟨kA, comp, k1, k2, k3, -⟩ := (C.2.1.2.1 t _ hty).2
    have hcomp : comp = vm_dC w c := Option.some.inj (k3.symm.trans hcls.1)
    subst hcomp
    obtain ⟨kC, hkC, -⟩ := hcls.2
    refine W.aast C.1.1 C.1.2.1 g4 (fun q h => by cases h) (fun h => by cases h) k1 k2 rfl hkC ⟨fun h => x1 (Or.inl h), by rw [arrV_size, x2]; omega⟩ f1 (fun q h => by rw [f3] at h; cases h) (by rw [f2]; exact hkC) (by rw [f2]; exact va_assign hcls) rfl rfl hd (fun H1 e1 z o => ?_)
    refine K H1 _ (vm_R_upd hR g1 rfl rfl (fun b hb => rfl) (fun b hb => rfl) (fun b hb => mm_up_ne hb) z o ?_) (Nat.le_of_eq z.symm) (fun z9 hz => ?_) la hl2
    · unfold vm_E
      rw [show mm_ty (mm_wR M a i.toNat x) a = .inr (t, n) from ht]
      refine ⟨g1, g2, g3, g5, ?_⟩
      rw [e1, x2]
      rw [arrV_store]
      congr 2
      funext j
      unfold updV vm_av
      have h3 : ¬ t < 3 := by omega
      have h4 : ¬ t = 3 := by omega
      by_cases hij : j = i.toNat
      · subst hij
        simp [h3, h4, mm_R, mm_wR, mm_up, vm_rv_n0 w b1]
      · simp [hij, h3, h4, mm_R, mm_wR, mm_up]
    · rcases List.mem_append.mp hz with h | h
      · exact Or.inl h
      · right
        rw [List.mem_singleton.mp h]
        exact vm_ad_ge w g1
end MEMROWS2
