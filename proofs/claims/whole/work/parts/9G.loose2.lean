/-! LOOSE: sets as numbers; the class; the model. -/
theorem z_bt3 : ∀ x y : Fin 8, and_ (x.val : Int) (xor_ (y.val : Int) (-1)) = ((x.val &&& (y.val ^^^ 7) : Nat) : Int) ∧ x.val &&& (y.val ^^^ 7) < 8 := by decide +kernel
theorem z_bt4 : ∀ x y : Fin 8, and_ (x.val : Int) (y.val : Int) = ((x.val &&& y.val : Nat) : Int) := by decide +kernel
theorem z_bt5 : ∀ x y : Fin 8, or_ (x.val : Int) (y.val : Int) = ((x.val ||| y.val : Nat) : Int) ∧ x.val ||| y.val < 8 := by decide +kernel
theorem z_bt6 : ∀ x : Fin 8, ∀ v : Fin 3, x.val ||| (1 <<< v.val) < 8 := by decide +kernel
theorem z_bwo {x y : Nat} (hx : x < 8) (hy : y < 8) : and_ (x : Int) (xor_ (y : Int) (-1)) = ((x &&& (y ^^^ 7) : Nat) : Int) := (z_bt3 ⟨x, hx⟩ ⟨y, hy⟩).1
theorem z_bwob {x y : Nat} (hx : x < 8) (hy : y < 8) : x &&& (y ^^^ 7) < 8 := (z_bt3 ⟨x, hx⟩ ⟨y, hy⟩).2
theorem z_ban {x y : Nat} (hx : x < 8) (hy : y < 8) : and_ (x : Int) (y : Int) = ((x &&& y : Nat) : Int) := z_bt4 ⟨x, hx⟩ ⟨y, hy⟩
theorem z_boo {x y : Nat} (hx : x < 8) (hy : y < 8) : or_ (x : Int) (y : Int) = ((x ||| y : Nat) : Int) := (z_bt5 ⟨x, hx⟩ ⟨y, hy⟩).1
theorem z_boob {x y : Nat} (hx : x < 8) (hy : y < 8) : x ||| y < 8 := (z_bt5 ⟨x, hx⟩ ⟨y, hy⟩).2
theorem z_b6 {x v : Nat} (hx : x < 8) (hv : v < 3) : x ||| (1 <<< v) < 8 := z_bt6 ⟨x, hx⟩ ⟨v, hv⟩
/-! the letters that are left, from the k-th on; the first k of them -/
def z_fs (P : Nat → Nat) (left : Nat) : Nat → Nat → List Nat
  | _, 0 => []
  | k, r + 1 => if Nat.testBit left (P k) = true then P k :: z_fs P left (k + 1) r else z_fs P left (k + 1) r
def z_fp (P : Nat → Nat) (left : Nat) : Nat → List Nat
  | 0 => []
  | k + 1 => if Nat.testBit left (P k) = true then z_fp P left k ++ [P k] else z_fp P left k
theorem z_fp_fs {P : Nat → Nat} {left : Nat} : ∀ {r k : Nat}, z_fp P left k ++ z_fs P left k r = z_fp P left (k + r)
  | 0, k => by simp only [z_fs, List.append_nil, Nat.add_zero]
  | r + 1, k => by
    have ih := z_fp_fs (P := P) (left := left) (r := r) (k := k + 1)
    rw [show k + (r + 1) = k + 1 + r from by omega, ← ih]
    by_cases h : Nat.testBit left (P k) = true
    · simp only [z_fs, z_fp, h, if_true, List.append_assoc, List.singleton_append]
    · simp only [z_fs, z_fp, h, if_false]
      rfl
theorem z_fs_fp {P : Nat → Nat} {left q : Nat} : z_fs P left 0 q = z_fp P left q := by
  have h := z_fp_fs (P := P) (left := left) (r := q) (k := 0)
  rw [Nat.zero_add] at h
  rw [← h]
  rfl
theorem z_fp_congr {P : Nat → Nat} {left left' : Nat} : ∀ {q : Nat}, (∀ k, k < q → Nat.testBit left (P k) = Nat.testBit left' (P k)) → z_fp P left q = z_fp P left' q
  | 0, _ => rfl
  | q + 1, h => by
    simp only [z_fp]
    rw [h q (by omega), z_fp_congr (q := q) (fun k hk => h k (by omega))]
theorem z_fp_len {P : Nat → Nat} {left : Nat} : ∀ {q : Nat}, (z_fp P left q).length ≤ q
  | 0 => Nat.le_refl _
  | q + 1 => by
    have ih := z_fp_len (P := P) (left := left) (q := q)
    simp only [z_fp]
    split
    · rw [List.length_append]
      simp only [List.length_cons, List.length_nil]
      omega
    · omega
theorem z_fp_3 {P : Nat → Nat} {left : Nat} : ∀ {q : Nat}, (∀ k, k < q → P k < 3) → ∀ v, v ∈ z_fp P left q → v < 3
  | 0, _, v, h => by simp only [z_fp, List.not_mem_nil] at h
  | q + 1, hP, v, h => by
    have ih := z_fp_3 (P := P) (left := left) (q := q) (fun k hk => hP k (by omega)) v
    simp only [z_fp] at h
    split at h
    · rcases List.mem_append.mp h with h | h
      · exact ih h
      · rw [List.mem_singleton.mp h]
        exact hP q (by omega)
    · exact ih h
def z_lo (P : Nat → Nat) (q left set : Nat) : Prop := z_cl1 (z_fp P left q) set = true
/-! the digits -/
theorem z_jg_eq {J k : Nat} : z_jg J k = J / 2 ^ (3 * k) % 8 := by
  unfold z_jg
  rw [Nat.shiftRight_eq_div_pow]
  exact Nat.and_two_pow_sub_one_eq_mod (J / 2 ^ (3 * k)) 3
theorem z_jg_js {J k k' v : Nat} (hk : k < 6) (hk' : k' < 6) (hv : v < 8) : z_jg (z_js J k v) k' = if k' = k then v else z_jg J k' := by
  unfold z_js
  rw [z_jg_eq, z_jg_eq, z_jg_eq]
  rcases (show k = 0 ∨ k = 1 ∨ k = 2 ∨ k = 3 ∨ k = 4 ∨ k = 5 from by omega) with rfl | rfl | rfl | rfl | rfl | rfl <;>
  rcases (show k' = 0 ∨ k' = 1 ∨ k' = 2 ∨ k' = 3 ∨ k' = 4 ∨ k' = 5 from by omega) with rfl | rfl | rfl | rfl | rfl | rfl <;>
  simp only [Nat.reduceMul, Nat.reducePow, Nat.reduceEqDiff, if_true, if_false, Nat.mul_zero, Nat.pow_zero, Nat.div_one, Nat.mul_one, Nat.mul_one] <;> omega
def z_jf : List Nat → Nat → Nat → Nat
  | [], _, J => J
  | v :: ps, b, J => z_jf ps v (z_jst J b v)
def z_lb : List Nat → Nat → Nat
  | [], b => b
  | v :: ps, _ => z_lb ps v
theorem z_jf_snoc {v : Nat} : ∀ {ps : List Nat} {b J : Nat}, z_jf (ps ++ [v]) b J = z_jst (z_jf ps b J) (z_lb ps b) v
  | [], _, _ => rfl
  | w :: ps, b, J => z_jf_snoc (ps := ps) (b := w) (J := z_jst J b w)
theorem z_lb_snoc {v : Nat} : ∀ {ps : List Nat} {b : Nat}, z_lb (ps ++ [v]) b = v
  | [], _ => rfl
  | w :: ps, _ => z_lb_snoc (ps := ps) (b := w)
theorem z_tr_ok : ∀ {n : Nat} {qs ps : List Nat} {b J : Nat}, z_tr n ps b J = true → qs.length ≤ n → (∀ v, v ∈ qs → v < 3) → z_nd (ps ++ qs) (z_jf qs b J) = true
  | 0, [], ps, b, J, h, _, _ => by rw [List.append_nil]; exact h
  | 0, v :: qs, ps, b, J, h, hl, _ => absurd hl (by simp only [List.length_cons]; omega)
  | n + 1, [], ps, b, J, h, _, _ => by
    rw [List.append_nil]
    have h' : (z_nd ps J && (z_tr n (ps ++ [0]) 0 (z_jst J b 0) && (z_tr n (ps ++ [1]) 1 (z_jst J b 1) && z_tr n (ps ++ [2]) 2 (z_jst J b 2)))) = true := h
    simp only [Bool.and_eq_true] at h'
    exact h'.1
  | n + 1, v :: qs, ps, b, J, h, hl, hv => by
    have h' : (z_nd ps J && (z_tr n (ps ++ [0]) 0 (z_jst J b 0) && (z_tr n (ps ++ [1]) 1 (z_jst J b 1) && z_tr n (ps ++ [2]) 2 (z_jst J b 2)))) = true := h
    simp only [Bool.and_eq_true] at h'
    have hl' : qs.length ≤ n := by simp only [List.length_cons] at hl; omega
    have hv' : ∀ w, w ∈ qs → w < 3 := fun w hw => hv w (List.mem_cons_of_mem v hw)
    have v3 := hv v (List.mem_cons_self ..)
    have e : ∀ w, ps ++ w :: qs = (ps ++ [w]) ++ qs := fun w => by rw [List.append_assoc]; rfl
    rw [e]
    rcases (show v = 0 ∨ v = 1 ∨ v = 2 from by omega) with rfl | rfl | rfl
    · exact z_tr_ok h'.2.1 hl' hv'
    · exact z_tr_ok h'.2.2.1 hl' hv'
    · exact z_tr_ok h'.2.2.2 hl' hv'
/-! what the tree says of a pattern -/
theorem z_nd_ok {ps : List Nat} (hl : ps.length ≤ 6) (hv : ∀ v, v ∈ ps → v < 3) : (∀ k, k < 6 → z_jg (z_jf ps 3 z_j0) k < 6 ∧ z_jg (z_jf ps 3 z_j0) (z_je (z_jf ps 3 z_j0) k) = z_je (z_jf ps 3 z_j0) k) ∧ ∀ set, 1 ≤ set → set < 8 → z_cl1 ps set = z_jl (z_jf ps 3 z_j0) set := by
  have h : z_nd ps (z_jf ps 3 z_j0) = true := z_tr_ok (ps := []) z_tr_6 hl hv
  unfold z_nd z_nd1 z_jk at h
  simp only [Bool.and_eq_true, beq_iff_eq, Nat.beq_eq_true_eq] at h
  obtain ⟨⟨⟨⟨⟨⟨⟨⟨⟨⟨⟨⟨k0, k1⟩, k2⟩, k3⟩, k4⟩, k5⟩, n1⟩, n2⟩, n3⟩, n4⟩, n5⟩, n6⟩, n7⟩ := h
  have bl : ∀ x y : Nat, Nat.blt x y = true → x < y := fun x y h => Nat.le_of_ble_eq_true h
  refine ⟨fun k hk => ?_, fun set s1 s2 => ?_⟩
  · rcases (show k = 0 ∨ k = 1 ∨ k = 2 ∨ k = 3 ∨ k = 4 ∨ k = 5 from by omega) with rfl | rfl | rfl | rfl | rfl | rfl
    · exact ⟨bl _ _ k0.1, Nat.eq_of_beq_eq_true k0.2⟩
    · exact ⟨bl _ _ k1.1, Nat.eq_of_beq_eq_true k1.2⟩
    · exact ⟨bl _ _ k2.1, Nat.eq_of_beq_eq_true k2.2⟩
    · exact ⟨bl _ _ k3.1, Nat.eq_of_beq_eq_true k3.2⟩
    · exact ⟨bl _ _ k4.1, Nat.eq_of_beq_eq_true k4.2⟩
    · exact ⟨bl _ _ k5.1, Nat.eq_of_beq_eq_true k5.2⟩
  · rcases (show set = 1 ∨ set = 2 ∨ set = 3 ∨ set = 4 ∨ set = 5 ∨ set = 6 ∨ set = 7 from by omega) with rfl | rfl | rfl | rfl | rfl | rfl | rfl
    · exact n1
    · exact n2
    · exact n3
    · exact n4
    · exact n5
    · exact n6
    · exact n7
section Loose2
variable {c : z_C} {T : z_Ty} {I : z_Is} {J : z_Js} {R : z_Rs} {t s n a q : Nat} {f D : Nat → Int} {P : Nat → Nat}
theorem z_lr_cons {v : Nat} {ps : List Nat} {b L R' : Nat} : z_lr (v :: ps) b L R' = z_lr ps v (cond (Nat.blt b 3 && Nat.testBit (cond (Nat.blt b 3 && Nat.testBit L b) (R' ||| (1 <<< v)) R') v) (L ||| (1 <<< b)) L) (cond (Nat.blt b 3 && Nat.testBit L b) (R' ||| (1 <<< v)) R') := rfl
theorem z_lr6_S {ps : List Nat} {n L R' : Nat} : z_lr6 ps (n + 1) L R' = z_lr6 ps n (z_lr ps 3 L R').1 (z_lr ps 3 L R').2 := rfl
set_option maxRecDepth 20000 in
theorem z_isLoose (LS : z_ShL T R a) (V : z_Sh I a P q) {left set : Nat} (hl : left < 8) (hs : set < 8) : k_Shape_isLoose a (left : Int) (set : Int) (c, T, I, J, R) = some (z_b (z_lo P q left set), (c, T, I, J, R)) := by
  obtain ⟨v1, v2, v3⟩ := id V
  have kt := LS.1
  refine z_Uq ?_
  unfold k_Shape_isLoose
  repeat' (first | ((with_reducible refine z_u_lt ?_)) | ((with_reducible refine z_u_ck ?_ ?_ ?_); omega; omega) | ((with_reducible refine z_u_ib (fun _ => ?_) (fun _ => ?_))) | ((with_reducible refine z_u_in (fun _ => ?_) (fun _ => ?_))) | ((with_reducible refine z_u_t ?_ ?_); omega) | ((with_reducible refine z_u_f ?_ ?_); omega) | ((with_reducible refine z_u_ni (fun _ => ?_) (fun _ => ?_))) | ((with_reducible refine z_u_if (fun _ => ?_) (fun _ => ?_))) | ((with_reducible refine z_u_zb ?_)) | ((with_reducible refine z_u_zz ?_ ?_); omega) | ((with_reducible refine z_u_jn ?_)) | ((with_reducible refine z_u_n0 ?_)) | ((with_reducible refine z_u_nS ?_ ?_); omega) | ((with_reducible refine z_u_dv ?_ ?_ ?_); omega; omega) | ((with_reducible refine z_u_rm ?_ ?_ ?_); omega; omega) | ((with_reducible refine z_u_ob ?_ ?_); (first | (with_reducible assumption) | omega)) | ((with_reducible apply z_u_gI); (first | (with_reducible assumption) | omega); (first | (with_reducible assumption) | exact z_uq | ((repeat ((apply Eq.trans); (exact z_un (by omega)))); first | (with_reducible assumption) | exact z_uq | exact rfl))) | ((with_reducible apply z_u_gR); (first | (with_reducible assumption) | omega); (first | (with_reducible assumption) | exact z_uq | ((repeat ((apply Eq.trans); (exact z_un (by omega)))); first | (with_reducible assumption) | exact z_uq | exact rfl))) | ((with_reducible refine z_u_pI ?_ ?_); (first | (with_reducible assumption) | omega)) | ((with_reducible refine z_u_pZ ?_ ?_ ?_); (first | (with_reducible assumption) | omega); omega) | ((with_reducible apply z_u_aI); (first | (with_reducible assumption) | omega); omega; omega; (first | (with_reducible assumption) | exact z_uq | ((repeat ((apply Eq.trans); (exact z_un (by omega)))); first | (with_reducible assumption) | exact z_uq | exact rfl))) | ((with_reducible apply z_u_aR); (first | (with_reducible assumption) | omega); omega; omega; (first | (with_reducible assumption) | exact z_uq | ((repeat ((apply Eq.trans); (exact z_un (by omega)))); first | (with_reducible assumption) | exact z_uq | exact rfl))) | ((with_reducible refine z_u_sI ?_ ?_ ?_ ?_); (first | (with_reducible assumption) | omega); omega; omega) | ((with_reducible apply z_u_al); (first | (with_reducible assumption) | omega); omega; (first | (with_reducible assumption) | exact z_uq | ((repeat ((apply Eq.trans); (exact z_un (by omega)))); first | (with_reducible assumption) | exact z_uq | exact rfl))))
  refine z_f3 (fun d x y w I' => I' = I ∧ ∃ (L R' j : Nat), x = (L : Int) ∧ y = (R' : Int) ∧ w = (j : Int) ∧ j + d = 6 ∧ L < 8 ∧ R' < 8 ∧ z_lr6 (z_fp P left q) d L R' = z_lr6 (z_fp P left q) 6 set 0) ?_ 6 (by omega) ⟨rfl, set, 0, 0, rfl, rfl, rfl, by omega, hs, by omega, rfl⟩
  rintro d fu x y w I1 ⟨rfl, L, R', j, rfl, rfl, rfl, hjd, hL, hR, e6⟩ ih
  rw [lp_Shape_isLoose_8]
  by_cases hj : j < 6
  · obtain ⟨d, rfl⟩ : ∃ x, d = x + 1 := ⟨d - 1, by omega⟩
    repeat' (first | ((with_reducible refine z_u_lt ?_)) | ((with_reducible refine z_u_ck ?_ ?_ ?_); omega; omega) | ((with_reducible refine z_u_ib (fun _ => ?_) (fun _ => ?_))) | ((with_reducible refine z_u_in (fun _ => ?_) (fun _ => ?_))) | ((with_reducible refine z_u_t ?_ ?_); omega) | ((with_reducible refine z_u_f ?_ ?_); omega) | ((with_reducible refine z_u_ni (fun _ => ?_) (fun _ => ?_))) | ((with_reducible refine z_u_if (fun _ => ?_) (fun _ => ?_))) | ((with_reducible refine z_u_zb ?_)) | ((with_reducible refine z_u_zz ?_ ?_); omega) | ((with_reducible refine z_u_jn ?_)) | ((with_reducible refine z_u_n0 ?_)) | ((with_reducible refine z_u_nS ?_ ?_); omega) | ((with_reducible refine z_u_dv ?_ ?_ ?_); omega; omega) | ((with_reducible refine z_u_rm ?_ ?_ ?_); omega; omega) | ((with_reducible refine z_u_ob ?_ ?_); (first | (with_reducible assumption) | omega)) | ((with_reducible apply z_u_gI); (first | (with_reducible assumption) | omega); (first | (with_reducible assumption) | exact z_uq | ((repeat ((apply Eq.trans); (exact z_un (by omega)))); first | (with_reducible assumption) | exact z_uq | exact rfl))) | ((with_reducible apply z_u_gR); (first | (with_reducible assumption) | omega); (first | (with_reducible assumption) | exact z_uq | ((repeat ((apply Eq.trans); (exact z_un (by omega)))); first | (with_reducible assumption) | exact z_uq | exact rfl))) | ((with_reducible refine z_u_pI ?_ ?_); (first | (with_reducible assumption) | omega)) | ((with_reducible refine z_u_pZ ?_ ?_ ?_); (first | (with_reducible assumption) | omega); omega) | ((with_reducible apply z_u_aI); (first | (with_reducible assumption) | omega); omega; omega; (first | (with_reducible assumption) | exact z_uq | ((repeat ((apply Eq.trans); (exact z_un (by omega)))); first | (with_reducible assumption) | exact z_uq | exact rfl))) | ((with_reducible apply z_u_aR); (first | (with_reducible assumption) | omega); omega; omega; (first | (with_reducible assumption) | exact z_uq | ((repeat ((apply Eq.trans); (exact z_un (by omega)))); first | (with_reducible assumption) | exact z_uq | exact rfl))) | ((with_reducible refine z_u_sI ?_ ?_ ?_ ?_); (first | (with_reducible assumption) | omega); omega; omega) | ((with_reducible apply z_u_al); (first | (with_reducible assumption) | omega); omega; (first | (with_reducible assumption) | exact z_uq | ((repeat ((apply Eq.trans); (exact z_un (by omega)))); first | (with_reducible assumption) | exact z_uq | exact rfl))))
    refine z_f4 (fun d' x y w u I' => I' = I1 ∧ ∃ (L1 R1 b k : Nat), x = (L1 : Int) ∧ y = (R1 : Int) ∧ (w = if b = 3 then (-1 : Int) else (b : Int)) ∧ u = (k : Int) ∧ k + d' = q ∧ b ≤ 3 ∧ L1 < 8 ∧ R1 < 8 ∧ z_lr (z_fs P left k d') b L1 R1 = z_lr (z_fp P left q) 3 L R') ?_ q (by omega) ⟨rfl, L, R', 3, 0, rfl, rfl, rfl, rfl, by omega, Nat.le_refl _, hL, hR, by rw [z_fs_fp]⟩
    rintro d' fu' x y w u I2 ⟨rfl, L1, R1, b, k, rfl, rfl, hw, rfl, hkd, hb, hL1, hR1, e1⟩ ih2
    rw [lp_Shape_isLoose_21]
    by_cases hk : k < q
    · obtain ⟨d', rfl⟩ : ∃ x, d' = x + 1 := ⟨d' - 1, by omega⟩
      have SA := z_Shape_at (c := c) (I := I2) (J := J) LS V (k : Int)
      rw [if_pos (by omega), show ((k : Int)).toNat = k from rfl] at SA
      have p3 := (v3 k hk).1
      have eb := z_bshr (x := left) (v := P k) (by omega) (by omega)
      have er := z_bshr (x := R1) (v := P k) (by omega) (by omega)
      have o1 := z_bor1 (x := R1) (v := P k) (by omega) (by omega)
      have o1b := z_b6 (x := R1) (v := P k) hR1 p3
      have er1 := z_bshr (x := R1 ||| (1 <<< P k)) (v := P k) (by omega) (by omega)
      by_cases ht : Nat.testBit left (P k) = true
      · rw [if_pos ht] at eb
        rw [show z_fs P left k (d' + 1) = P k :: z_fs P left (k + 1) d' from by simp only [z_fs, ht, if_true], z_lr_cons] at e1
        by_cases hb3 : b = 3
        · rw [if_pos hb3] at hw
          rw [show Nat.blt b 3 = false from by rw [hb3]; rfl] at e1
          simp only [Bool.false_and, cond_false] at e1
          repeat' (first | ((with_reducible apply z_u_e); (with_reducible refine SA)) | ((with_reducible refine z_u_lt ?_)) | ((with_reducible refine z_u_ck ?_ ?_ ?_); omega; omega) | ((with_reducible refine z_u_ib (fun _ => ?_) (fun _ => ?_))) | ((with_reducible refine z_u_in (fun _ => ?_) (fun _ => ?_))) | ((with_reducible refine z_u_t ?_ ?_); omega) | ((with_reducible refine z_u_f ?_ ?_); omega) | ((with_reducible refine z_u_ni (fun _ => ?_) (fun _ => ?_))) | ((with_reducible refine z_u_if (fun _ => ?_) (fun _ => ?_))) | ((with_reducible refine z_u_zb ?_)) | ((with_reducible refine z_u_zz ?_ ?_); omega) | ((with_reducible refine z_u_jn ?_)) | ((with_reducible refine z_u_n0 ?_)) | ((with_reducible refine z_u_nS ?_ ?_); omega) | ((with_reducible refine z_u_dv ?_ ?_ ?_); omega; omega) | ((with_reducible refine z_u_rm ?_ ?_ ?_); omega; omega) | ((with_reducible refine z_u_ob ?_ ?_); (first | (with_reducible assumption) | omega)) | ((with_reducible apply z_u_gI); (first | (with_reducible assumption) | omega); (first | (with_reducible assumption) | exact z_uq | ((repeat ((apply Eq.trans); (exact z_un (by omega)))); first | (with_reducible assumption) | exact z_uq | exact rfl))) | ((with_reducible apply z_u_gR); (first | (with_reducible assumption) | omega); (first | (with_reducible assumption) | exact z_uq | ((repeat ((apply Eq.trans); (exact z_un (by omega)))); first | (with_reducible assumption) | exact z_uq | exact rfl))) | ((with_reducible refine z_u_pI ?_ ?_); (first | (with_reducible assumption) | omega)) | ((with_reducible refine z_u_pZ ?_ ?_ ?_); (first | (with_reducible assumption) | omega); omega) | ((with_reducible apply z_u_aI); (first | (with_reducible assumption) | omega); omega; omega; (first | (with_reducible assumption) | exact z_uq | ((repeat ((apply Eq.trans); (exact z_un (by omega)))); first | (with_reducible assumption) | exact z_uq | exact rfl))) | ((with_reducible apply z_u_aR); (first | (with_reducible assumption) | omega); omega; omega; (first | (with_reducible assumption) | exact z_uq | ((repeat ((apply Eq.trans); (exact z_un (by omega)))); first | (with_reducible assumption) | exact z_uq | exact rfl))) | ((with_reducible refine z_u_sI ?_ ?_ ?_ ?_); (first | (with_reducible assumption) | omega); omega; omega) | ((with_reducible apply z_u_al); (first | (with_reducible assumption) | omega); omega; (first | (with_reducible assumption) | exact z_uq | ((repeat ((apply Eq.trans); (exact z_un (by omega)))); first | (with_reducible assumption) | exact z_uq | exact rfl))))
          exact ih2 d' _ _ _ _ _ (by omega) ⟨rfl, L1, R1, P k, k + 1, rfl, rfl, by rw [if_neg (by omega)], by omega, by omega, by omega, hL1, hR1, e1⟩
        · rw [if_neg hb3] at hw
          have el := z_bshr (x := L1) (v := b) (by omega) (by omega)
          have o2 := z_bor1 (x := L1) (v := b) (by omega) (by omega)
          have o2b := z_b6 (x := L1) (v := b) hL1 (by omega)
          rw [show Nat.blt b 3 = true from by rcases (show b = 0 ∨ b = 1 ∨ b = 2 from by omega) with rfl | rfl | rfl <;> rfl] at e1
          simp only [Bool.true_and] at e1
          subst hw
          by_cases hl1 : Nat.testBit L1 b = true
          · rw [if_pos hl1] at el
            simp only [hl1, cond_true] at e1
            by_cases hr1 : Nat.testBit (R1 ||| (1 <<< P k)) (P k) = true
            · rw [if_pos hr1, ← o1] at er1
              simp only [hr1, cond_true] at e1
              repeat' (first | ((with_reducible apply z_u_e); (with_reducible refine SA)) | ((with_reducible refine z_u_lt ?_)) | ((with_reducible refine z_u_ck ?_ ?_ ?_); omega; omega) | ((with_reducible refine z_u_ib (fun _ => ?_) (fun _ => ?_))) | ((with_reducible refine z_u_in (fun _ => ?_) (fun _ => ?_))) | ((with_reducible refine z_u_t ?_ ?_); omega) | ((with_reducible refine z_u_f ?_ ?_); omega) | ((with_reducible refine z_u_ni (fun _ => ?_) (fun _ => ?_))) | ((with_reducible refine z_u_if (fun _ => ?_) (fun _ => ?_))) | ((with_reducible refine z_u_zb ?_)) | ((with_reducible refine z_u_zz ?_ ?_); omega) | ((with_reducible refine z_u_jn ?_)) | ((with_reducible refine z_u_n0 ?_)) | ((with_reducible refine z_u_nS ?_ ?_); omega) | ((with_reducible refine z_u_dv ?_ ?_ ?_); omega; omega) | ((with_reducible refine z_u_rm ?_ ?_ ?_); omega; omega) | ((with_reducible refine z_u_ob ?_ ?_); (first | (with_reducible assumption) | omega)) | ((with_reducible apply z_u_gI); (first | (with_reducible assumption) | omega); (first | (with_reducible assumption) | exact z_uq | ((repeat ((apply Eq.trans); (exact z_un (by omega)))); first | (with_reducible assumption) | exact z_uq | exact rfl))) | ((with_reducible apply z_u_gR); (first | (with_reducible assumption) | omega); (first | (with_reducible assumption) | exact z_uq | ((repeat ((apply Eq.trans); (exact z_un (by omega)))); first | (with_reducible assumption) | exact z_uq | exact rfl))) | ((with_reducible refine z_u_pI ?_ ?_); (first | (with_reducible assumption) | omega)) | ((with_reducible refine z_u_pZ ?_ ?_ ?_); (first | (with_reducible assumption) | omega); omega) | ((with_reducible apply z_u_aI); (first | (with_reducible assumption) | omega); omega; omega; (first | (with_reducible assumption) | exact z_uq | ((repeat ((apply Eq.trans); (exact z_un (by omega)))); first | (with_reducible assumption) | exact z_uq | exact rfl))) | ((with_reducible apply z_u_aR); (first | (with_reducible assumption) | omega); omega; omega; (first | (with_reducible assumption) | exact z_uq | ((repeat ((apply Eq.trans); (exact z_un (by omega)))); first | (with_reducible assumption) | exact z_uq | exact rfl))) | ((with_reducible refine z_u_sI ?_ ?_ ?_ ?_); (first | (with_reducible assumption) | omega); omega; omega) | ((with_reducible apply z_u_al); (first | (with_reducible assumption) | omega); omega; (first | (with_reducible assumption) | exact z_uq | ((repeat ((apply Eq.trans); (exact z_un (by omega)))); first | (with_reducible assumption) | exact z_uq | exact rfl))))
              exact ih2 d' _ _ _ _ _ (by omega) ⟨rfl, L1 ||| (1 <<< b), R1 ||| (1 <<< P k), P k, k + 1, o2, o1, by rw [if_neg (by omega)], by omega, by omega, by omega, o2b, o1b, e1⟩
            · rw [if_neg hr1, ← o1] at er1
              simp only [Bool.not_eq_true] at hr1
              simp only [hr1, cond_false] at e1
              repeat' (first | ((with_reducible apply z_u_e); (with_reducible refine SA)) | ((with_reducible refine z_u_lt ?_)) | ((with_reducible refine z_u_ck ?_ ?_ ?_); omega; omega) | ((with_reducible refine z_u_ib (fun _ => ?_) (fun _ => ?_))) | ((with_reducible refine z_u_in (fun _ => ?_) (fun _ => ?_))) | ((with_reducible refine z_u_t ?_ ?_); omega) | ((with_reducible refine z_u_f ?_ ?_); omega) | ((with_reducible refine z_u_ni (fun _ => ?_) (fun _ => ?_))) | ((with_reducible refine z_u_if (fun _ => ?_) (fun _ => ?_))) | ((with_reducible refine z_u_zb ?_)) | ((with_reducible refine z_u_zz ?_ ?_); omega) | ((with_reducible refine z_u_jn ?_)) | ((with_reducible refine z_u_n0 ?_)) | ((with_reducible refine z_u_nS ?_ ?_); omega) | ((with_reducible refine z_u_dv ?_ ?_ ?_); omega; omega) | ((with_reducible refine z_u_rm ?_ ?_ ?_); omega; omega) | ((with_reducible refine z_u_ob ?_ ?_); (first | (with_reducible assumption) | omega)) | ((with_reducible apply z_u_gI); (first | (with_reducible assumption) | omega); (first | (with_reducible assumption) | exact z_uq | ((repeat ((apply Eq.trans); (exact z_un (by omega)))); first | (with_reducible assumption) | exact z_uq | exact rfl))) | ((with_reducible apply z_u_gR); (first | (with_reducible assumption) | omega); (first | (with_reducible assumption) | exact z_uq | ((repeat ((apply Eq.trans); (exact z_un (by omega)))); first | (with_reducible assumption) | exact z_uq | exact rfl))) | ((with_reducible refine z_u_pI ?_ ?_); (first | (with_reducible assumption) | omega)) | ((with_reducible refine z_u_pZ ?_ ?_ ?_); (first | (with_reducible assumption) | omega); omega) | ((with_reducible apply z_u_aI); (first | (with_reducible assumption) | omega); omega; omega; (first | (with_reducible assumption) | exact z_uq | ((repeat ((apply Eq.trans); (exact z_un (by omega)))); first | (with_reducible assumption) | exact z_uq | exact rfl))) | ((with_reducible apply z_u_aR); (first | (with_reducible assumption) | omega); omega; omega; (first | (with_reducible assumption) | exact z_uq | ((repeat ((apply Eq.trans); (exact z_un (by omega)))); first | (with_reducible assumption) | exact z_uq | exact rfl))) | ((with_reducible refine z_u_sI ?_ ?_ ?_ ?_); (first | (with_reducible assumption) | omega); omega; omega) | ((with_reducible apply z_u_al); (first | (with_reducible assumption) | omega); omega; (first | (with_reducible assumption) | exact z_uq | ((repeat ((apply Eq.trans); (exact z_un (by omega)))); first | (with_reducible assumption) | exact z_uq | exact rfl))))
              exact ih2 d' _ _ _ _ _ (by omega) ⟨rfl, L1, R1 ||| (1 <<< P k), P k, k + 1, rfl, o1, by rw [if_neg (by omega)], by omega, by omega, by omega, hL1, o1b, e1⟩
          · rw [if_neg hl1] at el
            simp only [Bool.not_eq_true] at hl1
            simp only [hl1, cond_false] at e1
            by_cases hr1 : Nat.testBit R1 (P k) = true
            · rw [if_pos hr1] at er
              simp only [hr1, cond_true] at e1
              repeat' (first | ((with_reducible apply z_u_e); (with_reducible refine SA)) | ((with_reducible refine z_u_lt ?_)) | ((with_reducible refine z_u_ck ?_ ?_ ?_); omega; omega) | ((with_reducible refine z_u_ib (fun _ => ?_) (fun _ => ?_))) | ((with_reducible refine z_u_in (fun _ => ?_) (fun _ => ?_))) | ((with_reducible refine z_u_t ?_ ?_); omega) | ((with_reducible refine z_u_f ?_ ?_); omega) | ((with_reducible refine z_u_ni (fun _ => ?_) (fun _ => ?_))) | ((with_reducible refine z_u_if (fun _ => ?_) (fun _ => ?_))) | ((with_reducible refine z_u_zb ?_)) | ((with_reducible refine z_u_zz ?_ ?_); omega) | ((with_reducible refine z_u_jn ?_)) | ((with_reducible refine z_u_n0 ?_)) | ((with_reducible refine z_u_nS ?_ ?_); omega) | ((with_reducible refine z_u_dv ?_ ?_ ?_); omega; omega) | ((with_reducible refine z_u_rm ?_ ?_ ?_); omega; omega) | ((with_reducible refine z_u_ob ?_ ?_); (first | (with_reducible assumption) | omega)) | ((with_reducible apply z_u_gI); (first | (with_reducible assumption) | omega); (first | (with_reducible assumption) | exact z_uq | ((repeat ((apply Eq.trans); (exact z_un (by omega)))); first | (with_reducible assumption) | exact z_uq | exact rfl))) | ((with_reducible apply z_u_gR); (first | (with_reducible assumption) | omega); (first | (with_reducible assumption) | exact z_uq | ((repeat ((apply Eq.trans); (exact z_un (by omega)))); first | (with_reducible assumption) | exact z_uq | exact rfl))) | ((with_reducible refine z_u_pI ?_ ?_); (first | (with_reducible assumption) | omega)) | ((with_reducible refine z_u_pZ ?_ ?_ ?_); (first | (with_reducible assumption) | omega); omega) | ((with_reducible apply z_u_aI); (first | (with_reducible assumption) | omega); omega; omega; (first | (with_reducible assumption) | exact z_uq | ((repeat ((apply Eq.trans); (exact z_un (by omega)))); first | (with_reducible assumption) | exact z_uq | exact rfl))) | ((with_reducible apply z_u_aR); (first | (with_reducible assumption) | omega); omega; omega; (first | (with_reducible assumption) | exact z_uq | ((repeat ((apply Eq.trans); (exact z_un (by omega)))); first | (with_reducible assumption) | exact z_uq | exact rfl))) | ((with_reducible refine z_u_sI ?_ ?_ ?_ ?_); (first | (with_reducible assumption) | omega); omega; omega) | ((with_reducible apply z_u_al); (first | (with_reducible assumption) | omega); omega; (first | (with_reducible assumption) | exact z_uq | ((repeat ((apply Eq.trans); (exact z_un (by omega)))); first | (with_reducible assumption) | exact z_uq | exact rfl))))
              exact ih2 d' _ _ _ _ _ (by omega) ⟨rfl, L1 ||| (1 <<< b), R1, P k, k + 1, o2, rfl, by rw [if_neg (by omega)], by omega, by omega, by omega, o2b, hR1, e1⟩
            · rw [if_neg hr1] at er
              simp only [Bool.not_eq_true] at hr1
              simp only [hr1, cond_false] at e1
              repeat' (first | ((with_reducible apply z_u_e); (with_reducible refine SA)) | ((with_reducible refine z_u_lt ?_)) | ((with_reducible refine z_u_ck ?_ ?_ ?_); omega; omega) | ((with_reducible refine z_u_ib (fun _ => ?_) (fun _ => ?_))) | ((with_reducible refine z_u_in (fun _ => ?_) (fun _ => ?_))) | ((with_reducible refine z_u_t ?_ ?_); omega) | ((with_reducible refine z_u_f ?_ ?_); omega) | ((with_reducible refine z_u_ni (fun _ => ?_) (fun _ => ?_))) | ((with_reducible refine z_u_if (fun _ => ?_) (fun _ => ?_))) | ((with_reducible refine z_u_zb ?_)) | ((with_reducible refine z_u_zz ?_ ?_); omega) | ((with_reducible refine z_u_jn ?_)) | ((with_reducible refine z_u_n0 ?_)) | ((with_reducible refine z_u_nS ?_ ?_); omega) | ((with_reducible refine z_u_dv ?_ ?_ ?_); omega; omega) | ((with_reducible refine z_u_rm ?_ ?_ ?_); omega; omega) | ((with_reducible refine z_u_ob ?_ ?_); (first | (with_reducible assumption) | omega)) | ((with_reducible apply z_u_gI); (first | (with_reducible assumption) | omega); (first | (with_reducible assumption) | exact z_uq | ((repeat ((apply Eq.trans); (exact z_un (by omega)))); first | (with_reducible assumption) | exact z_uq | exact rfl))) | ((with_reducible apply z_u_gR); (first | (with_reducible assumption) | omega); (first | (with_reducible assumption) | exact z_uq | ((repeat ((apply Eq.trans); (exact z_un (by omega)))); first | (with_reducible assumption) | exact z_uq | exact rfl))) | ((with_reducible refine z_u_pI ?_ ?_); (first | (with_reducible assumption) | omega)) | ((with_reducible refine z_u_pZ ?_ ?_ ?_); (first | (with_reducible assumption) | omega); omega) | ((with_reducible apply z_u_aI); (first | (with_reducible assumption) | omega); omega; omega; (first | (with_reducible assumption) | exact z_uq | ((repeat ((apply Eq.trans); (exact z_un (by omega)))); first | (with_reducible assumption) | exact z_uq | exact rfl))) | ((with_reducible apply z_u_aR); (first | (with_reducible assumption) | omega); omega; omega; (first | (with_reducible assumption) | exact z_uq | ((repeat ((apply Eq.trans); (exact z_un (by omega)))); first | (with_reducible assumption) | exact z_uq | exact rfl))) | ((with_reducible refine z_u_sI ?_ ?_ ?_ ?_); (first | (with_reducible assumption) | omega); omega; omega) | ((with_reducible apply z_u_al); (first | (with_reducible assumption) | omega); omega; (first | (with_reducible assumption) | exact z_uq | ((repeat ((apply Eq.trans); (exact z_un (by omega)))); first | (with_reducible assumption) | exact z_uq | exact rfl))))
              exact ih2 d' _ _ _ _ _ (by omega) ⟨rfl, L1, R1, P k, k + 1, rfl, rfl, by rw [if_neg (by omega)], by omega, by omega, by omega, hL1, hR1, e1⟩
      · rw [if_neg ht] at eb
        rw [show z_fs P left k (d' + 1) = z_fs P left (k + 1) d' from by simp only [z_fs, ht, if_false]; rfl] at e1
        repeat' (first | ((with_reducible apply z_u_e); (with_reducible refine SA)) | ((with_reducible refine z_u_lt ?_)) | ((with_reducible refine z_u_ck ?_ ?_ ?_); omega; omega) | ((with_reducible refine z_u_ib (fun _ => ?_) (fun _ => ?_))) | ((with_reducible refine z_u_in (fun _ => ?_) (fun _ => ?_))) | ((with_reducible refine z_u_t ?_ ?_); omega) | ((with_reducible refine z_u_f ?_ ?_); omega) | ((with_reducible refine z_u_ni (fun _ => ?_) (fun _ => ?_))) | ((with_reducible refine z_u_if (fun _ => ?_) (fun _ => ?_))) | ((with_reducible refine z_u_zb ?_)) | ((with_reducible refine z_u_zz ?_ ?_); omega) | ((with_reducible refine z_u_jn ?_)) | ((with_reducible refine z_u_n0 ?_)) | ((with_reducible refine z_u_nS ?_ ?_); omega) | ((with_reducible refine z_u_dv ?_ ?_ ?_); omega; omega) | ((with_reducible refine z_u_rm ?_ ?_ ?_); omega; omega) | ((with_reducible refine z_u_ob ?_ ?_); (first | (with_reducible assumption) | omega)) | ((with_reducible apply z_u_gI); (first | (with_reducible assumption) | omega); (first | (with_reducible assumption) | exact z_uq | ((repeat ((apply Eq.trans); (exact z_un (by omega)))); first | (with_reducible assumption) | exact z_uq | exact rfl))) | ((with_reducible apply z_u_gR); (first | (with_reducible assumption) | omega); (first | (with_reducible assumption) | exact z_uq | ((repeat ((apply Eq.trans); (exact z_un (by omega)))); first | (with_reducible assumption) | exact z_uq | exact rfl))) | ((with_reducible refine z_u_pI ?_ ?_); (first | (with_reducible assumption) | omega)) | ((with_reducible refine z_u_pZ ?_ ?_ ?_); (first | (with_reducible assumption) | omega); omega) | ((with_reducible apply z_u_aI); (first | (with_reducible assumption) | omega); omega; omega; (first | (with_reducible assumption) | exact z_uq | ((repeat ((apply Eq.trans); (exact z_un (by omega)))); first | (with_reducible assumption) | exact z_uq | exact rfl))) | ((with_reducible apply z_u_aR); (first | (with_reducible assumption) | omega); omega; omega; (first | (with_reducible assumption) | exact z_uq | ((repeat ((apply Eq.trans); (exact z_un (by omega)))); first | (with_reducible assumption) | exact z_uq | exact rfl))) | ((with_reducible refine z_u_sI ?_ ?_ ?_ ?_); (first | (with_reducible assumption) | omega); omega; omega) | ((with_reducible apply z_u_al); (first | (with_reducible assumption) | omega); omega; (first | (with_reducible assumption) | exact z_uq | ((repeat ((apply Eq.trans); (exact z_un (by omega)))); first | (with_reducible assumption) | exact z_uq | exact rfl))))
        exact ih2 d' _ _ _ _ _ (by omega) ⟨rfl, L1, R1, b, k + 1, rfl, rfl, hw, by omega, by omega, hb, hL1, hR1, e1⟩
    · have hd0 : d' = 0 := by omega
      subst hd0
      have e1' : (L1, R1) = z_lr (z_fp P left q) 3 L R' := e1
      repeat' (first | ((with_reducible refine z_u_lt ?_)) | ((with_reducible refine z_u_ck ?_ ?_ ?_); omega; omega) | ((with_reducible refine z_u_ib (fun _ => ?_) (fun _ => ?_))) | ((with_reducible refine z_u_in (fun _ => ?_) (fun _ => ?_))) | ((with_reducible refine z_u_t ?_ ?_); omega) | ((with_reducible refine z_u_f ?_ ?_); omega) | ((with_reducible refine z_u_ni (fun _ => ?_) (fun _ => ?_))) | ((with_reducible refine z_u_if (fun _ => ?_) (fun _ => ?_))) | ((with_reducible refine z_u_zb ?_)) | ((with_reducible refine z_u_zz ?_ ?_); omega) | ((with_reducible refine z_u_jn ?_)) | ((with_reducible refine z_u_n0 ?_)) | ((with_reducible refine z_u_nS ?_ ?_); omega) | ((with_reducible refine z_u_dv ?_ ?_ ?_); omega; omega) | ((with_reducible refine z_u_rm ?_ ?_ ?_); omega; omega) | ((with_reducible refine z_u_ob ?_ ?_); (first | (with_reducible assumption) | omega)) | ((with_reducible apply z_u_gI); (first | (with_reducible assumption) | omega); (first | (with_reducible assumption) | exact z_uq | ((repeat ((apply Eq.trans); (exact z_un (by omega)))); first | (with_reducible assumption) | exact z_uq | exact rfl))) | ((with_reducible apply z_u_gR); (first | (with_reducible assumption) | omega); (first | (with_reducible assumption) | exact z_uq | ((repeat ((apply Eq.trans); (exact z_un (by omega)))); first | (with_reducible assumption) | exact z_uq | exact rfl))) | ((with_reducible refine z_u_pI ?_ ?_); (first | (with_reducible assumption) | omega)) | ((with_reducible refine z_u_pZ ?_ ?_ ?_); (first | (with_reducible assumption) | omega); omega) | ((with_reducible apply z_u_aI); (first | (with_reducible assumption) | omega); omega; omega; (first | (with_reducible assumption) | exact z_uq | ((repeat ((apply Eq.trans); (exact z_un (by omega)))); first | (with_reducible assumption) | exact z_uq | exact rfl))) | ((with_reducible apply z_u_aR); (first | (with_reducible assumption) | omega); omega; omega; (first | (with_reducible assumption) | exact z_uq | ((repeat ((apply Eq.trans); (exact z_un (by omega)))); first | (with_reducible assumption) | exact z_uq | exact rfl))) | ((with_reducible refine z_u_sI ?_ ?_ ?_ ?_); (first | (with_reducible assumption) | omega); omega; omega) | ((with_reducible apply z_u_al); (first | (with_reducible assumption) | omega); omega; (first | (with_reducible assumption) | exact z_uq | ((repeat ((apply Eq.trans); (exact z_un (by omega)))); first | (with_reducible assumption) | exact z_uq | exact rfl))))
      exact ih d _ _ _ _ (by omega) ⟨rfl, L1, R1, j + 1, rfl, rfl, by omega, by omega, hL1, hR1, by rw [← e6, z_lr6_S, ← e1']⟩
  · have hd0 : d = 0 := by omega
    subst hd0
    have e6' : (L, R') = z_lr6 (z_fp P left q) 6 set 0 := e6
    have an := z_ban (x := R') (y := set) hR hs
    have lo : z_lo P q left set ↔ R' &&& set = 0 := by
      unfold z_lo z_cl1
      rw [← e6']
      constructor
      · intro h
        exact Nat.eq_of_beq_eq_true h
      · intro h
        show Nat.beq (R' &&& set) 0 = true
        rw [h]
        rfl
    repeat' (first | ((with_reducible refine z_u_lt ?_)) | ((with_reducible refine z_u_ck ?_ ?_ ?_); omega; omega) | ((with_reducible refine z_u_ib (fun _ => ?_) (fun _ => ?_))) | ((with_reducible refine z_u_in (fun _ => ?_) (fun _ => ?_))) | ((with_reducible refine z_u_t ?_ ?_); omega) | ((with_reducible refine z_u_f ?_ ?_); omega) | ((with_reducible refine z_u_ni (fun _ => ?_) (fun _ => ?_))) | ((with_reducible refine z_u_if (fun _ => ?_) (fun _ => ?_))) | ((with_reducible refine z_u_zb ?_)) | ((with_reducible refine z_u_zz ?_ ?_); omega) | ((with_reducible refine z_u_jn ?_)) | ((with_reducible refine z_u_n0 ?_)) | ((with_reducible refine z_u_nS ?_ ?_); omega) | ((with_reducible refine z_u_dv ?_ ?_ ?_); omega; omega) | ((with_reducible refine z_u_rm ?_ ?_ ?_); omega; omega) | ((with_reducible refine z_u_ob ?_ ?_); (first | (with_reducible assumption) | omega)) | ((with_reducible apply z_u_gI); (first | (with_reducible assumption) | omega); (first | (with_reducible assumption) | exact z_uq | ((repeat ((apply Eq.trans); (exact z_un (by omega)))); first | (with_reducible assumption) | exact z_uq | exact rfl))) | ((with_reducible apply z_u_gR); (first | (with_reducible assumption) | omega); (first | (with_reducible assumption) | exact z_uq | ((repeat ((apply Eq.trans); (exact z_un (by omega)))); first | (with_reducible assumption) | exact z_uq | exact rfl))) | ((with_reducible refine z_u_pI ?_ ?_); (first | (with_reducible assumption) | omega)) | ((with_reducible refine z_u_pZ ?_ ?_ ?_); (first | (with_reducible assumption) | omega); omega) | ((with_reducible apply z_u_aI); (first | (with_reducible assumption) | omega); omega; omega; (first | (with_reducible assumption) | exact z_uq | ((repeat ((apply Eq.trans); (exact z_un (by omega)))); first | (with_reducible assumption) | exact z_uq | exact rfl))) | ((with_reducible apply z_u_aR); (first | (with_reducible assumption) | omega); omega; omega; (first | (with_reducible assumption) | exact z_uq | ((repeat ((apply Eq.trans); (exact z_un (by omega)))); first | (with_reducible assumption) | exact z_uq | exact rfl))) | ((with_reducible refine z_u_sI ?_ ?_ ?_ ?_); (first | (with_reducible assumption) | omega); omega; omega) | ((with_reducible apply z_u_al); (first | (with_reducible assumption) | omega); omega; (first | (with_reducible assumption) | exact z_uq | ((repeat ((apply Eq.trans); (exact z_un (by omega)))); first | (with_reducible assumption) | exact z_uq | exact rfl))))
    · exact z_u_r ⟨(z_bf (fun h => by have := lo.mp h; omega)).symm, rfl⟩
    · exact z_u_r ⟨(z_bt (lo.mpr (by omega))).symm, rfl⟩
end Loose2
