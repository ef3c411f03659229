/-! WORDS FOR THE LETTERS OF A PATTERN, laid from a place on (step 1: to the right; step -1: to the left). -/
def z_rom (st : Int) (n : Nat) (y : Int) : Int := if st = 1 then (n : Int) - y else y + 1
def z_lay (f : Nat → Int) (n : Nat) (st : Int) (Q : Nat → Nat) : Nat → Nat → Int → (Nat → Nat) → (Nat → Int) → Prop
  | 0, _, _, _, _ => True
  | r + 1, k, y, ch, e =>
    (ch (Q k) = 0 → ∃ s : Nat, 1 ≤ s ∧ (s : Int) ≤ z_rom st n y ∧ z_lay f n st Q r (k + 1) (y + st * s) (z_upd ch (Q k) s) (z_upd e (Q k) y)) ∧
    (0 < ch (Q k) → (ch (Q k) : Int) ≤ z_rom st n y ∧ (∀ t : Nat, t < ch (Q k) → f (e (Q k) + st * t).toNat = f (y + st * t).toNat) ∧ z_lay f n st Q r (k + 1) (y + st * (ch (Q k) : Int)) ch e)
/-! at least so many letters are wanted from k on -/
def z_need (Q : Nat → Nat) (ch : Nat → Nat) : Nat → Nat → Nat
  | 0, _ => 0
  | r + 1, k => max 1 (ch (Q k)) + z_need Q ch r (k + 1)
/-! how often v comes from k on; how many letters the others want -/
def z_cnt (Q : Nat → Nat) (v : Nat) : Nat → Nat → Nat
  | 0, _ => 0
  | r + 1, k => (if Q k = v then 1 else 0) + z_cnt Q v r (k + 1)
def z_oth (Q : Nat → Nat) (ch : Nat → Nat) (v : Nat) : Nat → Nat → Nat
  | 0, _ => 0
  | r + 1, k => (if Q k = v then 0 else max 1 (ch (Q k))) + z_oth Q ch v r (k + 1)
theorem z_rom_add {st : Int} {n : Nat} {y : Int} {s : Nat} (h : st = 1 ∨ st = -1) : z_rom st n (y + st * s) = z_rom st n y - s := by
  unfold z_rom
  rcases h with rfl | rfl <;> simp <;> omega
theorem z_need_upd {Q : Nat → Nat} {ch : Nat → Nat} {v s : Nat} (hs : 1 ≤ s) : ∀ {r k : Nat}, z_need Q (z_upd ch v s) r k = s * z_cnt Q v r k + z_oth Q ch v r k
  | 0, _ => by simp [z_need, z_cnt, z_oth]
  | r + 1, k => by
    simp only [z_need, z_cnt, z_oth, z_need_upd hs (r := r) (k := k + 1)]
    by_cases h : Q k = v
    · simp only [h, z_upd, if_true, Nat.mul_add]
      omega
    · simp only [z_upd, h, if_false, Nat.zero_add]
      omega
theorem z_need_le_upd {Q : Nat → Nat} {ch : Nat → Nat} {v s : Nat} (h0 : ch v = 0) (hs : 1 ≤ s) : ∀ {r k : Nat}, z_need Q ch r k ≤ z_need Q (z_upd ch v s) r k
  | 0, _ => Nat.le_refl _
  | r + 1, k => by
    have := z_need_le_upd (Q := Q) h0 hs (r := r) (k := k + 1)
    simp only [z_need]
    have : max 1 (ch (Q k)) ≤ max 1 (z_upd ch v s (Q k)) := by
      unfold z_upd
      split
      · next h => rw [h, h0]; omega
      · exact Nat.le_refl _
    omega
/-! what can be laid has room -/
theorem z_lay_room {f : Nat → Int} {n : Nat} {st : Int} {Q : Nat → Nat} (hst : st = 1 ∨ st = -1) : ∀ {r k : Nat} {y : Int} {ch : Nat → Nat} {e : Nat → Int}, 0 ≤ z_rom st n y → z_lay f n st Q r k y ch e → (z_need Q ch r k : Int) ≤ z_rom st n y
  | 0, k, y, ch, e, h0, _ => by simp only [z_need]; omega
  | r + 1, k, y, ch, e, h0, h => by
    unfold z_lay at h
    simp only [z_need]
    by_cases hc : ch (Q k) = 0
    · obtain ⟨s, h1, h2, h3⟩ := h.1 hc
      have q := z_lay_room hst (by rw [z_rom_add hst]; omega) h3
      rw [z_rom_add hst] at q
      have w := z_need_le_upd (Q := Q) hc h1 (r := r) (k := k + 1)
      rw [hc]
      omega
    · obtain ⟨h1, h2, h3⟩ := h.2 (by omega)
      have q := z_lay_room hst (by rw [z_rom_add hst]; omega) h3
      rw [z_rom_add hst] at q
      omega
/-! a letter that comes again later lies there again, farther on -/
theorem z_lay_again {f : Nat → Int} {n : Nat} {st : Int} {Q : Nat → Nat} (hst : st = 1 ∨ st = -1) {v s : Nat} (hs : 1 ≤ s) : ∀ {r k : Nat} {y : Int} {ch : Nat → Nat} {e : Nat → Int}, 0 ≤ z_rom st n y → z_lay f n st Q r k y ch e → ch v = s → 1 ≤ z_cnt Q v r k →
    ∃ d : Nat, (s : Int) ≤ z_rom st n (y + st * d) ∧ ∀ t : Nat, t < s → f (e v + st * t).toNat = f (y + st * d + st * t).toNat
  | 0, k, y, ch, e, h0, _, _, hc => by simp only [z_cnt] at hc; omega
  | r + 1, k, y, ch, e, h0, h, hv, hc => by
    unfold z_lay at h
    simp only [z_cnt] at hc
    by_cases hq : Q k = v
    · obtain ⟨h1, h2, h3⟩ := h.2 (by rw [hq]; omega)
      rw [hq, hv] at h1 h2
      exact ⟨0, by simpa using h1, fun t ht => by simpa using h2 t ht⟩
    · rw [if_neg hq] at hc
      by_cases h0c : ch (Q k) = 0
      · obtain ⟨s', h1, h2, h3⟩ := h.1 h0c
        obtain ⟨d, d1, d2⟩ := z_lay_again hst hs (by rw [z_rom_add hst]; omega) h3 (by unfold z_upd; rw [if_neg (fun h => hq h.symm)]; exact hv) (by omega)
        have e1 : y + st * (s' : Int) + st * (d : Int) = y + st * ((s' + d : Nat) : Int) := by rw [Int.natCast_add, Int.mul_add]; omega
        rw [e1] at d1
        refine ⟨s' + d, d1, fun t ht => ?_⟩
        have := d2 t ht
        rw [e1] at this
        unfold z_upd at this
        rw [if_neg (fun h => hq h.symm)] at this
        exact this
      · obtain ⟨h1, h2, h3⟩ := h.2 (by omega)
        obtain ⟨d, d1, d2⟩ := z_lay_again hst hs (by rw [z_rom_add hst]; omega) h3 hv (by omega)
        have e1 : y + st * (ch (Q k) : Int) + st * (d : Int) = y + st * ((ch (Q k) + d : Nat) : Int) := by rw [Int.natCast_add, Int.mul_add]; omega
        rw [e1] at d1
        refine ⟨ch (Q k) + d, d1, fun t ht => ?_⟩
        have := d2 t ht
        rw [e1] at this
        exact this
theorem z_mxa_ge {f : Nat → Int} {i : Nat} : ∀ {k j : Nat}, j < k → z_alk f i j ≤ z_mxa f i k
  | 0, j, h => absurd h (by omega)
  | k + 1, j, h => by
    simp only [z_mxa]
    by_cases hj : j = k
    · subst hj; omega
    · have := z_mxa_ge (f := f) (i := i) (k := k) (j := j) (by omega)
      omega
/-! letters that stand alone; short places: there one letter is enough -/
def z_one (P : Nat → Nat) (q k : Nat) : Prop := ∀ j, j < q → j ≠ k → P j ≠ P k
def z_shp (P : Nat → Nat) (q k : Nat) : Prop :=
  z_one P q k ∧ ((0 < k ∧ z_one P q (k - 1)) ∨ (∀ j, j < k → z_one P q j) ∨ (∀ j, k < j → j < q → z_one P q j))
/-! words laid so that a short place has one letter -/
def z_lys (f : Nat → Int) (n : Nat) (st : Int) (Q : Nat → Nat) (sh : Nat → Prop) : Nat → Nat → Int → (Nat → Nat) → (Nat → Int) → Prop
  | 0, _, _, _, _ => True
  | r + 1, k, y, ch, e =>
    (ch (Q k) = 0 → ∃ s : Nat, 1 ≤ s ∧ (s : Int) ≤ z_rom st n y ∧ (sh k → s = 1) ∧ z_lys f n st Q sh r (k + 1) (y + st * s) (z_upd ch (Q k) s) (z_upd e (Q k) y)) ∧
    (0 < ch (Q k) → (ch (Q k) : Int) ≤ z_rom st n y ∧ (∀ t : Nat, t < ch (Q k) → f (e (Q k) + st * t).toNat = f (y + st * t).toNat) ∧ z_lys f n st Q sh r (k + 1) (y + st * (ch (Q k) : Int)) ch e)
theorem z_lys_lay {f : Nat → Int} {n : Nat} {st : Int} {Q : Nat → Nat} {sh : Nat → Prop} : ∀ {r k : Nat} {y : Int} {ch : Nat → Nat} {e : Nat → Int}, z_lys f n st Q sh r k y ch e → z_lay f n st Q r k y ch e
  | 0, _, _, _, _, _ => trivial
  | r + 1, k, y, ch, e, h => by
    unfold z_lys at h
    unfold z_lay
    refine ⟨fun hc => ?_, fun hc => ?_⟩
    · obtain ⟨s, h1, h2, h3, h4⟩ := h.1 hc
      exact ⟨s, h1, h2, z_lys_lay h4⟩
    · obtain ⟨h1, h2, h3⟩ := h.2 hc
      exact ⟨h1, h2, z_lys_lay h3⟩
theorem z_lay_lys {f : Nat → Int} {n : Nat} {st : Int} {Q : Nat → Nat} {sh : Nat → Prop} (hs : ∀ k, ¬ sh k) : ∀ {r k : Nat} {y : Int} {ch : Nat → Nat} {e : Nat → Int}, z_lay f n st Q r k y ch e → z_lys f n st Q sh r k y ch e
  | 0, _, _, _, _, _ => trivial
  | r + 1, k, y, ch, e, h => by
    unfold z_lay at h
    unfold z_lys
    refine ⟨fun hc => ?_, fun hc => ?_⟩
    · obtain ⟨s, h1, h2, h4⟩ := h.1 hc
      exact ⟨s, h1, h2, fun h => absurd h (hs k), z_lay_lys hs h4⟩
    · obtain ⟨h1, h2, h3⟩ := h.2 hc
      exact ⟨h1, h2, z_lay_lys hs h3⟩
theorem z_cnt_one {P : Nat → Nat} {q k : Nat} (h : z_one P q (q - 1 - k)) (hk : k < q) : ∀ {r j : Nat}, k < j → j + r = q → z_cnt (fun j => P (q - 1 - j)) (P (q - 1 - k)) r j = 0
  | 0, _, _, _ => rfl
  | r + 1, j, h1, h2 => by
    simp only [z_cnt]
    rw [if_neg (h (q - 1 - j) (by omega) (by omega)), z_cnt_one h hk (r := r) (j := j + 1) (by omega) (by omega)]
theorem z_bt1 : ∀ x : Fin 256, ∀ v : Fin 8, and_ (shr_ (x.val : Int) (v.val : Int)) 1 = (if Nat.testBit x.val v.val = true then 1 else 0) := by decide +kernel
theorem z_bt2 : ∀ x : Fin 256, ∀ v : Fin 8, or_ (x.val : Int) (shl_ 1 (v.val : Int)) = ((x.val ||| (1 <<< v.val) : Nat) : Int) ∧ x.val ||| (1 <<< v.val) < 256 := by decide +kernel
theorem z_bshr {x v : Nat} (hx : x < 256) (hv : v < 8) : and_ (shr_ (x : Int) (v : Int)) 1 = if Nat.testBit x v = true then 1 else 0 := z_bt1 ⟨x, hx⟩ ⟨v, hv⟩
theorem z_bor1 {x v : Nat} (hx : x < 256) (hv : v < 8) : or_ (x : Int) (shl_ 1 (v : Int)) = ((x ||| (1 <<< v) : Nat) : Int) := (z_bt2 ⟨x, hx⟩ ⟨v, hv⟩).1
theorem z_bor1b {x v : Nat} (hx : x < 256) (hv : v < 8) : x ||| (1 <<< v) < 256 := (z_bt2 ⟨x, hx⟩ ⟨v, hv⟩).2
/-! a Shape's short places, as bits -/
def z_Ss (I : z_Is) (a : Nat) (P : Nat → Nat) (q : Nat) : Prop := ∃ N : Nat, I a 3 = (N : Int) ∧ N < 64 ∧ ∀ k, k < q → (Nat.testBit N k = true ↔ z_shp P q k)
theorem z_one_c {P P' : Nat → Nat} {q k : Nat} (h : ∀ j, j < q → P' j = P j) (hk : k < q) (o : z_one P q k) : z_one P' q k := fun j hj hne => by
  rw [h j hj, h k hk]
  exact o j hj hne
theorem z_shp_c {P P' : Nat → Nat} {q k : Nat} (h : ∀ j, j < q → P' j = P j) (hk : k < q) (o : z_shp P q k) : z_shp P' q k := by
  obtain ⟨o1, o2⟩ := o
  refine ⟨z_one_c h hk o1, ?_⟩
  rcases o2 with ⟨a, b⟩ | a | a
  · exact Or.inl ⟨a, z_one_c h (by omega) b⟩
  · exact Or.inr (Or.inl (fun j hj => z_one_c h (by omega) (a j hj)))
  · exact Or.inr (Or.inr (fun j h1 h2 => z_one_c h h2 (a j h1 h2)))
theorem z_Ss_c {I I' : z_Is} {a q : Nat} {P P' : Nat → Nat} (S : z_Ss I a P q) (e : I' a 3 = I a 3) (h : ∀ k, k < q → P' k = P k) : z_Ss I' a P' q := by
  obtain ⟨N, n1, n2, n3⟩ := S
  exact ⟨N, by rw [e]; exact n1, n2, fun k hk => (n3 k hk).trans ⟨z_shp_c h hk, z_shp_c (fun j hj => (h j hj).symm) hk⟩⟩
section Short
variable {c : z_C} {T : z_Ty} {I : z_Is} {J : z_Js} {R : z_Rs} {a : Nat}
theorem z_isShort (S : z_ShL T R a) {N v : Nat} (hN : I a 3 = (N : Int)) (h64 : N < 64) (hv : v < 6) : k_Shape_isShort a (v : Int) (c, T, I, J, R) = some (if Nat.testBit N v = true then 1 else 0, (c, T, I, J, R)) := by
  obtain ⟨l1, -⟩ := S
  have eb := z_bshr (x := N) (v := v) (by omega) (by omega)
  unfold k_Shape_isShort
  by_cases ht : Nat.testBit N v = true
  · rw [if_pos ht] at eb
    rw [if_pos ht]
    simp (disch := omega) only [↓z_jn, ↓z_lt, ↓z_cl, ↓z_cxl, ↓z_cxr, ↓z_ob, ↓z_gI, ↓z_pI, ↓z_pZ, ↓z_pR, ↓z_aI, ↓z_aJ, ↓z_sI, ↓z_sB, ↓z_sZ, ↓z_sJ, ↓z_sR, ↓z_al, ↓z_ck, ↓z_zz, ↓z_dv, ↓z_rm, ↓z_nn0, ↓z_nnS, ↓z_if1, ↓z_if0, z_ob, z_gI, z_pI, z_pZ, z_pR, z_aI, z_aJ, z_sI, z_sB, z_sZ, z_sJ, z_sR, z_al, z_ck, z_zz, z_dv, z_rm, z_nn0, z_nnS, z_if1, z_if0, hN, eb]
  · rw [if_neg ht] at eb
    rw [if_neg ht]
    simp (disch := omega) only [↓z_jn, ↓z_lt, ↓z_cl, ↓z_cxl, ↓z_cxr, ↓z_ob, ↓z_gI, ↓z_pI, ↓z_pZ, ↓z_pR, ↓z_aI, ↓z_aJ, ↓z_sI, ↓z_sB, ↓z_sZ, ↓z_sJ, ↓z_sR, ↓z_al, ↓z_ck, ↓z_zz, ↓z_dv, ↓z_rm, ↓z_nn0, ↓z_nnS, ↓z_if1, ↓z_if0, z_ob, z_gI, z_pI, z_pZ, z_pR, z_aI, z_aJ, z_sI, z_sB, z_sZ, z_sJ, z_sR, z_al, z_ck, z_zz, z_dv, z_rm, z_nn0, z_nnS, z_if1, z_if0, hN]
end Short
