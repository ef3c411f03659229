/-! Sizes.lays, whole -/
section Lays
variable {c : z_C} {T : z_Ty} {J : z_Js} {R : z_Rs} {b s z n q : Nat} {f : Nat → Int} {P Q : Nat → Nat} {st : Int} {sh : Nat → Prop} {N : Nat}
theorem z_Sz_upd_id {I : z_Is} {ch : Nat → Nat} {e : Nat → Int} {v : Nat} (V : z_Sz I z ch e) (h0 : ch v = 0) (h1 : e v = -1) : z_Sz I z (z_upd ch v 0) (z_upd e v (-1)) := by
  intro w hw
  obtain ⟨g1, g2⟩ := V w hw
  unfold z_upd
  by_cases h : w = v
  · subst h; rw [if_pos rfl, if_pos rfl, g1, g2, h0, h1]; exact ⟨rfl, rfl⟩
  · rw [if_neg h, if_neg h]; exact ⟨g1, g2⟩
theorem z_Sh_fr {I I' : z_Is} {lo hi : Nat} (V : z_Sh I s P q) (h : z_fr lo hi I I') (h1 : s + 4 ≤ lo ∨ hi ≤ s) : z_Sh I' s P q := by
  obtain ⟨v1, v2, v3⟩ := V
  refine ⟨?_, v2, fun k hk => ⟨(v3 k hk).1, ?_⟩⟩
  · rw [h s (by omega)]; exact v1
  · rw [h (s + 3) (by omega)]; exact (v3 k hk).2
theorem z_lays (S : z_ShL T R s) (Z : z_SzL T R z) (L : z_LnL T R b) (hst : st = 1 ∨ st = -1) (hQ : ∀ k, k < q → Q k = if st = 1 then P k else P (q - 1 - k)) (hb : b + 68 ≤ z + 1 ∨ z + 3 ≤ b) (hs : s + 4 ≤ z + 1 ∨ z + 3 ≤ s)
    (hsh : ∀ k r, k + (r + 1) = q → sh k → st = -1 ∧ z_cnt Q (Q k) r (k + 1) = 0) (hN : N < 64) (hbit : st = -1 → ∀ k, k < q → (Nat.testBit N (q - 1 - k) = true ↔ sh k)) :
    ∀ (r d k : Nat) (y : Int) (ch : Nat → Nat) (e : Nat → Int) (I : z_Is), k + r = q → r < d → z_Ln I b f n → z_Sh I s P q → (st = -1 → I s 3 = (N : Int)) → (k = 0 → ch = (fun _ => 0) ∧ e = (fun _ => -1)) → (k ≠ 0 → z_Sz I z ch e) →
      0 ≤ z_rom st n y → z_rom st n y ≤ (n : Int) → (k ≠ 0 → (z_need Q ch r k : Int) ≤ z_rom st n y) → (∀ v, ch v ≤ 64) → (∀ v, v < 3 → (ch v = 0 → e v = -1) ∧ (0 < ch v → (st = 1 → 0 ≤ e v ∧ e v + (ch v : Int) ≤ y) ∧ (st = -1 → e v < (n : Int) ∧ y + (ch v : Int) ≤ e v))) →
      z_W c T J R (k_Sizes_lays d b s z (k : Int) y st (c, T, I, J, R)) (z_LP f n st Q sh z r k y ch e I) := by
  obtain ⟨s1, -⟩ := id S
  obtain ⟨z1, -⟩ := id Z
  obtain ⟨⟨l1, -⟩, -⟩ := id L
  have sd : s < z + 1 ∨ z + 3 ≤ s := by omega
  intro r
  induction r with
  | zero =>
    intro d k y ch e I hk hd V VS VN h0 h1 y0 y1 hn hch hkn
    obtain ⟨d, rfl⟩ : ∃ k, d = k + 1 := ⟨d - 1, by omega⟩
    obtain ⟨w1, w2, w3⟩ := id VS
    rw [k_Sizes_lays]
    simp (disch := omega) only [↓z_jn, ↓z_lt, ↓z_cl, ↓z_cxl, ↓z_cxr, ↓z_ob, ↓z_gI, ↓z_pI, ↓z_pZ, ↓z_pR, ↓z_aI, ↓z_aJ, ↓z_sI, ↓z_sB, ↓z_sZ, ↓z_sJ, ↓z_sR, ↓z_al, ↓z_ck, ↓z_zz, ↓z_dv, ↓z_rm, ↓z_nn0, ↓z_nnS, ↓z_if1, ↓z_if0, z_ob, z_gI, z_pI, z_pZ, z_pR, z_aI, z_aJ, z_sI, z_sB, z_sZ, z_sJ, z_sR, z_al, z_ck, z_zz, z_dv, z_rm, z_nn0, z_nnS, z_if1, z_if0, w1]
    exact z_Wr ⟨Or.inr rfl, ⟨fun _ => by unfold z_lys; trivial, fun _ => rfl⟩, z_fr0, fun h => absurd h (by decide)⟩
  | succ r ih =>
    intro d k y ch e I hk hd V VS VN h0 h1 y0 y1 hn hch hkn
    obtain ⟨d, rfl⟩ : ∃ k, d = k + 1 := ⟨d - 1, by omega⟩
    obtain ⟨w1, w2, w3⟩ := id VS
    have n64 : n ≤ 64 := V.2.1
    rw [k_Sizes_lays, z_gI (by omega), w1, z_if0 (by omega), z_if1 (by omega)]
    refine z_Wj (fun b' => ∀ I1, z_Sz I1 z ch e → z_fr (z + 1) (z + 3) I I1 → z_W c T J R (b' (c, T, I1, J, R)) (z_LP f n st Q sh z (r + 1) k y ch e I)) ?_ ?_
    · intro I1 V1 fr1
      have V' := z_Ln_fr V fr1 (by omega)
      have VS' := z_Sh_fr VS fr1 (by omega)
      have VN' : st = -1 → I1 s 3 = (N : Int) := fun h => by rw [fr1 s sd]; exact VN h
      obtain ⟨u1, -⟩ := id VS'
      have yb : -1 ≤ y ∧ y ≤ 64 := by
        unfold z_rom at y0 y1
        rcases hst with rfl | rfl
        · rw [if_pos rfl] at y0 y1; omega
        · rw [if_neg (by decide)] at y0 y1; omega
      have hq3 : Q k < 3 := by
        rw [hQ k (by omega)]
        split
        · exact (w3 _ (by omega)).1
        · exact (w3 _ (by omega)).1
      have A : ∀ w : Int, w = (if st = 1 then (k : Int) else (q : Int) - 1 - (k : Int)) → k_Shape_at s w (c, T, I1, J, R) = some ((Q k : Int), (c, T, I1, J, R)) := by
        intro w hw
        have hQk := hQ k (by omega)
        rcases hst with rfl | rfl
        · rw [if_pos rfl] at hw hQk
          rw [z_Shape_at S VS', hQk, hw, if_pos (by omega)]
          rfl
        · rw [if_neg (by decide)] at hw hQk
          rw [z_Shape_at S VS', hQk, hw, if_pos (by omega), show ((q : Int) - 1 - (k : Int)).toNat = q - 1 - k from by omega]
      have B : k_Sizes_of z (Q k : Int) (c, T, I1, J, R) = some ((ch (Q k) : Int), (c, T, I1, J, R)) := by
        rw [z_Sizes_of Z V1 (by omega) (by omega)]
        rfl
      have hc64 := hch (Q k)
      refine z_Wj (fun b' => ∀ w : Int, w = (if st = 1 then (k : Int) else (q : Int) - 1 - (k : Int)) → z_W c T J R (b' s w (c, T, I1, J, R)) (z_LP f n st Q sh z (r + 1) k y ch e I)) ?_ ?_
      · intro w hw
        rw [z_ob (by omega), A w hw, z_cl, z_lt, z_ob (by omega), B, z_cl, z_lt]
        by_cases hc : ch (Q k) = 0
        · have n64' : z_rom st n y ≤ 64 := by omega
          have ev := (hkn (Q k) hq3).1 hc
          have lay1 : z_lys f n st Q sh (r + 1) k y ch e ↔ ∃ s' : Nat, 1 ≤ s' ∧ (s' : Int) ≤ z_rom st n y ∧ (sh k → s' = 1) ∧ z_lys f n st Q sh r (k + 1) (y + st * s') (z_upd ch (Q k) s') (z_upd e (Q k) y) := by
            constructor
            · intro h
              unfold z_lys at h
              exact h.1 hc
            · intro h
              unfold z_lys
              exact ⟨fun _ => h, fun h' => absurd hc (by omega)⟩
          have room1 : ∀ s' : Nat, 1 ≤ s' → (s' : Int) ≤ z_rom st n y → z_lys f n st Q sh r (k + 1) (y + st * s') (z_upd ch (Q k) s') (z_upd e (Q k) y) → ((s' * (1 + z_cnt Q (Q k) r (k + 1)) : Nat) : Int) + (z_oth Q ch (Q k) r (k + 1) : Int) ≤ z_rom st n y := by
            intro s' a1 a2 a3
            have q1 := z_lay_room hst (by rw [z_rom_add hst]; omega) (z_lys_lay a3)
            rw [z_rom_add hst, z_need_upd a1] at q1
            rw [Nat.mul_add, Nat.mul_one]
            omega
          have cb : ∀ r k, z_cnt Q (Q k) r (k + 1) ≤ r := by
            intro r k
            have : ∀ (v r k : Nat), z_cnt Q v r k ≤ r := by
              intro v r
              induction r with
              | zero => intro k; exact Nat.le_refl _
              | succ r ih => intro k; have := ih (k + 1); simp only [z_cnt]; split <;> omega
            exact this _ _ _
          have cb1 := cb r k
          have ob1 : ∀ (v r k : Nat), z_oth Q ch v r k ≤ 64 * r := by
            intro v r
            induction r with
            | zero => intro k; exact Nat.le_refl _
            | succ r ih => intro k; have := ih (k + 1); have := hch (Q k); simp only [z_oth]; split <;> omega
          have ob2 := ob1 (Q k) r (k + 1)
          rw [z_if1 (by omega)]
          refine z_Wj (fun b' => z_W c T J R (b' (z_rom st n y) (c, T, I1, J, R)) (z_LP f n st Q sh z (r + 1) k y ch e I)) ?_ ?_
          · try dsimp only
            rw [z_lt, z_lt, z_ck (by omega) (by omega), z_lt]
            rw [z_lays_lp1 (c := c) (J := J) S VS' Z V1 hst hQ hch r FU_ (k + 1) _ _ _ (by omega) (by unfold FU_; omega) (by omega) (by omega) (by omega) (by omega) (by omega)]
            try dsimp only
            rw [z_lt]
            refine z_Wj (fun b' => ∀ most : Int, ((¬ sh k ∧ most = z_rom st n y - (z_oth Q ch (Q k) r (k + 1) : Int)) ∨ (st = -1 ∧ 0 < z_cnt Q (Q k) r (k + 1) ∧ most = (if 0 ≤ y ∧ y < (n : Int) then (z_mxa f y.toNat y.toNat : Int) else 0)) ∨ (sh k ∧ most = 1)) → z_W c T J R (b' most (c, T, I1, J, R)) (z_LP f n st Q sh z (r + 1) k y ch e I)) ?_ ?_
            · intro most hmost
              have most1 : ∀ s' : Nat, 1 ≤ s' → (s' : Int) ≤ z_rom st n y → (sh k → s' = 1) → z_lys f n st Q sh r (k + 1) (y + st * s') (z_upd ch (Q k) s') (z_upd e (Q k) y) → (s' : Int) ≤ most := by
                intro s' a1 a2 aS a3
                have q1 := room1 s' a1 a2 a3
                rw [Nat.mul_add, Nat.mul_one] at q1
                rcases hmost with ⟨-, h⟩ | ⟨h1, h2, h3⟩ | ⟨h, h'⟩
                · omega
                rotate_left
                · have := aS h
                  omega
                · obtain ⟨dd, d1, d2⟩ := z_lay_again (v := Q k) hst a1 (by rw [z_rom_add hst]; omega) (z_lys_lay a3) (by unfold z_upd; rw [if_pos rfl]) h2
                  unfold z_rom at d1 a2 y1
                  subst h1
                  rw [if_neg (by decide)] at d1 a2 y1
                  rw [if_pos (by omega)] at h3
                  have k1 : s' ≤ z_alk f y.toNat (y - s' - dd).toNat := (z_alk_iff (by omega)).mpr ⟨by omega, fun t ht => by
                    have := d2 t ht
                    unfold z_upd at this
                    rw [if_pos rfl] at this
                    rw [show (y + -1 * (t : Int)).toNat = y.toNat - t from by omega, show (y + -1 * (s' : Int) + -1 * (dd : Int) + -1 * (t : Int)).toNat = (y - s' - dd).toNat - t from by omega] at this
                    exact this⟩
                  have k2 := z_mxa_ge (f := f) (i := y.toNat) (k := y.toNat) (j := (y - s' - dd).toNat) (by omega)
                  omega
              rw [z_lt]
              refine z_lays_lp2 (n := n) (sh := sh) (f := f) (Q := Q) (e := e) (ch := ch) (v := Q k) (r := r) (k := k) (tm := 1 + z_cnt Q (Q k) r (k + 1)) (room := (z_rom st n y - (z_oth Q ch (Q k) r (k + 1) : Int)).toNat) (y := y) Z hst hq3 (by omega) (by omega) (by omega) (by omega) (by omega) (by omega) I1 ?_ ?_ ?_ 65 FU_ 1 I1 0 (-1) _ _ _ _ (by omega) (by unfold FU_; omega) (by omega) (by omega) (by omega) (by omega) (by omega) rfl (z_Sz_upd_id V1 hc ev) z_fr0 (fun s' a1 a2 => absurd a2 (by omega))
              · intro s' I2 a1 a2 V2 fr2
                have a3 : s' * (1 + z_cnt Q (Q k) r (k + 1)) = s' + s' * z_cnt Q (Q k) r (k + 1) := by rw [Nat.mul_add, Nat.mul_one]
                rw [a3] at a2
                have ih' := ih d (k + 1) (y + st * (s' : Int)) (z_upd ch (Q k) s') (z_upd e (Q k) y) I2 (by omega) (by omega) (z_Ln_fr V' fr2 (by omega)) (z_Sh_fr VS' fr2 (by omega)) (fun h => by rw [fr2 s sd]; exact VN' h) (fun h => absurd h (by omega)) (fun _ => V2)
                  (by rw [z_rom_add hst]; omega) (by rw [z_rom_add hst]; omega) (fun _ => by rw [z_rom_add hst, z_need_upd a1]; omega)
                  (fun v => by unfold z_upd; split; omega; exact hch v)
                  (fun v hv => by
                    unfold z_upd
                    by_cases hvq : v = Q k
                    · rw [if_pos hvq, if_pos hvq]
                      refine ⟨fun h => absurd h (by omega), fun _ => ⟨fun h => ?_, fun h => ?_⟩⟩
                      · unfold z_rom at y1
                        rw [if_pos h] at y1
                        subst h
                        omega
                      · unfold z_rom at y1
                        subst h
                        rw [if_neg (by decide)] at y1
                        omega
                    · rw [if_neg hvq, if_neg hvq]
                      refine ⟨(hkn v hv).1, fun hp => ⟨fun h => ?_, fun h => ?_⟩⟩
                      · have := ((hkn v hv).2 hp).1 h
                        subst h
                        omega
                      · have := ((hkn v hv).2 hp).2 h
                        subst h
                        omega)
                rw [show ((k + 1 : Nat) : Int) = (k : Int) + 1 from by omega] at ih'
                exact ih'
              · intro I2 x y' V2 fr2 hno
                have Sset := z_Sizes_set (c := c) (J := J) (I := I2) (v := (Q k : Int)) Z (by omega) (by omega) 0 (-1)
                rw [z_ob (by omega), Sset, z_cl, z_zz (by omega)]
                have V3 := z_Sz_set V2 (v := Q k) (x := 0) (xi := 0) rfl (-1)
                refine z_Wr ⟨Or.inl rfl, ⟨fun h => absurd h (by decide), fun h => ?_⟩, z_frT fr1 (z_frU (z_frU fr2 (by omega) (by omega)) (by omega) (by omega)), fun _ => ?_⟩
                · obtain ⟨s', a1, a2, aS, a3⟩ := lay1.mp h
                  have := room1 s' a1 a2 a3
                  exact absurd a3 (hno s' a1 (by omega) (most1 s' a1 a2 aS a3))
                · intro w hw
                  have := V3 w hw
                  unfold z_upd at this
                  rw [show ((Q k : Nat) : Int).toNat = Q k from by omega]
                  by_cases hwq : w = Q k
                  · rw [if_pos hwq, if_pos hwq] at this
                    rw [hwq] at this ⊢
                    rw [hc, ev]
                    exact this
                  · rw [if_neg hwq, if_neg hwq, if_neg hwq, if_neg hwq] at this
                    exact this
              · intro I2 s' fr2 a1 a2 a3 a5
                refine ⟨Or.inr rfl, ⟨fun _ => lay1.mpr ⟨s', a1, ?_, fun hs => ?_, a2⟩, fun _ => rfl⟩, z_frT fr1 fr2, fun h => absurd h (by decide)⟩
                rotate_left
                · rcases hmost with ⟨h, -⟩ | ⟨-, h, -⟩ | ⟨-, h⟩
                  · exact absurd hs h
                  · have := (hsh k r hk hs).2
                    omega
                  · omega
                have a4 : s' * (1 + z_cnt Q (Q k) r (k + 1)) = s' + s' * z_cnt Q (Q k) r (k + 1) := by rw [Nat.mul_add, Nat.mul_one]
                omega
            · intro b' hb'
              have TW := z_Line_twiceAt (c := c) (J := J) L V' y
              rcases hst with rfl | rfl
              · rw [z_if1 (by decide)]
                exact hb' _ (Or.inl ⟨fun h => absurd (hsh k r hk h).1 (by decide), rfl⟩)
              · rw [z_if0 (by decide)]
                refine z_Wj (fun b2 => ∀ most : Int, ((¬ sh k ∧ most = z_rom (-1) n y - (z_oth Q ch (Q k) r (k + 1) : Int)) ∨ ((-1 : Int) = -1 ∧ 0 < z_cnt Q (Q k) r (k + 1) ∧ most = (if 0 ≤ y ∧ y < (n : Int) then (z_mxa f y.toNat y.toNat : Int) else 0)) ∨ (sh k ∧ most = 1)) → z_W c T J R (b2 most (c, T, I1, J, R)) (z_LP f n (-1) Q sh z (r + 1) k y ch e I)) ?_ ?_
                · intro most hm
                  rw [z_lt]
                  exact hb' _ hm
                · intro b2 hb2
                  by_cases t1 : (1 : Int) + (z_cnt Q (Q k) r (k + 1) : Int) ≤ 1
                  · have SH := z_isShort (c := c) (J := J) S (VN' rfl) hN (v := q - 1 - k) (by omega)
                    rw [z_if1 t1, z_gI (by omega), u1, z_ck (by omega) (by omega), z_ck (by omega) (by omega), z_ob (by omega), show (q : Int) - 1 - (k : Int) = ((q - 1 - k : Nat) : Int) from by omega, SH, z_cl]
                    have hb3 := hbit rfl k (by omega)
                    by_cases ht : Nat.testBit N (q - 1 - k) = true
                    · rw [if_pos ht, z_if0 (by decide)]
                      exact hb2 _ (Or.inr (Or.inr ⟨hb3.mp ht, rfl⟩))
                    · rw [if_neg ht, z_if1 rfl]
                      exact hb2 _ (Or.inl ⟨fun h => ht (hb3.mpr h), rfl⟩)
                  · rw [z_if0 t1, z_ob (by omega), TW, z_cl]
                    exact hb2 _ (Or.inr (Or.inl ⟨rfl, by omega, rfl⟩))
          · intro b' hb'
            obtain ⟨v1, -⟩ := id V'
            unfold z_rom at hb'
            rcases hst with rfl | rfl
            · rw [if_pos rfl] at hb'
              simp (disch := omega) only [↓z_jn, ↓z_lt, ↓z_cl, ↓z_cxl, ↓z_cxr, ↓z_ob, ↓z_gI, ↓z_pI, ↓z_pZ, ↓z_pR, ↓z_aI, ↓z_aJ, ↓z_sI, ↓z_sB, ↓z_sZ, ↓z_sJ, ↓z_sR, ↓z_al, ↓z_ck, ↓z_zz, ↓z_dv, ↓z_rm, ↓z_nn0, ↓z_nnS, ↓z_if1, ↓z_if0, z_ob, z_gI, z_pI, z_pZ, z_pR, z_aI, z_aJ, z_sI, z_sB, z_sZ, z_sJ, z_sR, z_al, z_ck, z_zz, z_dv, z_rm, z_nn0, z_nnS, z_if1, z_if0, v1]
              exact hb'
            · rw [if_neg (by decide)] at hb'
              simp (disch := omega) only [↓z_jn, ↓z_lt, ↓z_cl, ↓z_cxl, ↓z_cxr, ↓z_ob, ↓z_gI, ↓z_pI, ↓z_pZ, ↓z_pR, ↓z_aI, ↓z_aJ, ↓z_sI, ↓z_sB, ↓z_sZ, ↓z_sJ, ↓z_sR, ↓z_al, ↓z_ck, ↓z_zz, ↓z_dv, ↓z_rm, ↓z_nn0, ↓z_nnS, ↓z_if1, ↓z_if0, z_ob, z_gI, z_pI, z_pZ, z_pR, z_aI, z_aJ, z_sI, z_sB, z_sZ, z_sJ, z_sR, z_al, z_ck, z_zz, z_dv, z_rm, z_nn0, z_nnS, z_if1, z_if0]
              exact hb'
        · have hk0 : k ≠ 0 := fun h => hc (by rw [(h0 h).1])
          have hn' := hn hk0
          simp only [z_need] at hn'
          have hkn' := (hkn (Q k) hq3).2 (by omega)
          have hrom : (ch (Q k) : Int) ≤ z_rom st n y := by omega
          obtain ⟨r0, e0, e1, e2⟩ := z_Sizes_isAgainAt (c := c) (J := J) (v := (Q k : Int)) (y := y) (st := st) Z V1 L V' (by omega) (by omega) hst (by simpa only [Int.toNat_natCast] using hc64)
            (by simp only [Int.toNat_natCast]; rcases hst with h | h; · have := hkn'.1 h; omega
                · have := hkn'.2 h; omega)
            (by simp only [Int.toNat_natCast]; rcases hst with h | h; · have := hkn'.1 h; omega
                · have := hkn'.2 h; omega) (by omega) (by omega)
          simp only [Int.toNat_natCast] at e2
          have e3 : r0 = 1 ↔ ∀ t : Nat, t < ch (Q k) → f (e (Q k) + st * t).toNat = f (y + st * t).toNat := by
            rw [e2]
            rcases hst with rfl | rfl
            · have k1 := hkn'.1 rfl
              unfold z_rom at hrom
              rw [if_pos rfl] at hrom ⊢
              rw [z_lk_iff (by omega) (by omega) (by omega) (by omega) (by omega)]
              refine ⟨fun h t ht => ?_, fun h => ⟨by omega, by omega, fun t ht => ?_⟩⟩
              · have := h.2.2 (ch (Q k) - 1 - t) (by omega)
                rw [show e (Q k) + ((ch (Q k) : Int) - 1) - ((ch (Q k) - 1 - t : Nat) : Int) = e (Q k) + 1 * (t : Int) from by omega, show y + ((ch (Q k) : Int) - 1) - ((ch (Q k) - 1 - t : Nat) : Int) = y + 1 * (t : Int) from by omega] at this
                exact this
              · have := h (ch (Q k) - 1 - t) (by omega)
                rw [show e (Q k) + ((ch (Q k) : Int) - 1) - (t : Int) = e (Q k) + 1 * ((ch (Q k) - 1 - t : Nat) : Int) from by omega, show y + ((ch (Q k) : Int) - 1) - (t : Int) = y + 1 * ((ch (Q k) - 1 - t : Nat) : Int) from by omega]
                exact this
            · have k1 := hkn'.2 rfl
              unfold z_rom at hrom
              rw [if_neg (by decide)] at hrom ⊢
              rw [z_lk_iff (by omega) (by omega) (by omega) (by omega) (by omega)]
              refine ⟨fun h t ht => ?_, fun h => ⟨by omega, by omega, fun t ht => ?_⟩⟩
              · have := h.2.2 t ht
                rw [show e (Q k) + 0 - (t : Int) = e (Q k) + -1 * (t : Int) from by omega, show y + 0 - (t : Int) = y + -1 * (t : Int) from by omega] at this
                exact this
              · have := h t ht
                rw [show e (Q k) + 0 - (t : Int) = e (Q k) + -1 * (t : Int) from by omega, show y + 0 - (t : Int) = y + -1 * (t : Int) from by omega]
                exact this
          have lay1 : z_lys f n st Q sh (r + 1) k y ch e ↔ r0 = 1 ∧ z_lys f n st Q sh r (k + 1) (y + st * (ch (Q k) : Int)) ch e := by
            constructor
            · intro h
              unfold z_lys at h
              obtain ⟨h1, h2, h3⟩ := h.2 (Nat.pos_of_ne_zero hc)
              exact ⟨e3.mpr h2, h3⟩
            · intro h
              unfold z_lys
              exact ⟨fun h' => absurd h' hc, fun _ => ⟨hrom, e3.mp h.1, h.2⟩⟩
          have ih' := ih d (k + 1) (y + st * (ch (Q k) : Int)) ch e I1 (by omega) (by omega) V' VS' VN' (fun h => absurd h (by omega)) (fun _ => V1)
            (by rw [z_rom_add hst]; omega) (by rw [z_rom_add hst]; omega) (fun _ => by rw [z_rom_add hst]; omega) hch
            (fun v hv => ⟨(hkn v hv).1, fun hp => ⟨fun h => by have := ((hkn v hv).2 hp).1 h; rw [h]; omega, fun h => by have := ((hkn v hv).2 hp).2 h; rw [h]; omega⟩⟩)
          rw [show ((k + 1 : Nat) : Int) = (k : Int) + 1 from by omega] at ih'
          have q2 : -66 ≤ st * (ch (Q k) : Int) ∧ st * (ch (Q k) : Int) ≤ 66 := by rcases hst with h | h <;> rw [h] <;> omega
          rw [z_if0 (by omega), z_ob (by omega), e0, z_cl]
          by_cases hr : r0 = 0
          · simp (disch := omega) only [↓z_jn, ↓z_lt, ↓z_cl, ↓z_cxl, ↓z_cxr, ↓z_ob, ↓z_gI, ↓z_pI, ↓z_pZ, ↓z_pR, ↓z_aI, ↓z_aJ, ↓z_sI, ↓z_sB, ↓z_sZ, ↓z_sJ, ↓z_sR, ↓z_al, ↓z_ck, ↓z_zz, ↓z_dv, ↓z_rm, ↓z_nn0, ↓z_nnS, ↓z_if1, ↓z_if0, z_ob, z_gI, z_pI, z_pZ, z_pR, z_aI, z_aJ, z_sI, z_sB, z_sZ, z_sJ, z_sR, z_al, z_ck, z_zz, z_dv, z_rm, z_nn0, z_nnS, z_if1, z_if0]
            exact z_Wr ⟨Or.inl rfl, ⟨fun h => absurd h (by decide), fun h => by have := (lay1.mp h).1; omega⟩, fr1, fun _ => V1⟩
          · simp (disch := omega) only [↓z_jn, ↓z_lt, ↓z_cl, ↓z_cxl, ↓z_cxr, ↓z_ob, ↓z_gI, ↓z_pI, ↓z_pZ, ↓z_pR, ↓z_aI, ↓z_aJ, ↓z_sI, ↓z_sB, ↓z_sZ, ↓z_sJ, ↓z_sR, ↓z_al, ↓z_ck, ↓z_zz, ↓z_dv, ↓z_rm, ↓z_nn0, ↓z_nnS, ↓z_if1, ↓z_if0, z_ob, z_gI, z_pI, z_pZ, z_pR, z_aI, z_aJ, z_sI, z_sB, z_sZ, z_sJ, z_sR, z_al, z_ck, z_zz, z_dv, z_rm, z_nn0, z_nnS, z_if1, z_if0]
            refine z_Wc ih' (fun x I2 hx => ?_)
            obtain ⟨x1, x2, x3, x4⟩ := hx
            by_cases hx0 : x = 0
            · subst hx0
              simp (disch := omega) only [↓z_jn, ↓z_lt, ↓z_cl, ↓z_cxl, ↓z_cxr, ↓z_ob, ↓z_gI, ↓z_pI, ↓z_pZ, ↓z_pR, ↓z_aI, ↓z_aJ, ↓z_sI, ↓z_sB, ↓z_sZ, ↓z_sJ, ↓z_sR, ↓z_al, ↓z_ck, ↓z_zz, ↓z_dv, ↓z_rm, ↓z_nn0, ↓z_nnS, ↓z_if1, ↓z_if0, z_ob, z_gI, z_pI, z_pZ, z_pR, z_aI, z_aJ, z_sI, z_sB, z_sZ, z_sJ, z_sR, z_al, z_ck, z_zz, z_dv, z_rm, z_nn0, z_nnS, z_if1, z_if0]
              exact z_Wr ⟨Or.inl rfl, ⟨fun h => absurd h (by decide), fun h => absurd (x2.mpr (lay1.mp h).2) (by decide)⟩, z_frT fr1 x3, fun _ => x4 rfl⟩
            · simp (disch := omega) only [↓z_jn, ↓z_lt, ↓z_cl, ↓z_cxl, ↓z_cxr, ↓z_ob, ↓z_gI, ↓z_pI, ↓z_pZ, ↓z_pR, ↓z_aI, ↓z_aJ, ↓z_sI, ↓z_sB, ↓z_sZ, ↓z_sJ, ↓z_sR, ↓z_al, ↓z_ck, ↓z_zz, ↓z_dv, ↓z_rm, ↓z_nn0, ↓z_nnS, ↓z_if1, ↓z_if0, z_ob, z_gI, z_pI, z_pZ, z_pR, z_aI, z_aJ, z_sI, z_sB, z_sZ, z_sJ, z_sR, z_al, z_ck, z_zz, z_dv, z_rm, z_nn0, z_nnS, z_if1, z_if0]
              exact z_Wr ⟨Or.inr rfl, ⟨fun _ => lay1.mpr ⟨by omega, x2.mp (by omega)⟩, fun _ => rfl⟩, z_frT fr1 x3, fun h => absurd h (by decide)⟩
      · intro b' hb'
        rcases hst with rfl | rfl
        · simp (disch := omega) only [↓z_jn, ↓z_lt, ↓z_cl, ↓z_cxl, ↓z_cxr, ↓z_ob, ↓z_gI, ↓z_pI, ↓z_pZ, ↓z_pR, ↓z_aI, ↓z_aJ, ↓z_sI, ↓z_sB, ↓z_sZ, ↓z_sJ, ↓z_sR, ↓z_al, ↓z_ck, ↓z_zz, ↓z_dv, ↓z_rm, ↓z_nn0, ↓z_nnS, ↓z_if1, ↓z_if0, z_ob, z_gI, z_pI, z_pZ, z_pR, z_aI, z_aJ, z_sI, z_sB, z_sZ, z_sJ, z_sR, z_al, z_ck, z_zz, z_dv, z_rm, z_nn0, z_nnS, z_if1, z_if0]
          exact hb' _ (by rw [if_pos rfl])
        · simp (disch := omega) only [↓z_jn, ↓z_lt, ↓z_cl, ↓z_cxl, ↓z_cxr, ↓z_ob, ↓z_gI, ↓z_pI, ↓z_pZ, ↓z_pR, ↓z_aI, ↓z_aJ, ↓z_sI, ↓z_sB, ↓z_sZ, ↓z_sJ, ↓z_sR, ↓z_al, ↓z_ck, ↓z_zz, ↓z_dv, ↓z_rm, ↓z_nn0, ↓z_nnS, ↓z_if1, ↓z_if0, z_ob, z_gI, z_pI, z_pZ, z_pR, z_aI, z_aJ, z_sI, z_sB, z_sZ, z_sJ, z_sR, z_al, z_ck, z_zz, z_dv, z_rm, z_nn0, z_nnS, z_if1, z_if0, u1]
          exact hb' _ (by rw [if_neg (by decide)])
    · intro b' hb'
      by_cases hk0 : k = 0
      · obtain ⟨rfl, rfl⟩ := h0 hk0
        simp (disch := omega) only [↓z_jn, ↓z_lt, ↓z_cl, ↓z_cxl, ↓z_cxr, ↓z_ob, ↓z_gI, ↓z_pI, ↓z_pZ, ↓z_pR, ↓z_aI, ↓z_aJ, ↓z_sI, ↓z_sB, ↓z_sZ, ↓z_sJ, ↓z_sR, ↓z_al, ↓z_ck, ↓z_zz, ↓z_dv, ↓z_rm, ↓z_nn0, ↓z_nnS, ↓z_if1, ↓z_if0, z_ob, z_gI, z_pI, z_pZ, z_pR, z_aI, z_aJ, z_sI, z_sB, z_sZ, z_sJ, z_sR, z_al, z_ck, z_zz, z_dv, z_rm, z_nn0, z_nnS, z_if1, z_if0]
        exact z_Wc (z_Sizes_clear Z) (fun _ I1 h => hb' I1 h.1 h.2)
      · simp (disch := omega) only [↓z_jn, ↓z_lt, ↓z_cl, ↓z_cxl, ↓z_cxr, ↓z_ob, ↓z_gI, ↓z_pI, ↓z_pZ, ↓z_pR, ↓z_aI, ↓z_aJ, ↓z_sI, ↓z_sB, ↓z_sZ, ↓z_sJ, ↓z_sR, ↓z_al, ↓z_ck, ↓z_zz, ↓z_dv, ↓z_rm, ↓z_nn0, ↓z_nnS, ↓z_if1, ↓z_if0, z_ob, z_gI, z_pI, z_pZ, z_pR, z_aI, z_aJ, z_sI, z_sB, z_sZ, z_sJ, z_sR, z_al, z_ck, z_zz, z_dv, z_rm, z_nn0, z_nnS, z_if1, z_if0]
        exact hb' I (h1 hk0) z_fr0
end Lays
