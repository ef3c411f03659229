/-! Sizes.lays, whole -/
section Lays
variable {c : z_C} {T : z_Ty} {J : z_Js} {R : z_Rs} {b s z n q : Nat} {f : Nat → Int} {P Q : Nat → Nat} {st : Int}
theorem z_Sz_upd_id {I : z_Is} {ch : Nat → Nat} {e : Nat → Int} {v : Nat} (V : z_Sz I z ch e) (h0 : ch v = 0) (h1 : e v = -1) : z_Sz I z (z_upd ch v 0) (z_upd e v (-1)) := by
  intro w hw
  obtain ⟨g1, g2⟩ := V w hw
  unfold z_upd
  by_cases h : w = v
  · subst h; rw [if_pos rfl, if_pos rfl, g1, g2, h0, h1]; exact ⟨rfl, rfl⟩
  · rw [if_neg h, if_neg h]; exact ⟨g1, g2⟩
theorem z_Sh_fr {I I' : z_Is} {lo hi : Nat} (V : z_Sh I s P q) (h : z_fr lo hi I I') (h1 : s + 4 ≤ lo ∨ hi ≤ s) : z_Sh I' s P q := by
  obtain ⟨v1, v2, v3⟩ := V
  refine ⟨?_, v2, fun k hk => ⟨(v3 k hk).1, ?_⟩⟩
  · rw [h s (by omega)]; exact v1
  · rw [h (s + 3) (by omega)]; exact (v3 k hk).2
theorem z_lays (S : z_ShL T R s) (Z : z_SzL T R z) (L : z_LnL T R b) (hst : st = 1 ∨ st = -1) (hQ : ∀ k, k < q → Q k = if st = 1 then P k else P (q - 1 - k)) (hb : b + 68 ≤ z + 1 ∨ z + 3 ≤ b) (hs : s + 4 ≤ z + 1 ∨ z + 3 ≤ s) :
    ∀ (r d k : Nat) (y : Int) (ch : Nat → Nat) (e : Nat → Int) (I : z_Is), k + r = q → r < d → z_Ln I b f n → z_Sh I s P q → (k = 0 → ch = (fun _ => 0) ∧ e = (fun _ => -1)) → (k ≠ 0 → z_Sz I z ch e) →
      0 ≤ z_rom st n y → z_rom st n y ≤ (n : Int) → (k ≠ 0 → (z_need Q ch r k : Int) ≤ z_rom st n y) → (∀ v, ch v ≤ 64) → (∀ v, v < 3 → (ch v = 0 → e v = -1) ∧ (0 < ch v → (st = 1 → 0 ≤ e v ∧ e v + (ch v : Int) ≤ y) ∧ (st = -1 → e v < (n : Int) ∧ y + (ch v : Int) ≤ e v))) →
      z_W c T J R (k_Sizes_lays d b s z (k : Int) y st (c, T, I, J, R)) (z_LP f n st Q z r k y ch e I) := by
  obtain ⟨s1, -⟩ := id S
  obtain ⟨z1, -⟩ := id Z
  obtain ⟨⟨l1, -⟩, -⟩ := id L
  intro r
  induction r with
  | zero =>
    intro d k y ch e I hk hd V VS h0 h1 y0 y1 hn hch hkn
    obtain ⟨d, rfl⟩ : ∃ k, d = k + 1 := ⟨d - 1, by omega⟩
    obtain ⟨w1, w2, w3⟩ := id VS
    rw [k_Sizes_lays]
    simp (disch := omega) only [↓z_jn, ↓z_lt, ↓z_cl, ↓z_cxl, ↓z_cxr, ↓z_ob, ↓z_gI, ↓z_pI, ↓z_pZ, ↓z_pR, ↓z_aI, ↓z_aJ, ↓z_sI, ↓z_sB, ↓z_sZ, ↓z_sJ, ↓z_sR, ↓z_al, ↓z_ck, ↓z_zz, ↓z_dv, ↓z_rm, ↓z_nn0, ↓z_nnS, ↓z_if1, ↓z_if0, z_ob, z_gI, z_pI, z_pZ, z_pR, z_aI, z_aJ, z_sI, z_sB, z_sZ, z_sJ, z_sR, z_al, z_ck, z_zz, z_dv, z_rm, z_nn0, z_nnS, z_if1, z_if0, w1]
    exact z_Wr ⟨Or.inr rfl, ⟨fun _ => by unfold z_lay; trivial, fun _ => rfl⟩, z_fr0, fun h => absurd h (by decide)⟩
  | succ r ih =>
    intro d k y ch e I hk hd V VS h0 h1 y0 y1 hn hch hkn
    obtain ⟨d, rfl⟩ : ∃ k, d = k + 1 := ⟨d - 1, by omega⟩
    obtain ⟨w1, w2, w3⟩ := id VS
    have n64 : n ≤ 64 := V.2.1
    rw [k_Sizes_lays, z_gI (by omega), w1, z_if0 (by omega), z_if1 (by omega)]
    refine z_Wj (fun b' => ∀ I1, z_Sz I1 z ch e → z_fr (z + 1) (z + 3) I I1 → z_W c T J R (b' (c, T, I1, J, R)) (z_LP f n st Q z (r + 1) k y ch e I)) ?_ ?_
    · intro I1 V1 fr1
      have V' := z_Ln_fr V fr1 (by omega)
      have VS' := z_Sh_fr VS fr1 (by omega)
      obtain ⟨u1, -⟩ := id VS'
      have yb : -1 ≤ y ∧ y ≤ 64 := by
        unfold z_rom at y0 y1
        rcases hst with rfl | rfl
        · rw [if_pos rfl] at y0 y1; omega
        · rw [if_neg (by decide)] at y0 y1; omega
      have hq3 : Q k < 3 := by
        rw [hQ k (by omega)]
        split
        · exact (w3 _ (by omega)).1
        · exact (w3 _ (by omega)).1
      have A : ∀ w : Int, w = (if st = 1 then (k : Int) else (q : Int) - 1 - (k : Int)) → k_Shape_at s w (c, T, I1, J, R) = some ((Q k : Int), (c, T, I1, J, R)) := by
        intro w hw
        have hQk := hQ k (by omega)
        rcases hst with rfl | rfl
        · rw [if_pos rfl] at hw hQk
          rw [z_Shape_at S VS', hQk, hw, if_pos (by omega)]
          rfl
        · rw [if_neg (by decide)] at hw hQk
          rw [z_Shape_at S VS', hQk, hw, if_pos (by omega), show ((q : Int) - 1 - (k : Int)).toNat = q - 1 - k from by omega]
      have B : k_Sizes_of z (Q k : Int) (c, T, I1, J, R) = some ((ch (Q k) : Int), (c, T, I1, J, R)) := by
        rw [z_Sizes_of Z V1 (by omega) (by omega)]
        rfl
      have hc64 := hch (Q k)
      refine z_Wj (fun b' => ∀ w : Int, w = (if st = 1 then (k : Int) else (q : Int) - 1 - (k : Int)) → z_W c T J R (b' s w (c, T, I1, J, R)) (z_LP f n st Q z (r + 1) k y ch e I)) ?_ ?_
      · intro w hw
        rw [z_ob (by omega), A w hw, z_cl, z_lt, z_ob (by omega), B, z_cl, z_lt]
        by_cases hc : ch (Q k) = 0
        · sorry
        · have hk0 : k ≠ 0 := fun h => hc (by rw [(h0 h).1])
          have hn' := hn hk0
          simp only [z_need] at hn'
          have hkn' := (hkn (Q k) hq3).2 (by omega)
          have hrom : (ch (Q k) : Int) ≤ z_rom st n y := by omega
          obtain ⟨r0, e0, e1, e2⟩ := z_Sizes_isAgainAt (c := c) (J := J) (v := (Q k : Int)) (y := y) (st := st) Z V1 L V' (by omega) (by omega) hst (by simpa only [Int.toNat_natCast] using hc64)
            (by simp only [Int.toNat_natCast]; rcases hst with h | h; · have := hkn'.1 h; omega
                · have := hkn'.2 h; omega)
            (by simp only [Int.toNat_natCast]; rcases hst with h | h; · have := hkn'.1 h; omega
                · have := hkn'.2 h; omega) (by omega) (by omega)
          simp only [Int.toNat_natCast] at e2
          have e3 : r0 = 1 ↔ ∀ t : Nat, t < ch (Q k) → f (e (Q k) + st * t).toNat = f (y + st * t).toNat := by
            rw [e2]
            rcases hst with rfl | rfl
            · have k1 := hkn'.1 rfl
              unfold z_rom at hrom
              rw [if_pos rfl] at hrom ⊢
              rw [z_lk_iff (by omega) (by omega) (by omega) (by omega) (by omega)]
              refine ⟨fun h t ht => ?_, fun h => ⟨by omega, by omega, fun t ht => ?_⟩⟩
              · have := h.2.2 (ch (Q k) - 1 - t) (by omega)
                rw [show e (Q k) + ((ch (Q k) : Int) - 1) - ((ch (Q k) - 1 - t : Nat) : Int) = e (Q k) + 1 * (t : Int) from by omega, show y + ((ch (Q k) : Int) - 1) - ((ch (Q k) - 1 - t : Nat) : Int) = y + 1 * (t : Int) from by omega] at this
                exact this
              · have := h (ch (Q k) - 1 - t) (by omega)
                rw [show e (Q k) + ((ch (Q k) : Int) - 1) - (t : Int) = e (Q k) + 1 * ((ch (Q k) - 1 - t : Nat) : Int) from by omega, show y + ((ch (Q k) : Int) - 1) - (t : Int) = y + 1 * ((ch (Q k) - 1 - t : Nat) : Int) from by omega]
                exact this
            · have k1 := hkn'.2 rfl
              unfold z_rom at hrom
              rw [if_neg (by decide)] at hrom ⊢
              rw [z_lk_iff (by omega) (by omega) (by omega) (by omega) (by omega)]
              refine ⟨fun h t ht => ?_, fun h => ⟨by omega, by omega, fun t ht => ?_⟩⟩
              · have := h.2.2 t ht
                rw [show e (Q k) + 0 - (t : Int) = e (Q k) + -1 * (t : Int) from by omega, show y + 0 - (t : Int) = y + -1 * (t : Int) from by omega] at this
                exact this
              · have := h t ht
                rw [show e (Q k) + 0 - (t : Int) = e (Q k) + -1 * (t : Int) from by omega, show y + 0 - (t : Int) = y + -1 * (t : Int) from by omega]
                exact this
          have lay1 : z_lay f n st Q (r + 1) k y ch e ↔ r0 = 1 ∧ z_lay f n st Q r (k + 1) (y + st * (ch (Q k) : Int)) ch e := by
            constructor
            · intro h
              unfold z_lay at h
              obtain ⟨h1, h2, h3⟩ := h.2 (Nat.pos_of_ne_zero hc)
              exact ⟨e3.mpr h2, h3⟩
            · intro h
              unfold z_lay
              exact ⟨fun h' => absurd h' hc, fun _ => ⟨hrom, e3.mp h.1, h.2⟩⟩
          have ih' := ih d (k + 1) (y + st * (ch (Q k) : Int)) ch e I1 (by omega) (by omega) V' VS' (fun h => absurd h (by omega)) (fun _ => V1)
            (by rw [z_rom_add hst]; omega) (by rw [z_rom_add hst]; omega) (fun _ => by rw [z_rom_add hst]; omega) hch
            (fun v hv => ⟨(hkn v hv).1, fun hp => ⟨fun h => by have := ((hkn v hv).2 hp).1 h; rw [h]; omega, fun h => by have := ((hkn v hv).2 hp).2 h; rw [h]; omega⟩⟩)
          rw [show ((k + 1 : Nat) : Int) = (k : Int) + 1 from by omega] at ih'
          have q2 : -66 ≤ st * (ch (Q k) : Int) ∧ st * (ch (Q k) : Int) ≤ 66 := by rcases hst with h | h <;> rw [h] <;> omega
          rw [z_if0 (by omega), z_ob (by omega), e0, z_cl]
          by_cases hr : r0 = 0
          · simp (disch := omega) only [↓z_jn, ↓z_lt, ↓z_cl, ↓z_cxl, ↓z_cxr, ↓z_ob, ↓z_gI, ↓z_pI, ↓z_pZ, ↓z_pR, ↓z_aI, ↓z_aJ, ↓z_sI, ↓z_sB, ↓z_sZ, ↓z_sJ, ↓z_sR, ↓z_al, ↓z_ck, ↓z_zz, ↓z_dv, ↓z_rm, ↓z_nn0, ↓z_nnS, ↓z_if1, ↓z_if0, z_ob, z_gI, z_pI, z_pZ, z_pR, z_aI, z_aJ, z_sI, z_sB, z_sZ, z_sJ, z_sR, z_al, z_ck, z_zz, z_dv, z_rm, z_nn0, z_nnS, z_if1, z_if0, ]
            exact z_Wr ⟨Or.inl rfl, ⟨fun h => absurd h (by decide), fun h => by have := (lay1.mp h).1; omega⟩, fr1, fun _ => V1⟩
          · simp (disch := omega) only [↓z_jn, ↓z_lt, ↓z_cl, ↓z_cxl, ↓z_cxr, ↓z_ob, ↓z_gI, ↓z_pI, ↓z_pZ, ↓z_pR, ↓z_aI, ↓z_aJ, ↓z_sI, ↓z_sB, ↓z_sZ, ↓z_sJ, ↓z_sR, ↓z_al, ↓z_ck, ↓z_zz, ↓z_dv, ↓z_rm, ↓z_nn0, ↓z_nnS, ↓z_if1, ↓z_if0, z_ob, z_gI, z_pI, z_pZ, z_pR, z_aI, z_aJ, z_sI, z_sB, z_sZ, z_sJ, z_sR, z_al, z_ck, z_zz, z_dv, z_rm, z_nn0, z_nnS, z_if1, z_if0, ]
            refine z_Wc ih' (fun x I2 hx => ?_)
            obtain ⟨x1, x2, x3, x4⟩ := hx
            by_cases hx0 : x = 0
            · subst hx0
              simp (disch := omega) only [↓z_jn, ↓z_lt, ↓z_cl, ↓z_cxl, ↓z_cxr, ↓z_ob, ↓z_gI, ↓z_pI, ↓z_pZ, ↓z_pR, ↓z_aI, ↓z_aJ, ↓z_sI, ↓z_sB, ↓z_sZ, ↓z_sJ, ↓z_sR, ↓z_al, ↓z_ck, ↓z_zz, ↓z_dv, ↓z_rm, ↓z_nn0, ↓z_nnS, ↓z_if1, ↓z_if0, z_ob, z_gI, z_pI, z_pZ, z_pR, z_aI, z_aJ, z_sI, z_sB, z_sZ, z_sJ, z_sR, z_al, z_ck, z_zz, z_dv, z_rm, z_nn0, z_nnS, z_if1, z_if0, ]
              exact z_Wr ⟨Or.inl rfl, ⟨fun h => absurd h (by decide), fun h => absurd (x2.mpr (lay1.mp h).2) (by decide)⟩, z_frT fr1 x3, fun _ => x4 rfl⟩
            · simp (disch := omega) only [↓z_jn, ↓z_lt, ↓z_cl, ↓z_cxl, ↓z_cxr, ↓z_ob, ↓z_gI, ↓z_pI, ↓z_pZ, ↓z_pR, ↓z_aI, ↓z_aJ, ↓z_sI, ↓z_sB, ↓z_sZ, ↓z_sJ, ↓z_sR, ↓z_al, ↓z_ck, ↓z_zz, ↓z_dv, ↓z_rm, ↓z_nn0, ↓z_nnS, ↓z_if1, ↓z_if0, z_ob, z_gI, z_pI, z_pZ, z_pR, z_aI, z_aJ, z_sI, z_sB, z_sZ, z_sJ, z_sR, z_al, z_ck, z_zz, z_dv, z_rm, z_nn0, z_nnS, z_if1, z_if0, ]
              exact z_Wr ⟨Or.inr rfl, ⟨fun _ => lay1.mpr ⟨by omega, x2.mp (by omega)⟩, fun _ => rfl⟩, z_frT fr1 x3, fun h => absurd h (by decide)⟩
      · intro b' hb'
        rcases hst with rfl | rfl
        · simp (disch := omega) only [↓z_jn, ↓z_lt, ↓z_cl, ↓z_cxl, ↓z_cxr, ↓z_ob, ↓z_gI, ↓z_pI, ↓z_pZ, ↓z_pR, ↓z_aI, ↓z_aJ, ↓z_sI, ↓z_sB, ↓z_sZ, ↓z_sJ, ↓z_sR, ↓z_al, ↓z_ck, ↓z_zz, ↓z_dv, ↓z_rm, ↓z_nn0, ↓z_nnS, ↓z_if1, ↓z_if0, z_ob, z_gI, z_pI, z_pZ, z_pR, z_aI, z_aJ, z_sI, z_sB, z_sZ, z_sJ, z_sR, z_al, z_ck, z_zz, z_dv, z_rm, z_nn0, z_nnS, z_if1, z_if0, ]
          exact hb' _ (by rw [if_pos rfl])
        · simp (disch := omega) only [↓z_jn, ↓z_lt, ↓z_cl, ↓z_cxl, ↓z_cxr, ↓z_ob, ↓z_gI, ↓z_pI, ↓z_pZ, ↓z_pR, ↓z_aI, ↓z_aJ, ↓z_sI, ↓z_sB, ↓z_sZ, ↓z_sJ, ↓z_sR, ↓z_al, ↓z_ck, ↓z_zz, ↓z_dv, ↓z_rm, ↓z_nn0, ↓z_nnS, ↓z_if1, ↓z_if0, z_ob, z_gI, z_pI, z_pZ, z_pR, z_aI, z_aJ, z_sI, z_sB, z_sZ, z_sJ, z_sR, z_al, z_ck, z_zz, z_dv, z_rm, z_nn0, z_nnS, z_if1, z_if0, u1]
          exact hb' _ (by rw [if_neg (by decide)])
    · intro b' hb'
      by_cases hk0 : k = 0
      · obtain ⟨rfl, rfl⟩ := h0 hk0
        simp (disch := omega) only [↓z_jn, ↓z_lt, ↓z_cl, ↓z_cxl, ↓z_cxr, ↓z_ob, ↓z_gI, ↓z_pI, ↓z_pZ, ↓z_pR, ↓z_aI, ↓z_aJ, ↓z_sI, ↓z_sB, ↓z_sZ, ↓z_sJ, ↓z_sR, ↓z_al, ↓z_ck, ↓z_zz, ↓z_dv, ↓z_rm, ↓z_nn0, ↓z_nnS, ↓z_if1, ↓z_if0, z_ob, z_gI, z_pI, z_pZ, z_pR, z_aI, z_aJ, z_sI, z_sB, z_sZ, z_sJ, z_sR, z_al, z_ck, z_zz, z_dv, z_rm, z_nn0, z_nnS, z_if1, z_if0, ]
        exact z_Wc (z_Sizes_clear Z) (fun _ I1 h => hb' I1 h.1 h.2)
      · simp (disch := omega) only [↓z_jn, ↓z_lt, ↓z_cl, ↓z_cxl, ↓z_cxr, ↓z_ob, ↓z_gI, ↓z_pI, ↓z_pZ, ↓z_pR, ↓z_aI, ↓z_aJ, ↓z_sI, ↓z_sB, ↓z_sZ, ↓z_sJ, ↓z_sR, ↓z_al, ↓z_ck, ↓z_zz, ↓z_dv, ↓z_rm, ↓z_nn0, ↓z_nnS, ↓z_if1, ↓z_if0, z_ob, z_gI, z_pI, z_pZ, z_pR, z_aI, z_aJ, z_sI, z_sB, z_sZ, z_sJ, z_sR, z_al, z_ck, z_zz, z_dv, z_rm, z_nn0, z_nnS, z_if1, z_if0, ]
        exact hb' I (h1 hk0) z_fr0
end Lays
