/-! PATTERNS: a word for each letter (its size s, its letters W), laid one behind another. -/
def z_lng (P : Nat → Nat) (s : Nat → Nat) : Nat → Nat
  | 0 => 0
  | q + 1 => z_lng P s q + s (P q)
def z_mt (g : Nat → Int) (s : Nat → Nat) (W : Nat → Nat → Int) (P : Nat → Nat) (q at_ : Nat) : Prop := ∀ k, k < q → ∀ t, t < s (P k) → g (at_ + z_lng P s k + t) = W (P k) t
def z_spr (f : Nat → Int) (n : Nat) (st : Int) (Q : Nat → Nat) (s : Nat → Nat) (W : Nat → Nat → Int) : Nat → Nat → Int → Prop
  | 0, _, _ => True
  | r + 1, k, y => 1 ≤ s (Q k) ∧ (s (Q k) : Int) ≤ z_rom st n y ∧ (∀ t : Nat, t < s (Q k) → f (y + st * t).toNat = W (Q k) t) ∧ z_spr f n st Q s W r (k + 1) (y + st * (s (Q k) : Int))
theorem z_lay_spr {f : Nat → Int} {n : Nat} {st : Int} {Q : Nat → Nat} : ∀ {r k : Nat} {y : Int} {ch : Nat → Nat} {e : Nat → Int},
    z_lay f n st Q r k y ch e ↔ ∃ (s : Nat → Nat) (W : Nat → Nat → Int), (∀ v, 0 < ch v → s v = ch v ∧ ∀ t : Nat, t < ch v → W v t = f (e v + st * t).toNat) ∧ z_spr f n st Q s W r k y
  | 0, k, y, ch, e => ⟨fun _ => ⟨ch, fun v t => f (e v + st * t).toNat, fun v _ => ⟨rfl, fun t _ => rfl⟩, trivial⟩, fun _ => trivial⟩
  | r + 1, k, y, ch, e => by
    constructor
    · intro h
      unfold z_lay at h
      by_cases hc : ch (Q k) = 0
      · obtain ⟨s0, h1, h2, h3⟩ := h.1 hc
        obtain ⟨s, W, c1, c2⟩ := z_lay_spr.mp h3
        have k1 := c1 (Q k)
        unfold z_upd at k1
        rw [if_pos rfl, if_pos rfl] at k1
        obtain ⟨k2, k3⟩ := k1 (by omega)
        refine ⟨s, W, fun v hv => ?_, ?_⟩
        · have hvq : v ≠ Q k := fun h => by rw [h] at hv; omega
          have := c1 v
          unfold z_upd at this
          rw [if_neg hvq, if_neg hvq] at this
          exact this hv
        · unfold z_spr
          rw [k2]
          exact ⟨h1, h2, fun t ht => (k3 t ht).symm, c2⟩
      · obtain ⟨h1, h2, h3⟩ := h.2 (by omega)
        obtain ⟨s, W, c1, c2⟩ := z_lay_spr.mp h3
        obtain ⟨k2, k3⟩ := c1 (Q k) (by omega)
        refine ⟨s, W, c1, ?_⟩
        unfold z_spr
        rw [k2]
        exact ⟨by omega, h1, fun t ht => by rw [k3 t ht, h2 t ht], c2⟩
    · rintro ⟨s, W, c1, c2⟩
      unfold z_spr at c2
      obtain ⟨d1, d2, d3, d4⟩ := c2
      unfold z_lay
      refine ⟨fun hc => ⟨s (Q k), d1, d2, z_lay_spr.mpr ⟨s, W, fun v hv => ?_, d4⟩⟩, fun hc => ?_⟩
      · unfold z_upd at hv ⊢
        by_cases hvq : v = Q k
        · rw [if_pos hvq, if_pos hvq, hvq]
          exact ⟨rfl, fun t ht => (d3 t ht).symm⟩
        · rw [if_neg hvq] at hv
          rw [if_neg hvq, if_neg hvq]
          exact c1 v hv
      · obtain ⟨k2, k3⟩ := c1 (Q k) hc
        rw [k2] at d2 d3 d4
        exact ⟨d2, fun t ht => by rw [← k3 t ht, d3 t ht], z_lay_spr.mpr ⟨s, W, c1, d4⟩⟩
theorem z_spr_iff {f : Nat → Int} {n : Nat} {st : Int} {Q : Nat → Nat} {s : Nat → Nat} {W : Nat → Nat → Int} (hst : st = 1 ∨ st = -1) : ∀ {r k : Nat} {y : Int}, 0 ≤ z_rom st n y →
    (z_spr f n st Q s W r k y ↔ (∀ j, j < r → 1 ≤ s (Q (k + j))) ∧ (z_lng (fun j => Q (k + j)) s r : Int) ≤ z_rom st n y ∧ ∀ j, j < r → ∀ t : Nat, t < s (Q (k + j)) → f (y + st * ((z_lng (fun j => Q (k + j)) s j : Int) + t)).toNat = W (Q (k + j)) t)
  | 0, k, y, h0 => ⟨fun _ => ⟨fun j h => absurd h (by omega), by simp only [z_lng]; omega, fun j h => absurd h (by omega)⟩, fun _ => trivial⟩
  | r + 1, k, y, h0 => by
    have sh : ∀ j, z_lng (fun j => Q (k + j)) s (j + 1) = s (Q k) + z_lng (fun j => Q (k + 1 + j)) s j := by
      intro j
      induction j with
      | zero => simp only [z_lng, Nat.add_zero, Nat.zero_add]
      | succ j ih =>
        rw [z_lng, ih]
        simp only [z_lng]
        rw [show k + (j + 1) = k + 1 + j from by omega]
        omega
    constructor
    · intro h
      unfold z_spr at h
      obtain ⟨d1, d2, d3, d4⟩ := h
      have q := (z_spr_iff hst (by rw [z_rom_add hst]; omega)).mp d4
      obtain ⟨q1, q2, q3⟩ := q
      rw [z_rom_add hst] at q2
      refine ⟨fun j hj => ?_, ?_, fun j hj t ht => ?_⟩
      · cases j with
        | zero => exact d1
        | succ j => rw [show k + (j + 1) = k + 1 + j from by omega]; exact q1 j (by omega)
      · rw [sh]; omega
      · cases j with
        | zero =>
          have := d3 t ht
          simp only [z_lng]
          rw [show ((0 : Nat) : Int) + (t : Int) = (t : Int) from by omega]
          exact this
        | succ j =>
          rw [show k + (j + 1) = k + 1 + j from by omega] at ht ⊢
          have := q3 j (by omega) t ht
          rw [sh]
          rw [show y + st * (s (Q k) : Int) + st * ((z_lng (fun j => Q (k + 1 + j)) s j : Int) + (t : Int)) = y + st * (((s (Q k) + z_lng (fun j => Q (k + 1 + j)) s j : Nat) : Int) + (t : Int)) from by rw [Int.natCast_add, Int.add_assoc y, ← Int.mul_add]; congr 2; omega] at this
          exact this
    · rintro ⟨q1, q2, q3⟩
      rw [sh] at q2
      have d1 := q1 0 (by omega)
      unfold z_spr
      refine ⟨d1, by omega, fun t ht => ?_, (z_spr_iff hst (by rw [z_rom_add hst]; omega)).mpr ⟨fun j hj => ?_, ?_, fun j hj t ht => ?_⟩⟩
      · have := q3 0 (by omega) t ht
        simp only [z_lng] at this
        rw [show ((0 : Nat) : Int) + (t : Int) = (t : Int) from by omega] at this
        exact this
      · have := q1 (j + 1) (by omega)
        rw [show k + (j + 1) = k + 1 + j from by omega] at this
        exact this
      · rw [z_rom_add hst]; omega
      · have := q3 (j + 1) (by omega) t (by rw [show k + (j + 1) = k + 1 + j from by omega]; exact ht)
        rw [sh, show k + (j + 1) = k + 1 + j from by omega] at this
        rw [show y + st * (s (Q k) : Int) + st * ((z_lng (fun j => Q (k + 1 + j)) s j : Int) + (t : Int)) = y + st * (((s (Q k) + z_lng (fun j => Q (k + 1 + j)) s j : Nat) : Int) + (t : Int)) from by rw [Int.natCast_add, Int.add_assoc y, ← Int.mul_add]; congr 2; omega]
        exact this
theorem z_lng_mono {P s s' : Nat → Nat} : ∀ {q : Nat}, (∀ k, k < q → s (P k) ≤ s' (P k)) → z_lng P s q ≤ z_lng P s' q
  | 0, _ => Nat.le_refl _
  | q + 1, h => by
    have := z_lng_mono (P := P) (s := s) (s' := s') (q := q) (fun k hk => h k (by omega))
    have := h q (by omega)
    simp only [z_lng]
    omega
theorem z_lng_congr {P s s' : Nat → Nat} {q : Nat} (h : ∀ k, k < q → s (P k) = s' (P k)) : z_lng P s q = z_lng P s' q := by
  have h1 := z_lng_mono (P := P) (s := s) (s' := s') (q := q) (fun k hk => by rw [h k hk]; exact Nat.le_refl _)
  have h2 := z_lng_mono (P := P) (s := s') (s' := s) (q := q) (fun k hk => by rw [h k hk]; exact Nat.le_refl _)
  omega
theorem z_lng_le {P s : Nat → Nat} : ∀ {q k : Nat}, k < q → z_lng P s k + s (P k) ≤ z_lng P s q
  | 0, k, h => absurd h (by omega)
  | q + 1, k, h => by
    simp only [z_lng]
    by_cases hk : k = q
    · subst hk; exact Nat.le_refl _
    · have := z_lng_le (P := P) (s := s) (q := q) (k := k) (by omega)
      omega
theorem z_lng_one {P s : Nat → Nat} : ∀ {q : Nat}, (∀ k, k < q → 1 ≤ s (P k)) → q ≤ z_lng P s q
  | 0, _ => Nat.le_refl _
  | q + 1, h => by
    have := z_lng_one (P := P) (s := s) (q := q) (fun k hk => h k (by omega))
    have := h q (by omega)
    simp only [z_lng]
    omega
/-! from the end: the letters' places -/
theorem z_lng_rev {P s : Nat → Nat} {q : Nat} : ∀ {j : Nat}, j ≤ q → z_lng (fun j => P (q - 1 - j)) s j + z_lng P s (q - j) = z_lng P s q
  | 0, _ => by simp only [z_lng, Nat.sub_zero, Nat.zero_add]
  | j + 1, h => by
    have := z_lng_rev (P := P) (s := s) (q := q) (j := j) (by omega)
    obtain ⟨m, hm⟩ : ∃ m, q - j = m + 1 := ⟨q - j - 1, by omega⟩
    rw [hm] at this
    rw [show q - (j + 1) = m from by omega]
    simp only [z_lng] at this ⊢
    rw [show q - 1 - j = m from by omega]
    omega
/-! a pattern's words end at the place i -/
theorem z_lay_end {f : Nat → Int} {P : Nat → Nat} {q i : Nat} :
    z_lay f (i + 1) (-1) (fun j => P (q - 1 - j)) q 0 (i : Int) (fun _ => 0) (fun _ => -1) ↔
      ∃ (s : Nat → Nat) (W : Nat → Nat → Int), (∀ k, k < q → 1 ≤ s (P k)) ∧ z_lng P s q ≤ i + 1 ∧ z_mt f s W P q (i + 1 - z_lng P s q) := by
  rw [z_lay_spr]
  have ro : z_rom (-1) (i + 1) (i : Int) = (i : Int) + 1 := by unfold z_rom; rw [if_neg (by decide)]
  have lr := fun s => z_lng_rev (P := P) (s := s) (q := q) (j := q) (Nat.le_refl _)
  constructor
  · rintro ⟨s, W, -, h⟩
    obtain ⟨h1, h2, h3⟩ := (z_spr_iff (Or.inr rfl) (by rw [ro]; omega)).mp h
    simp only [Nat.zero_add] at h1 h2 h3
    rw [ro] at h2
    have lq := lr s
    rw [show q - q = 0 from by omega] at lq
    simp only [z_lng] at lq
    refine ⟨s, fun v t => W v (s v - 1 - t), fun k hk => ?_, by omega, fun k hk t ht => ?_⟩
    · have := h1 (q - 1 - k) (by omega)
      rw [show q - 1 - (q - 1 - k) = k from by omega] at this
      exact this
    · have e1 := z_lng_rev (P := P) (s := s) (q := q) (j := q - 1 - k) (by omega)
      rw [show q - (q - 1 - k) = k + 1 from by omega] at e1
      simp only [z_lng] at e1
      have e2 := z_lng_le (P := P) (s := s) hk
      have := h3 (q - 1 - k) (by omega) (s (P k) - 1 - t) (by rw [show q - 1 - (q - 1 - k) = k from by omega]; omega)
      rw [show q - 1 - (q - 1 - k) = k from by omega] at this
      refine Eq.trans ?_ this
      congr 1
      omega
  · rintro ⟨s, W, h1, h2, h3⟩
    have lq := lr s
    rw [show q - q = 0 from by omega] at lq
    simp only [z_lng] at lq
    refine ⟨s, fun v t => W v (s v - 1 - t), fun v hv => absurd hv (by omega), (z_spr_iff (Or.inr rfl) (by rw [ro]; omega)).mpr ⟨fun j hj => ?_, ?_, fun j hj t ht => ?_⟩⟩
    · simp only [Nat.zero_add]
      exact h1 _ (by omega)
    · simp only [Nat.zero_add]
      rw [ro]
      omega
    · simp only [Nat.zero_add] at ht ⊢
      have e1 := z_lng_rev (P := P) (s := s) (q := q) (j := j) (by omega)
      have e2 := z_lng_le (P := P) (s := s) (q := q) (k := q - 1 - j) (by omega)
      rw [show q - j = (q - 1 - j) + 1 from by omega] at e1
      simp only [z_lng] at e1
      have := h3 (q - 1 - j) (by omega) (s (P (q - 1 - j)) - 1 - t) (by omega)
      refine Eq.trans ?_ this
      congr 1
      omega
/-! a pattern's words begin at a place -/
theorem z_lay_beg {f : Nat → Int} {P : Nat → Nat} {q n i : Nat} (hi : i ≤ n) :
    z_lay f n 1 P q 0 (i : Int) (fun _ => 0) (fun _ => -1) ↔
      ∃ (s : Nat → Nat) (W : Nat → Nat → Int), (∀ k, k < q → 1 ≤ s (P k)) ∧ i + z_lng P s q ≤ n ∧ z_mt f s W P q i := by
  rw [z_lay_spr]
  have ro : z_rom 1 n (i : Int) = (n : Int) - i := by unfold z_rom; rw [if_pos rfl]
  have ee : ∀ s m, z_lng (fun j => P j) s m = z_lng P s m := fun _ _ => rfl
  constructor
  · rintro ⟨s, W, -, h⟩
    obtain ⟨h1, h2, h3⟩ := (z_spr_iff (Or.inl rfl) (by rw [ro]; omega)).mp h
    simp only [Nat.zero_add] at h1 h2 h3
    rw [ro, ee] at h2
    refine ⟨s, W, h1, by omega, fun k hk t ht => ?_⟩
    rw [← h3 k hk t ht, ee]
    congr 1
    omega
  · rintro ⟨s, W, h1, h2, h3⟩
    refine ⟨s, W, fun v hv => absurd hv (by omega), (z_spr_iff (Or.inl rfl) (by rw [ro]; omega)).mpr ⟨fun j hj => ?_, ?_, fun j hj t ht => ?_⟩⟩
    · simp only [Nat.zero_add]
      exact h1 _ (by omega)
    · simp only [Nat.zero_add]
      rw [ro, ee]
      omega
    · simp only [Nat.zero_add] at ht ⊢
      rw [← h3 j hj t ht, ee]
      congr 1
      omega
theorem z_spr_end1 {f : Nat → Int} {P s : Nat → Nat} {W : Nat → Nat → Int} {q i : Nat} (h : z_spr f (i + 1) (-1) (fun j => P (q - 1 - j)) s W q 0 (i : Int)) :
    (∀ k, k < q → 1 ≤ s (P k)) ∧ z_lng P s q ≤ i + 1 ∧ z_mt f s (fun v t => W v (s v - 1 - t)) P q (i + 1 - z_lng P s q) := by
  have ro : z_rom (-1) (i + 1) (i : Int) = (i : Int) + 1 := by unfold z_rom; rw [if_neg (by decide)]
  obtain ⟨h1, h2, h3⟩ := (z_spr_iff (Or.inr rfl) (by rw [ro]; omega)).mp h
  simp only [Nat.zero_add] at h1 h2 h3
  rw [ro] at h2
  have lq := z_lng_rev (P := P) (s := s) (q := q) (j := q) (Nat.le_refl _)
  rw [show q - q = 0 from by omega] at lq
  simp only [z_lng] at lq
  refine ⟨fun k hk => ?_, by omega, fun k hk t ht => ?_⟩
  · have := h1 (q - 1 - k) (by omega)
    rw [show q - 1 - (q - 1 - k) = k from by omega] at this
    exact this
  · have e1 := z_lng_rev (P := P) (s := s) (q := q) (j := q - 1 - k) (by omega)
    rw [show q - (q - 1 - k) = k + 1 from by omega] at e1
    simp only [z_lng] at e1
    have e2 := z_lng_le (P := P) (s := s) hk
    have := h3 (q - 1 - k) (by omega) (s (P k) - 1 - t) (by rw [show q - 1 - (q - 1 - k) = k from by omega]; omega)
    rw [show q - 1 - (q - 1 - k) = k from by omega] at this
    refine Eq.trans ?_ this
    congr 1
    omega
theorem z_spr_end2 {f : Nat → Int} {P s : Nat → Nat} {W : Nat → Nat → Int} {q i : Nat} (h1 : ∀ k, k < q → 1 ≤ s (P k)) (h2 : z_lng P s q ≤ i + 1) (h3 : z_mt f s W P q (i + 1 - z_lng P s q)) :
    z_spr f (i + 1) (-1) (fun j => P (q - 1 - j)) s (fun v t => W v (s v - 1 - t)) q 0 (i : Int) := by
  have ro : z_rom (-1) (i + 1) (i : Int) = (i : Int) + 1 := by unfold z_rom; rw [if_neg (by decide)]
  have lq := z_lng_rev (P := P) (s := s) (q := q) (j := q) (Nat.le_refl _)
  rw [show q - q = 0 from by omega] at lq
  simp only [z_lng] at lq
  refine (z_spr_iff (Or.inr rfl) (by rw [ro]; omega)).mpr ⟨fun j hj => ?_, ?_, fun j hj t ht => ?_⟩
  · simp only [Nat.zero_add]
    exact h1 _ (by omega)
  · simp only [Nat.zero_add]
    rw [ro]
    omega
  · simp only [Nat.zero_add] at ht ⊢
    have e1 := z_lng_rev (P := P) (s := s) (q := q) (j := j) (by omega)
    have e2 := z_lng_le (P := P) (s := s) (q := q) (k := q - 1 - j) (by omega)
    rw [show q - j = (q - 1 - j) + 1 from by omega] at e1
    simp only [z_lng] at e1
    have := h3 (q - 1 - j) (by omega) (s (P (q - 1 - j)) - 1 - t) (by omega)
    refine Eq.trans ?_ this
    congr 1
    omega
theorem z_lys_spr {f : Nat → Int} {n : Nat} {st : Int} {Q : Nat → Nat} {sh : Nat → Prop} : ∀ {r k : Nat} {y : Int} {ch : Nat → Nat} {e : Nat → Int}, (∀ j, k ≤ j → j < k + r → sh j → ch (Q j) = 0 ∧ ∀ j', k ≤ j' → j' < j → Q j' ≠ Q j) →
    (z_lys f n st Q sh r k y ch e ↔ ∃ (s : Nat → Nat) (W : Nat → Nat → Int), (∀ v, 0 < ch v → s v = ch v ∧ ∀ t : Nat, t < ch v → W v t = f (e v + st * t).toNat) ∧ z_spr f n st Q s W r k y ∧ ∀ j, k ≤ j → j < k + r → sh j → s (Q j) = 1)
  | 0, k, y, ch, e, _ => ⟨fun _ => ⟨ch, fun v t => f (e v + st * t).toNat, fun v _ => ⟨rfl, fun t _ => rfl⟩, trivial, fun j h1 h2 => absurd h2 (by omega)⟩, fun _ => trivial⟩
  | r + 1, k, y, ch, e, A => by
    constructor
    · intro h
      unfold z_lys at h
      by_cases hc : ch (Q k) = 0
      · obtain ⟨s0, h1, h2, h2s, h3⟩ := h.1 hc
        have A' : ∀ j, k + 1 ≤ j → j < k + 1 + r → sh j → z_upd ch (Q k) s0 (Q j) = 0 ∧ ∀ j', k + 1 ≤ j' → j' < j → Q j' ≠ Q j := fun j a b c => by
          obtain ⟨b1, b2⟩ := A j (by omega) (by omega) c
          refine ⟨?_, fun j' x y => b2 j' (by omega) y⟩
          unfold z_upd
          rw [if_neg (fun e => b2 k (Nat.le_refl _) (by omega) e.symm)]
          exact b1
        obtain ⟨s, W, c1, c2, c3⟩ := (z_lys_spr A').mp h3
        have k1 := c1 (Q k)
        unfold z_upd at k1
        rw [if_pos rfl, if_pos rfl] at k1
        obtain ⟨k2, k3⟩ := k1 (by omega)
        refine ⟨s, W, fun v hv => ?_, ?_, fun j a b c => ?_⟩
        · have hvq : v ≠ Q k := fun h => by rw [h] at hv; omega
          have := c1 v
          unfold z_upd at this
          rw [if_neg hvq, if_neg hvq] at this
          exact this hv
        · unfold z_spr
          rw [k2]
          exact ⟨h1, h2, fun t ht => (k3 t ht).symm, c2⟩
        · by_cases hj : j = k
          · rw [hj] at c ⊢
            rw [k2]
            exact h2s c
          · exact c3 j (by omega) (by omega) c
      · obtain ⟨h1, h2, h3⟩ := h.2 (by omega)
        obtain ⟨s, W, c1, c2, c3⟩ := (z_lys_spr (fun j a b c => ⟨(A j (by omega) (by omega) c).1, fun j' x y => (A j (by omega) (by omega) c).2 j' (by omega) y⟩)).mp h3
        obtain ⟨k2, k3⟩ := c1 (Q k) (by omega)
        refine ⟨s, W, c1, ?_, fun j a b c => ?_⟩
        · unfold z_spr
          rw [k2]
          exact ⟨by omega, h1, fun t ht => by rw [k3 t ht, h2 t ht], c2⟩
        · by_cases hj : j = k
          · rw [hj] at c
            exact absurd (A k (Nat.le_refl _) (by omega) c).1 hc
          · exact c3 j (by omega) (by omega) c
    · rintro ⟨s, W, c1, c2, c3⟩
      unfold z_spr at c2
      obtain ⟨d1, d2, d3, d4⟩ := c2
      unfold z_lys
      refine ⟨fun hc => ⟨s (Q k), d1, d2, fun hs => c3 k (Nat.le_refl _) (by omega) hs, (z_lys_spr (fun j a b c => ?_)).mpr ⟨s, W, fun v hv => ?_, d4, fun j a b c => c3 j (by omega) (by omega) c⟩⟩, fun hc => ?_⟩
      · obtain ⟨b1, b2⟩ := A j (by omega) (by omega) c
        refine ⟨?_, fun j' x y => b2 j' (by omega) y⟩
        unfold z_upd
        rw [if_neg (fun e => b2 k (Nat.le_refl _) (by omega) e.symm)]
        exact b1
      · unfold z_upd at hv ⊢
        by_cases hvq : v = Q k
        · rw [if_pos hvq, if_pos hvq, hvq]
          exact ⟨rfl, fun t ht => (d3 t ht).symm⟩
        · rw [if_neg hvq] at hv
          rw [if_neg hvq, if_neg hvq]
          exact c1 v hv
      · obtain ⟨k2, k3⟩ := c1 (Q k) hc
        rw [k2] at d2 d3 d4
        exact ⟨d2, fun t ht => by rw [← k3 t ht, d3 t ht], (z_lys_spr (fun j a b c => ⟨(A j (by omega) (by omega) c).1, fun j' x y => (A j (by omega) (by omega) c).2 j' (by omega) y⟩)).mpr ⟨s, W, c1, d4, fun j a b c => c3 j (by omega) (by omega) c⟩⟩
