/-! READ: what a line tells is well formed again. -/
theorem z_bd_in {α β : Type} {o : Nat ⊕ α} {k : α → Nat ⊕ β} {w : β} (h : z_bd o k = .inr w) : ∃ a, o = .inr a ∧ k a = .inr w := by
  cases o with
  | inl e => exact absurd (show (.inl e : Nat ⊕ β) = .inr w from h) (fun h => by cases h)
  | inr a => exact ⟨a, rfl, h⟩
theorem z_if_in {β : Type} {p : Prop} {x : Nat ⊕ β} {e : Nat} {w : β} (h : z_if p x (.inl e) = .inr w) : p ∧ x = .inr w := by
  by_cases hp : p
  · rw [z_ifT hp] at h; exact ⟨hp, h⟩
  · rw [z_ifF hp] at h; exact absurd h (fun h => by cases h)
section Inv
variable {ts i : Nat} {D b : Nat → Int}
theorem z_DI_0 {v : Int} (hv : 2 ≤ v ∧ v ≤ 4) : z_DI (z_set (fun _ => 0) 0 v) := by
  have f0 : ∀ y, y ≠ 0 → z_set (fun _ => (0 : Int)) 0 v y = 0 := fun y hy => z_setO hy
  have f00 : z_set (fun _ => (0 : Int)) 0 v 0 = v := z_set_eq
  refine ⟨⟨by rw [f00]; exact hv, by rw [f0 1 (by omega)]; omega, by rw [f0 2 (by omega)]; omega, by rw [f0 3 (by omega)]; omega, by rw [f0 4 (by omega)]; omega, by rw [f0 5 (by omega)]; omega, fun m l h1 => ?_, fun p h1 => ?_⟩, fun p h1 => ?_, fun p p' _ h1 => ?_, fun p _ _ => f0 _ (by omega)⟩
  · rw [f0 4 (by omega)] at h1; exact absurd h1 (by omega)
  · rw [f0 5 (by omega)] at h1; exact absurd h1 (by omega)
  · rw [f0 5 (by omega)] at h1; exact absurd h1 (by omega)
  · rw [f0 5 (by omega)] at h1; exact absurd h1 (by omega)
theorem z_pLi_ok {w : Nat × (Nat → Int)} (h : z_pLi b ts D i = .inr w) (DI : z_DI D) (hi : i ≤ ts) : z_DI w.2 ∧ i ≤ w.1 ∧ w.1 ≤ ts := by
  obtain ⟨s1, s2⟩ := z_sk_b (b := b) hi
  obtain ⟨w1, w2, w3⟩ := z_we_b (b := b) hi
  unfold z_pLi at h
  obtain ⟨-, h⟩ := z_if_in h
  obtain ⟨q1, hq1, h⟩ := z_bd_in h
  obtain ⟨j, hj, h⟩ := z_bd_in h
  obtain ⟨q2, hq2, h⟩ := z_bd_in h
  have hw := Sum.inr.inj h
  obtain ⟨n1, n2, n3, n4⟩ := z_pNu_in hq1 w2
  obtain ⟨k1, k2⟩ := z_pKw_in hj n4
  obtain ⟨m1, m2, m3, m4⟩ := z_pNu_in hq2 k2
  subst hw
  refine ⟨?_, by dsimp only; omega, m4⟩
  dsimp only
  have hk : z_if (z_isw b (z_sk b ts i) (z_we b ts i) 4) (1 : Int) 2 = 1 ∨ z_if (z_isw b (z_sk b ts i) (z_we b ts i) 4) (1 : Int) 2 = 2 := by
    by_cases hp : z_isw b (z_sk b ts i) (z_we b ts i) 4
    · exact Or.inl (z_ifT hp)
    · exact Or.inr (z_ifF hp)
  have f0 : ∀ y, y ≠ 1 → y ≠ 2 → y ≠ 3 → z_set (z_set (z_set D 1 (z_if (z_isw b (z_sk b ts i) (z_we b ts i) 4) 1 2)) 2 q1.2) 3 q2.2 y = D y := fun y y1 y2 y3 => by rw [z_setO y3, z_setO y2, z_setO y1]
  obtain ⟨⟨d1, d2, d3, d4, d5, d6, d7, d8⟩, e1, e2, e3⟩ := DI
  have g0 := f0 0 (by omega) (by omega) (by omega)
  have g4 := f0 4 (by omega) (by omega) (by omega)
  have g5 := f0 5 (by omega) (by omega) (by omega)
  refine ⟨⟨by rw [g0]; exact d1, ?_, ?_, ?_, by rw [g4]; exact d5, by rw [g5]; exact d6, fun m l => ?_, fun p => ?_⟩, fun p => ?_, fun p p' hp => ?_, fun p => ?_⟩
  · rw [z_setO (by omega), z_setO (by omega), z_set_eq]; omega
  · rw [z_setO (by omega), z_set_eq]; omega
  · rw [z_set_eq]; omega
  · rw [g4, g0, f0 (54 + 4 * m + l) (by omega) (by omega) (by omega)]
    intro a1 a2
    obtain ⟨y1, y2, y3⟩ := d7 m l a1 a2
    exact ⟨y1, y2, fun k hk => by rw [f0 _ (by omega) (by omega) (by omega)]; exact y3 k hk⟩
  · rw [g5, f0 (166 + p) (by omega) (by omega) (by omega), f0 (194 + p) (by omega) (by omega) (by omega)]
    intro a1
    obtain ⟨y1, y2, y3⟩ := d8 p a1
    exact ⟨y1, y2, fun k hk => by rw [f0 _ (by omega) (by omega) (by omega)]; exact y3 k hk⟩
  · rw [g5]
    intro a1
    obtain ⟨n, y1, y2, y3, y4, y5⟩ := e1 p a1
    exact ⟨n, y1, y2, fun x hx => by rw [f0 _ (by omega) (by omega) (by omega)]; exact y3 x hx, fun x h1 h2 => by rw [f0 _ (by omega) (by omega) (by omega)]; exact y4 x h1 h2, fun w h1 h2 h3 => y5 w h1 h2 ⟨h3.1, fun x hx => by have := h3.2 x hx; rw [f0 _ (by omega) (by omega) (by omega)] at this; exact this⟩⟩
  · rw [g5]
    intro a1
    obtain ⟨x, x1, x2⟩ := e2 p p' hp a1
    exact ⟨x, x1, by rw [f0 _ (by omega) (by omega) (by omega), f0 _ (by omega) (by omega) (by omega)]; exact x2⟩
  · rw [g5, f0 _ (by omega) (by omega) (by omega)]
    exact e3 p
/-! the images of a map's letters -/
theorem z_pMl_ok {m A : Nat} (hm : m < 4) : ∀ {r l : Nat} {D : Nat → Int} {i : Nat} {w : Nat × (Nat → Int)}, z_pMl b ts m (A : Int) r l D i = .inr w → l + r ≤ 4 → i ≤ ts → A ≤ 4 →
    i ≤ w.1 ∧ w.1 ≤ ts ∧ (∀ y, (y < 54 + 4 * m + l ∨ 54 + 4 * m + l + r ≤ y) → (y < 70 + 6 * (4 * m + l) ∨ 70 + 6 * (4 * m + l + r) ≤ y) → w.2 y = D y) ∧
    ∀ l', l ≤ l' → l' < l + r → 1 ≤ w.2 (54 + 4 * m + l') ∧ w.2 (54 + 4 * m + l') ≤ 6 ∧ ∀ k : Nat, (k : Int) < w.2 (54 + 4 * m + l') → 0 ≤ w.2 (70 + 6 * (4 * m + l') + k) ∧ w.2 (70 + 6 * (4 * m + l') + k) < (A : Int)
  | 0, l, D, i, w, h, _, hi, _ => by
    rw [z_pMl] at h
    have hw := Sum.inr.inj h
    subst hw
    exact ⟨Nat.le_refl _, hi, fun y _ _ => rfl, fun l' h1 h2 => absurd h1 (by omega)⟩
  | r + 1, l, D, i, w, h, hl, hi, hA => by
    rw [z_pMl] at h
    obtain ⟨q1, hq1, h⟩ := z_bd_in h
    obtain ⟨q2, hq2, h⟩ := z_bd_in h
    obtain ⟨a1, a2, a3, a4, a5, a6⟩ := z_pPa_in hq1 hi
    obtain ⟨c1, c2, c3, c4, c5, c6⟩ := z_pPa_in hq2 a3
    obtain ⟨g1, g2, g3, g4⟩ := z_pMl_ok hm h (by omega) c3 hA
    refine ⟨by omega, g2, fun y h1 h2 => ?_, fun l' h1 h2 => ?_⟩
    · rw [g3 y (by omega) (by omega), z_setO (by omega), z_wL_out (by omega)]
    · by_cases hll : l' = l
      · subst hll
        have e1 : w.2 (54 + 4 * m + l') = ((q2.2 - q2.1 : Nat) : Int) := by rw [g3 _ (by omega) (by omega), z_set_eq]
        refine ⟨by rw [e1]; omega, by rw [e1]; omega, fun k hk => ?_⟩
        rw [e1] at hk
        rw [g3 _ (by omega) (by omega), z_setO (by omega), z_wL_in (by omega)]
        have := c5 (q2.1 + k) (by omega) (by omega)
        omega
      · exact g4 l' (by omega) (by omega)
theorem z_pMa_ok {st : Nat} {w : Nat × (Nat → Int)} (h : z_pMa b ts D st i = .inr w) (DI : z_DI D) (hi : i ≤ ts) : z_DI w.2 ∧ i ≤ w.1 ∧ w.1 ≤ ts := by
  obtain ⟨⟨d1, d2, d3, d4, d5, d6, d7, d8⟩, e1, e2, e3⟩ := DI
  unfold z_pMa at h
  by_cases h4 : D 4 = 4
  · rw [z_ifT h4] at h; exact absurd h (fun h => by cases h)
  · rw [z_ifF h4] at h
    obtain ⟨m, hm⟩ : ∃ m : Nat, D 4 = (m : Int) := ⟨(D 4).toNat, by omega⟩
    obtain ⟨A, hA⟩ : ∃ A : Nat, D 0 = (A : Int) := ⟨(D 0).toNat, by omega⟩
    rw [hm, hA, show ((m : Int)).toNat = m from rfl, show ((A : Int)).toNat = A from rfl] at h
    obtain ⟨q, hq, h⟩ := z_bd_in h
    obtain ⟨u, hu, h⟩ := z_bd_in h
    have hw := Sum.inr.inj h
    obtain ⟨n1, n2, n3, n4, n5, n6, n7⟩ := z_pNa_in hq hi
    obtain ⟨g1, g2, g3, g4⟩ := z_pMl_ok (by omega) hu (by omega) n3 (by omega)
    subst hw
    refine ⟨?_, by dsimp only; omega, g2⟩
    dsimp only
    have f0 : ∀ y, y ≠ 4 → (y < 6 + 6 * m ∨ 6 + 6 * m + 6 ≤ y) → (y < 54 + 4 * m ∨ 54 + 4 * m + 4 ≤ y) → (y < 70 + 24 * m ∨ 70 + 24 * m + 24 ≤ y) → z_set u.2 4 ((m : Int) + 1) y = D y := fun y y1 y2 y3 y4 => by
      rw [z_setO y1, g3 y (by omega) (by omega), z_wN_out y2]
    have c0 := f0 0 (by omega) (by omega) (by omega) (by omega)
    have c1 := f0 1 (by omega) (by omega) (by omega) (by omega)
    have c2 := f0 2 (by omega) (by omega) (by omega) (by omega)
    have c3 := f0 3 (by omega) (by omega) (by omega) (by omega)
    have c5 := f0 5 (by omega) (by omega) (by omega) (by omega)
    have c4 : z_set u.2 4 ((m : Int) + 1) 4 = (m : Int) + 1 := z_set_eq
    refine ⟨⟨by rw [c0]; exact d1, by rw [c1]; exact d2, by rw [c2]; exact d3, by rw [c3]; exact d4, by rw [c4]; omega, by rw [c5]; exact d6, fun m' l => ?_, fun p => ?_⟩, fun p => ?_, fun p p' hp => ?_, fun p => ?_⟩
    · rw [c4, c0]
      intro a1 a2
      by_cases hmm : m' = m
      · subst hmm
        obtain ⟨y1, y2, y3⟩ := g4 l (by omega) (by omega)
        rw [z_setO (by omega)]
        refine ⟨y1, y2, fun k hk => ?_⟩
        rw [z_setO (by omega), hA]
        exact y3 k hk
      · have hl4 : l < 4 := by omega
        have hm4 : m' < 4 := by omega
        obtain ⟨y1, y2, y3⟩ := d7 m' l (by omega) a2
        rw [f0 _ (by omega) (by omega) (by omega) (by omega)]
        refine ⟨y1, y2, fun k hk => ?_⟩
        rw [f0 _ (by omega) (by omega) (by omega) (by omega)]
        exact y3 k hk
    · rw [c5]
      intro a1
      obtain ⟨y1, y2, y3⟩ := d8 p a1
      rw [f0 (166 + p) (by omega) (by omega) (by omega) (by omega), f0 (194 + p) (by omega) (by omega) (by omega) (by omega)]
      exact ⟨y1, y2, fun k hk => by rw [f0 _ (by omega) (by omega) (by omega) (by omega)]; exact y3 k hk⟩
    · rw [c5]
      intro a1
      obtain ⟨n, y1, y2, y3, y4, y5⟩ := e1 p a1
      exact ⟨n, y1, y2, fun x hx => by rw [f0 _ (by omega) (by omega) (by omega) (by omega)]; exact y3 x hx, fun x h1 h2 => by rw [f0 _ (by omega) (by omega) (by omega) (by omega)]; exact y4 x h1 h2, fun w h1 h2 h3 => y5 w h1 h2 ⟨h3.1, fun x hx => by have := h3.2 x hx; rw [f0 _ (by omega) (by omega) (by omega) (by omega)] at this; exact this⟩⟩
    · rw [c5]
      intro a1
      obtain ⟨x, x1, x2⟩ := e2 p p' hp a1
      exact ⟨x, x1, by rw [f0 _ (by omega) (by omega) (by omega) (by omega), f0 _ (by omega) (by omega) (by omega) (by omega)]; exact x2⟩
    · rw [c5]
      intro a1 a2
      rw [f0 _ (by omega) (by omega) (by omega) (by omega)]
      exact e3 p a1 a2
theorem z_pSh_ok {st : Nat} {w : Nat × (Nat → Int)} (h : z_pSh b ts D st i = .inr w) (DI : z_DI D) (hi : i ≤ ts) : z_DI w.2 ∧ i ≤ w.1 ∧ w.1 ≤ ts := by
  obtain ⟨⟨d1, d2, d3, d4, d5, d6, d7, d8⟩, e1, e2, e3⟩ := DI
  unfold z_pSh at h
  by_cases h4 : D 5 = 4
  · rw [z_ifT h4] at h; exact absurd h (fun h => by cases h)
  · rw [z_ifF h4] at h
    obtain ⟨m, hm⟩ : ∃ m : Nat, D 5 = (m : Int) := ⟨(D 5).toNat, by omega⟩
    rw [hm, show ((m : Int)).toNat = m from rfl] at h
    obtain ⟨q, hq, h⟩ := z_bd_in h
    obtain ⟨z, hz, h⟩ := z_bd_in h
    have hw := Sum.inr.inj h
    obtain ⟨n1, n2, n3, n4, n5, n6, n7⟩ := z_pNa_in hq hi
    obtain ⟨z1, z2, z3, z4, z5, z6⟩ := z_pPa_in hz n3
    subst hw
    refine ⟨?_, by dsimp only; omega, z3⟩
    dsimp only
    have f0 : ∀ v, v ≠ 5 → (v < 6 + 6 * (4 + m) ∨ 6 + 6 * (4 + m) + 6 ≤ v) → v ≠ 166 + m → (v < 170 + 6 * m ∨ 170 + 6 * m + 6 ≤ v) → z_set (z_set (z_wL b (z_wN b D (4 + m) q.1 q.2) (170 + 6 * m) z.1 z.2 120) (166 + m) ((z.2 - z.1 : Nat) : Int)) 5 ((m : Int) + 1) v = D v := fun v h1 h2 h3 h4 => by
      rw [z_setO h1, z_setO h3, z_wL_out (by omega), z_wN_out h2]
    have c0 := f0 0 (by omega) (by omega) (by omega) (by omega)
    have c1 := f0 1 (by omega) (by omega) (by omega) (by omega)
    have c2 := f0 2 (by omega) (by omega) (by omega) (by omega)
    have c3 := f0 3 (by omega) (by omega) (by omega) (by omega)
    have c4 := f0 4 (by omega) (by omega) (by omega) (by omega)
    have c5 : z_set (z_set (z_wL b (z_wN b D (4 + m) q.1 q.2) (170 + 6 * m) z.1 z.2 120) (166 + m) ((z.2 - z.1 : Nat) : Int)) 5 ((m : Int) + 1) 5 = (m : Int) + 1 := z_set_eq
    have nn : ∀ x, x < 6 → z_set (z_set (z_wL b (z_wN b D (4 + m) q.1 q.2) (170 + 6 * m) z.1 z.2 120) (166 + m) ((z.2 - z.1 : Nat) : Int)) 5 ((m : Int) + 1) (6 + 6 * (4 + m) + x) = if x < q.2 - q.1 then b (q.1 + x) else 0 := fun x hx => by
      rw [z_setO (by omega), z_setO (by omega), z_wL_out (by omega), z_wN_in hx]
    refine ⟨⟨by rw [c0]; exact d1, by rw [c1]; exact d2, by rw [c2]; exact d3, by rw [c3]; exact d4, by rw [c4]; exact d5, by rw [c5]; omega, fun m' l => ?_, fun p => ?_⟩, fun p => ?_, fun p p' hp => ?_, fun p => ?_⟩
    · rw [c4, c0]
      intro a1 a2
      obtain ⟨y1, y2, y3⟩ := d7 m' l a1 a2
      rw [f0 _ (by omega) (by omega) (by omega) (by omega)]
      exact ⟨y1, y2, fun k hk => by rw [f0 _ (by omega) (by omega) (by omega) (by omega)]; exact y3 k hk⟩
    · rw [c5]
      intro a1
      by_cases hpm : p = m
      · subst hpm
        have g1 : z_set (z_set (z_wL b (z_wN b D (4 + p) q.1 q.2) (170 + 6 * p) z.1 z.2 120) (166 + p) ((z.2 - z.1 : Nat) : Int)) 5 ((p : Int) + 1) (166 + p) = ((z.2 - z.1 : Nat) : Int) := by rw [z_setO (by omega), z_set_eq]
        rw [g1, f0 (194 + p) (by omega) (by omega) (by omega) (by omega)]
        refine ⟨by omega, Or.inl (e3 p (by omega) (by omega)), fun k hk => ?_⟩
        rw [z_setO (by omega), z_setO (by omega), z_wL_in (by omega)]
        have := z5 (z.1 + k) (by omega) (by omega)
        omega
      · obtain ⟨y1, y2, y3⟩ := d8 p (by omega)
        rw [f0 (166 + p) (by omega) (by omega) (by omega) (by omega), f0 (194 + p) (by omega) (by omega) (by omega) (by omega)]
        exact ⟨y1, y2, fun k hk => by rw [f0 _ (by omega) (by omega) (by omega) (by omega)]; exact y3 k hk⟩
    · rw [c5]
      intro a1
      by_cases hpm : p = m
      · subst hpm
        refine ⟨q.2 - q.1, by omega, n4, fun x hx => ?_, fun x h1 h2 => ?_, fun w h1 h2 h3 => n5 ⟨w, h1, h2, h3.1, fun x hx => ?_⟩⟩
        · rw [nn x (by omega), if_pos hx]; exact n7 _ (by omega) (by omega)
        · rw [nn x h2, if_neg (by omega)]
        · have := h3.2 x (by omega)
          rw [nn x (by omega), if_pos (by omega)] at this
          exact this
      · obtain ⟨n, y1, y2, y3, y4, y5⟩ := e1 p (by omega)
        exact ⟨n, y1, y2, fun x hx => by rw [f0 _ (by omega) (by omega) (by omega) (by omega)]; exact y3 x hx, fun x h1 h2 => by rw [f0 _ (by omega) (by omega) (by omega) (by omega)]; exact y4 x h1 h2, fun w h1 h2 h3 => y5 w h1 h2 ⟨h3.1, fun x hx => by have := h3.2 x hx; rw [f0 _ (by omega) (by omega) (by omega) (by omega)] at this; exact this⟩⟩
    · rw [c5]
      intro a1
      by_cases hpm : p' = m
      · subst hpm
        have hno := n6 p (by omega)
        refine Classical.byContradiction (fun hall => hno (fun x hx => ?_))
        refine Classical.byContradiction (fun hne => hall ⟨x, hx, ?_⟩)
        rw [nn x hx, f0 _ (by omega) (by omega) (by omega) (by omega)]
        exact hne
      · obtain ⟨x, x1, x2⟩ := e2 p p' hp (by omega)
        exact ⟨x, x1, by rw [f0 _ (by omega) (by omega) (by omega) (by omega), f0 _ (by omega) (by omega) (by omega) (by omega)]; exact x2⟩
    · rw [c5]
      intro a1 a2
      rw [f0 _ (by omega) (by omega) (by omega) (by omega)]
      exact e3 p (by omega) a2
theorem z_pAv_ok {w : Nat × (Nat → Int)} (h : z_pAv b ts D i = .inr w) (DI : z_DI D) (hi : i ≤ ts) : z_DI w.2 ∧ i ≤ w.1 ∧ w.1 ≤ ts := by
  obtain ⟨s1, s2⟩ := z_sk_b (b := b) hi
  obtain ⟨w1, w2, w3⟩ := z_we_b (b := b) hi
  obtain ⟨dw, e1, e2, e3⟩ := DI
  have d6 := dw.2.2.2.2.2.1
  unfold z_pAv at h
  obtain ⟨⟨c1, c2, c3, c4, c5⟩, h⟩ := z_if_in h
  have hw := Sum.inr.inj h
  subst hw
  refine ⟨?_, by dsimp only; omega, w2⟩
  dsimp only
  have f0 : ∀ v, v ≠ 194 + z_avk b ts D i → z_set D (194 + z_avk b ts D i) 1 v = D v := fun v hv => z_setO hv
  have g5 := f0 5 (by omega)
  refine ⟨z_set_Dw dw (by omega) (Or.inr rfl), fun p => ?_, fun p p' hp => ?_, fun p => ?_⟩
  · rw [g5]
    intro a1
    obtain ⟨n, y1, y2, y3, y4, y5⟩ := e1 p a1
    exact ⟨n, y1, y2, fun x hx => by rw [f0 _ (by omega)]; exact y3 x hx, fun x h1 h2 => by rw [f0 _ (by omega)]; exact y4 x h1 h2, fun w h1 h2 h3 => y5 w h1 h2 ⟨h3.1, fun x hx => by have := h3.2 x hx; rw [f0 _ (by omega)] at this; exact this⟩⟩
  · rw [g5]
    intro a1
    obtain ⟨x, x1, x2⟩ := e2 p p' hp a1
    exact ⟨x, x1, by rw [f0 _ (by omega), f0 _ (by omega)]; exact x2⟩
  · rw [g5]
    intro a1 a2
    rw [f0 _ (by omega)]
    exact e3 p a1 a2
theorem z_pLn_ok {w : Nat × (Nat → Int)} (h : z_pLn b ts D i = .inr w) (DI : z_DI D) (hi : i ≤ ts) : z_DI w.2 ∧ i ≤ w.1 ∧ w.1 ≤ ts := by
  obtain ⟨s1, s2⟩ := z_sk_b (b := b) hi
  obtain ⟨w1, w2, w3⟩ := z_we_b (b := b) hi
  have up : z_DI w.2 ∧ z_we b ts i ≤ w.1 ∧ w.1 ≤ ts → z_DI w.2 ∧ i ≤ w.1 ∧ w.1 ≤ ts := fun ⟨g1, g2, g3⟩ => ⟨g1, by omega, g3⟩
  unfold z_pLn at h
  by_cases h3 : z_isw b (z_sk b ts i) (z_we b ts i) 3 ∧ D 1 = 0
  · rw [z_ifT h3] at h
    exact up (z_pLi_ok h DI w2)
  · rw [z_ifF h3] at h
    by_cases h7 : z_isw b (z_sk b ts i) (z_we b ts i) 7
    · rw [z_ifT h7] at h
      exact up (z_pMa_ok h DI w2)
    · rw [z_ifF h7] at h
      by_cases h8 : z_isw b (z_sk b ts i) (z_we b ts i) 8
      · rw [z_ifT h8] at h
        exact up (z_pSh_ok h DI w2)
      · rw [z_ifF h8] at h
        obtain ⟨-, h⟩ := z_if_in h
        exact up (z_pAv_ok h DI w2)
theorem z_pLs_ok : ∀ {n : Nat} {D : Nat → Int} {i : Nat} {w : Nat × (Nat → Int)}, z_pLs b ts n D i = .inr w → z_DI D → i ≤ ts → z_DI w.2
  | 0, D, i, w, h, DI, _ => by
    have hw := Sum.inr.inj (show (.inr (i, D) : Nat ⊕ (Nat × (Nat → Int))) = .inr w from h)
    rw [← hw]
    exact DI
  | n + 1, D, i, w, h, DI, hi => by
    rw [z_pLs] at h
    by_cases hl : i < ts
    · rw [z_ifT hl] at h
      obtain ⟨u, hu, h⟩ := z_bd_in h
      obtain ⟨j, hj, h⟩ := z_bd_in h
      obtain ⟨g1, g2, g3⟩ := z_pLn_ok hu DI hi
      obtain ⟨k1, k2⟩ := z_pSg_in hj g3
      exact z_pLs_ok h g1 (z_sk_b k2).2
    · rw [z_ifF hl] at h
      have hw := Sum.inr.inj h
      rw [← hw]
      exact DI
theorem z_pTx_ok {w : Nat × (Nat → Int)} (h : z_pTx b ts = .inr w) : z_DI w.2 := by
  unfold z_pTx at h
  obtain ⟨j, hj, h⟩ := z_bd_in h
  obtain ⟨q, hq, h⟩ := z_bd_in h
  obtain ⟨j2, hj2, h⟩ := z_bd_in h
  obtain ⟨k1, k2⟩ := z_pKw_in hj (Nat.zero_le _)
  obtain ⟨n1, n2, n3, n4⟩ := z_pNu_in hq k2
  obtain ⟨m1, m2⟩ := z_pSg_in hj2 n4
  exact z_pLs_ok h (z_DI_0 ⟨n1, n2⟩) (z_sk_b m2).2
end Inv
