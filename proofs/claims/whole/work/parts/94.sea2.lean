/-! SEARCHES: what holds of the machine at each step. -/
/-! a state from which a search begins -/
def z_sw (D : Nat → Int) (lo hi : Nat) (s : z_S) : Prop :=
  lo ≤ s.2.1 ∧ s.2.1 < hi ∧ hi ≤ 64 ∧ s.2.2.2.1 ≤ 5000 ∧ (∀ i, i < s.2.1 → 0 ≤ s.1 i ∧ s.1 i < D 0) ∧ s.2.2.1 ≤ z_dA D ∧ s.2.2.2.2 ≤ 64
section Sea2
variable {D g : Nat → Int} {lo hi k x t h m n : Nat}
theorem z_sen_eq {s : z_S} (h1 : z_sed D lo hi (z_sit D lo hi s m)) (h2 : ∀ j, j < m → ¬ z_sed D lo hi (z_sit D lo hi s j)) (hm : m ≤ 20000) : z_sen D lo hi s = m := z_fo_eq hm h2 (fun _ => h1)
/-! what holds at the beginning and is kept by each step -/
theorem z_sit_P {s : z_S} (W : z_sw D lo hi s) (P : Nat → z_S → Prop) (h0 : P 0 s)
    (hd : ∀ m g k x t h, z_sit D lo hi s m = (g, k, x, t, h) → z_sit D lo hi s (m + 1) = (g, k - 1, (g (k - 1)).toNat + 1, t, h) → lo < k → k ≤ hi → t ≤ 5000 → P m (g, k, x, t, h) → (k = hi ∨ z_dA D ≤ x) → P (m + 1) (g, k - 1, (g (k - 1)).toNat + 1, t, h))
    (hb : ∀ m g k x t h, z_sit D lo hi s m = (g, k, x, t, h) → z_sit D lo hi s (m + 1) = (z_put g k (x : Int), k, x + 1, t + 1, h) → lo ≤ k → k < hi → x < z_dA D → t < 5000 → P m (g, k, x, t, h) → z_bad D (z_put g k (x : Int)) k → P (m + 1) (z_put g k (x : Int), k, x + 1, t + 1, h))
    (hg : ∀ m g k x t h, z_sit D lo hi s m = (g, k, x, t, h) → z_sit D lo hi s (m + 1) = (z_put g k (x : Int), k + 1, 0, t + 1, max h (k + 1)) → lo ≤ k → k < hi → x < z_dA D → t < 5000 → P m (g, k, x, t, h) → ¬ z_bad D (z_put g k (x : Int)) k → P (m + 1) (z_put g k (x : Int), k + 1, 0, t + 1, max h (k + 1))) :
    ∀ {m : Nat}, (∀ j, j < m → ¬ z_sed D lo hi (z_sit D lo hi s j)) → P m (z_sit D lo hi s m)
  | 0, _ => h0
  | m + 1, nr => by
    obtain ⟨w1, w2, w3, w4, -, -, -⟩ := id W
    have ih := z_sit_P W P h0 hd hb hg (m := m) (fun j hj => nr j (by omega))
    obtain ⟨⟨i1, i2, i3⟩, -⟩ := z_sit_inv (D := D) w1 (Nat.le_of_lt w2) (by omega) w4 (m := m) (fun j hj => nr j (by omega))
    have ne := nr m (by omega)
    have st : z_sit D lo hi s (m + 1) = z_sst D lo hi (z_sit D lo hi s m) := rfl
    revert ih i1 i2 i3 ne st
    generalize hX : z_sit D lo hi s m = X
    obtain ⟨g, k, x, t, h⟩ := X
    dsimp only
    intro ih i1 i2 i3 ne st
    unfold z_sed at ne
    dsimp only at ne
    by_cases c1 : k = hi ∨ (z_dA D ≤ x ∧ lo < k)
    · rw [z_sst_drop c1] at st
      rw [st]
      exact hd m g k x t h hX st (by omega) i2 i3 ih (by omega)
    · by_cases b : z_bad D (z_put g k (x : Int)) k
      · rw [z_sst_bad (by omega) (by omega) (by omega) b] at st
        rw [st]
        exact hb m g k x t h hX st i1 (by omega) (by omega) (by omega) ih b
      · rw [z_sst_good (by omega) (by omega) (by omega) b] at st
        rw [st]
        exact hg m g k x t h hX st i1 (by omega) (by omega) (by omega) ih b
/-! letters that are told -/
theorem z_sit_lt {s : z_S} (wD : z_Dw D) (W : z_sw D lo hi s) : ∀ {m : Nat}, (∀ j, j < m → ¬ z_sed D lo hi (z_sit D lo hi s j)) → (∀ i, i < (z_sit D lo hi s m).2.1 → 0 ≤ (z_sit D lo hi s m).1 i ∧ (z_sit D lo hi s m).1 i < D 0) ∧ (z_sit D lo hi s m).2.2.1 ≤ z_dA D ∧ (z_sit D lo hi s m).2.2.2.2 ≤ 64 := by
  obtain ⟨d1, d2, d3⟩ := z_dA_eq wD
  obtain ⟨w1, w2, w3, w4, w5, w6, w7⟩ := id W
  refine z_sit_P W (fun _ S => (∀ i, i < S.2.1 → 0 ≤ S.1 i ∧ S.1 i < D 0) ∧ S.2.2.1 ≤ z_dA D ∧ S.2.2.2.2 ≤ 64) ⟨w5, w6, w7⟩ ?_ ?_ ?_
  · intro m g k x t h _ _ hl hh ht ⟨p1, p2, p3⟩ _
    dsimp only at p1 p2 p3 ⊢
    have q := p1 (k - 1) (by omega)
    exact ⟨fun i hi => p1 i (by omega), by omega, p3⟩
  · intro m g k x t h _ _ hl hh hx ht ⟨p1, p2, p3⟩ _
    dsimp only at p1 p2 p3 ⊢
    exact ⟨fun i hi => by rw [z_put_ne (by omega)]; exact p1 i hi, by omega, p3⟩
  · intro m g k x t h _ _ hl hh hx ht ⟨p1, p2, p3⟩ _
    dsimp only at p1 p2 p3 ⊢
    refine ⟨fun i hi => ?_, by omega, by omega⟩
    by_cases e : i = k
    · rw [e, z_put_eq]; omega
    · rw [z_put_ne e]; exact p1 i (by omega)
/-! each find costs a try -/
theorem z_sit_ct {s : z_S} (W : z_sw D lo hi s) : ∀ {m : Nat}, (∀ j, j < m → ¬ z_sed D lo hi (z_sit D lo hi s j)) → z_ct (fun j => z_sfd hi (z_sit D lo hi s j)) (m + 1) + s.2.2.2.1 ≤ (z_sit D lo hi s m).2.2.2.1 := by
  obtain ⟨w1, w2, w3, w4, -, -, -⟩ := id W
  refine z_sit_P W (fun m S => z_ct (fun j => z_sfd hi (z_sit D lo hi s j)) (m + 1) + s.2.2.2.1 ≤ S.2.2.2.1) ?_ ?_ ?_ ?_
  · have e : z_ct (fun j => z_sfd hi (z_sit D lo hi s j)) 1 = 0 := by
      rw [z_ctN (fun f0 => by have : s.2.1 = hi := f0; omega)]
      rfl
    rw [e]; omega
  · intro m g k x t h _ e hl hh ht p _
    dsimp only at p ⊢
    rw [z_ctN (fun f0 => by rw [e] at f0; have : k - 1 = hi := f0; omega)]
    exact p
  · intro m g k x t h _ e hl hh hx ht p _
    dsimp only at p ⊢
    rw [z_ctN (fun f0 => by rw [e] at f0; have : k = hi := f0; omega)]
    omega
  · intro m g k x t h _ e hl hh hx ht p _
    dsimp only at p ⊢
    have l := z_ct_mono (b := fun j => z_sfd hi (z_sit D lo hi s j)) (m := m + 1) (n := m + 1) (Nat.le_refl _)
    by_cases f0 : z_sfd hi (z_sit D lo hi s (m + 1))
    · rw [z_ctS (b := fun j => z_sfd hi (z_sit D lo hi s j)) (n := m + 1) f0]; omega
    · rw [z_ctN (b := fun j => z_sfd hi (z_sit D lo hi s j)) (n := m + 1) f0]; omega
/-! how deep it has been -/
theorem z_sit_deep {s : z_S} (W : z_sw D lo hi s) (h0 : s.2.2.2.2 = s.2.1) : ∀ {m : Nat}, (∀ j, j < m → ¬ z_sed D lo hi (z_sit D lo hi s j)) →
    (∀ j, j ≤ m → (z_sit D lo hi s j).2.1 ≤ (z_sit D lo hi s m).2.2.2.2) ∧ (∃ j, j ≤ m ∧ (z_sit D lo hi s j).2.1 = (z_sit D lo hi s m).2.2.2.2) := by
  refine z_sit_P W (fun m S => (∀ j, j ≤ m → (z_sit D lo hi s j).2.1 ≤ S.2.2.2.2) ∧ (∃ j, j ≤ m ∧ (z_sit D lo hi s j).2.1 = S.2.2.2.2)) ?_ ?_ ?_ ?_
  · exact ⟨fun j hj => by rw [show j = 0 from by omega, h0]; exact Nat.le_refl _, 0, Nat.le_refl _, h0.symm⟩
  · intro m g k x t h e0 e hl hh ht ⟨p1, j0, p2, p3⟩ _
    dsimp only at p1 p3 ⊢
    refine ⟨fun j hj => ?_, j0, by omega, p3⟩
    by_cases hjm : j = m + 1
    · have q := p1 m (Nat.le_refl _)
      rw [e0] at q
      rw [hjm, e]
      dsimp only at q ⊢
      omega
    · exact p1 j (by omega)
  · intro m g k x t h e0 e hl hh hx ht ⟨p1, j0, p2, p3⟩ _
    dsimp only at p1 p3 ⊢
    refine ⟨fun j hj => ?_, j0, by omega, p3⟩
    by_cases hjm : j = m + 1
    · have q := p1 m (Nat.le_refl _)
      rw [e0] at q
      rw [hjm, e]
      exact q
    · exact p1 j (by omega)
  · intro m g k x t h e0 e hl hh hx ht ⟨p1, j0, p2, p3⟩ _
    dsimp only at p1 p3 ⊢
    refine ⟨fun j hj => ?_, ?_⟩
    · by_cases hjm : j = m + 1
      · rw [hjm, e]
        dsimp only
        omega
      · have q := p1 j (by omega)
        omega
    · by_cases hm : k + 1 ≤ h
      · exact ⟨j0, by omega, by omega⟩
      · exact ⟨m + 1, Nat.le_refl _, by rw [e]; dsimp only; omega⟩
/-! what is laid is free -/
theorem z_sit_free {s : z_S} (wD : z_Dw D) (W : z_sw D lo hi s) (h0 : ∀ i, i < s.2.1 → ¬ z_bad D s.1 i) : ∀ {m : Nat}, (∀ j, j < m → ¬ z_sed D lo hi (z_sit D lo hi s j)) → ∀ i, i < (z_sit D lo hi s m).2.1 → ¬ z_bad D (z_sit D lo hi s m).1 i := by
  refine z_sit_P W (fun m S => ∀ i, i < S.2.1 → ¬ z_bad D S.1 i) h0 ?_ ?_ ?_
  · intro m g k x t h _ _ hl hh ht p _ i hi
    dsimp only at p hi
    exact p i (by omega)
  · intro m g k x t h _ _ hl hh hx ht p _ i hi b
    dsimp only at p hi b
    exact p i hi (z_bad_co wD (fun j hj => z_put_ne (by omega)) b)
  · intro m g k x t h _ _ hl hh hx ht p nb i hi b
    dsimp only at p hi b
    by_cases e : i = k
    · rw [e] at b; exact nb b
    · exact p i (by omega) (z_bad_co wD (fun j hj => z_put_ne (by omega)) b)
/-! every free word that is ahead was found -/
theorem z_sit_all {s : z_S} (wD : z_Dw D) (W : z_sw D 0 hi s) (hk : s.2.1 = 0) (hx : s.2.2.1 = 0) {u : Nat → Int} (u1 : ∀ i, i < hi → 0 ≤ u i ∧ u i < D 0) (u2 : ∀ i, i < hi → ¬ z_bad D u i) : ∀ {m : Nat}, (∀ j, j < m → ¬ z_sed D 0 hi (z_sit D 0 hi s j)) →
    ((∃ i, i < (z_sit D 0 hi s m).2.1 ∧ (∀ j, j < i → u j = (z_sit D 0 hi s m).1 j) ∧ u i < (z_sit D 0 hi s m).1 i) ∨ ((z_sit D 0 hi s m).2.1 < hi ∧ (∀ j, j < (z_sit D 0 hi s m).2.1 → u j = (z_sit D 0 hi s m).1 j) ∧ u (z_sit D 0 hi s m).2.1 < ((z_sit D 0 hi s m).2.2.1 : Int))) →
    ∃ j, j < m ∧ z_sfd hi (z_sit D 0 hi s j) ∧ ∀ i, i < hi → (z_sit D 0 hi s j).1 i = u i := by
  obtain ⟨d1, d2, d3⟩ := z_dA_eq wD
  intro m nr h
  refine (z_sit_P W (fun m S => (∀ i, i < S.2.1 → 0 ≤ S.1 i) ∧ (((∃ i, i < S.2.1 ∧ (∀ j, j < i → u j = S.1 j) ∧ u i < S.1 i) ∨ (S.2.1 < hi ∧ (∀ j, j < S.2.1 → u j = S.1 j) ∧ u S.2.1 < (S.2.2.1 : Int))) → ∃ j, j < m ∧ z_sfd hi (z_sit D 0 hi s j) ∧ ∀ i, i < hi → (z_sit D 0 hi s j).1 i = u i)) ?_ ?_ ?_ ?_ nr).2 h
  · refine ⟨fun i hi => absurd hi (by omega), ?_⟩
    rintro (⟨i, i1, -, -⟩ | ⟨i1, -, i2⟩)
    · omega
    · have q := u1 _ i1
      omega
  · intro m g k x t h e0 e hl hh ht ⟨pg, p⟩ cs
    dsimp only at pg p ⊢
    refine ⟨fun i hi => pg i (by omega), ?_⟩
    have pg1 := pg (k - 1) (by omega)
    have old : (∃ j, j < m ∧ z_sfd hi (z_sit D 0 hi s j) ∧ ∀ i, i < hi → (z_sit D 0 hi s j).1 i = u i) → ∃ j, j < m + 1 ∧ z_sfd hi (z_sit D 0 hi s j) ∧ ∀ i, i < hi → (z_sit D 0 hi s j).1 i = u i := fun ⟨j, j1, j2⟩ => ⟨j, by omega, j2⟩
    rintro (⟨i, i1, i2, i3⟩ | ⟨i1, i2, i3⟩)
    · exact old (p (Or.inl ⟨i, by omega, i2, i3⟩))
    · by_cases hlt : u (k - 1) < g (k - 1)
      · exact old (p (Or.inl ⟨k - 1, by omega, i2, hlt⟩))
      · have q := u1 (k - 1) (by omega)
        have eq : ∀ j, j < k → u j = g j := fun j hj => by
          by_cases hjk : j = k - 1
          · rw [hjk]; omega
          · exact i2 j (by omega)
        by_cases hkh : k = hi
        · refine ⟨m, by omega, by rw [e0]; exact hkh, fun i hi' => ?_⟩
          rw [e0]
          exact (eq i (by omega)).symm
        · have q2 := u1 k (by omega)
          exact old (p (Or.inr ⟨by omega, eq, by omega⟩))
  · intro m g k x t h e0 e hl hh hx ht ⟨pg, p⟩ b
    dsimp only at pg p ⊢
    refine ⟨fun i hi => by rw [z_put_ne (by omega)]; exact pg i hi, ?_⟩
    have old : (∃ j, j < m ∧ z_sfd hi (z_sit D 0 hi s j) ∧ ∀ i, i < hi → (z_sit D 0 hi s j).1 i = u i) → ∃ j, j < m + 1 ∧ z_sfd hi (z_sit D 0 hi s j) ∧ ∀ i, i < hi → (z_sit D 0 hi s j).1 i = u i := fun ⟨j, j1, j2⟩ => ⟨j, by omega, j2⟩
    rintro (⟨i, i1, i2, i3⟩ | ⟨i1, i2, i3⟩)
    · exact old (p (Or.inl ⟨i, i1, fun j hj => by rw [i2 j hj]; exact z_put_ne (by omega), by rw [z_put_ne (by omega)] at i3; exact i3⟩))
    · have i2' : ∀ j, j < k → u j = g j := fun j hj => by rw [i2 j hj]; exact z_put_ne (by omega)
      by_cases hlt : u k < (x : Int)
      · exact old (p (Or.inr ⟨by omega, i2', hlt⟩))
      · refine absurd (z_bad_co wD (fun j hj => ?_) b) (u2 k hh)
        by_cases hjk : j = k
        · rw [hjk, z_put_eq]; omega
        · rw [z_put_ne hjk]; exact (i2' j (by omega)).symm
  · intro m g k x t h e0 e hl hh hx ht ⟨pg, p⟩ b
    dsimp only at pg p ⊢
    refine ⟨fun i hi => ?_, ?_⟩
    · by_cases e : i = k
      · rw [e, z_put_eq]; omega
      · rw [z_put_ne e]; exact pg i (by omega)
    have old : (∃ j, j < m ∧ z_sfd hi (z_sit D 0 hi s j) ∧ ∀ i, i < hi → (z_sit D 0 hi s j).1 i = u i) → ∃ j, j < m + 1 ∧ z_sfd hi (z_sit D 0 hi s j) ∧ ∀ i, i < hi → (z_sit D 0 hi s j).1 i = u i := fun ⟨j, j1, j2⟩ => ⟨j, by omega, j2⟩
    rintro (⟨i, i1, i2, i3⟩ | ⟨i1, i2, i3⟩)
    · have i2' : ∀ j, j < i → u j = g j := fun j hj => by rw [i2 j hj]; exact z_put_ne (by omega)
      by_cases hik : i = k
      · rw [hik] at i2' i3
        rw [z_put_eq] at i3
        exact old (p (Or.inr ⟨by omega, i2', i3⟩))
      · rw [z_put_ne hik] at i3
        exact old (p (Or.inl ⟨i, by omega, i2', i3⟩))
    · have q := u1 _ i1
      omega
/-! two searches that begin alike -/
theorem z_sit_two {s : z_S} {hi' : Nat} (hh : hi ≤ hi') : ∀ {m : Nat}, (∀ j, j < m → (z_sit D lo hi' s j).2.1 < hi) → z_sit D lo hi s m = z_sit D lo hi' s m
  | 0, _ => rfl
  | m + 1, nf => by
    have ih := z_sit_two hh (m := m) (fun j hj => nf j (by omega))
    have n1 := nf m (by omega)
    have e1 : z_sit D lo hi s (m + 1) = z_sst D lo hi (z_sit D lo hi s m) := rfl
    have e2 : z_sit D lo hi' s (m + 1) = z_sst D lo hi' (z_sit D lo hi' s m) := rfl
    rw [e1, e2, ih]
    revert n1
    generalize z_sit D lo hi' s m = X
    obtain ⟨g, k, x, t, h⟩ := X
    dsimp only
    intro n1
    by_cases c1 : z_dA D ≤ x ∧ lo < k
    · rw [z_sst_drop (Or.inr c1), z_sst_drop (Or.inr c1)]
    · by_cases c2 : z_dA D ≤ x ∨ t = 5000
      · rw [z_sst_end ⟨by dsimp only; omega, by dsimp only; omega⟩, z_sst_end ⟨by dsimp only; omega, by dsimp only; omega⟩]
      · by_cases b : z_bad D (z_put g k (x : Int)) k
        · rw [z_sst_bad (by omega) (by omega) (by omega) b, z_sst_bad (by omega) (by omega) (by omega) b]
        · rw [z_sst_good (by omega) (by omega) (by omega) b, z_sst_good (by omega) (by omega) (by omega) b]
end Sea2
