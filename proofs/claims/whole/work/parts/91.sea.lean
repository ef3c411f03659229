/-! SEARCHES: one machine for both sides; a state is the word laid so far, its length, the letter to try, the tries, the deepest. -/
abbrev z_S : Type := (Nat → Int) × Nat × Nat × Nat × Nat
noncomputable def z_sst (D : Nat → Int) (lo hi : Nat) (s : z_S) : z_S :=
  @ite _ (s.2.1 = hi ∨ (z_dA D ≤ s.2.2.1 ∧ lo < s.2.1)) (Classical.propDecidable _) (s.1, s.2.1 - 1, (s.1 (s.2.1 - 1)).toNat + 1, s.2.2.2.1, s.2.2.2.2)
    (@ite _ (z_dA D ≤ s.2.2.1 ∨ s.2.2.2.1 = 5000) (Classical.propDecidable _) s
      (@ite _ (z_bad D (z_put s.1 s.2.1 (s.2.2.1 : Int)) s.2.1) (Classical.propDecidable _) (z_put s.1 s.2.1 (s.2.2.1 : Int), s.2.1, s.2.2.1 + 1, s.2.2.2.1 + 1, s.2.2.2.2)
        (z_put s.1 s.2.1 (s.2.2.1 : Int), s.2.1 + 1, 0, s.2.2.2.1 + 1, max s.2.2.2.2 (s.2.1 + 1))))
noncomputable def z_sit (D : Nat → Int) (lo hi : Nat) (s : z_S) : Nat → z_S
  | 0 => s
  | m + 1 => z_sst D lo hi (z_sit D lo hi s m)
/-! the machine rests: no letter is left at the lowest place (or the tries are used up) -/
def z_sed (D : Nat → Int) (lo hi : Nat) (s : z_S) : Prop := s.2.1 ≠ hi ∧ ((z_dA D ≤ s.2.2.1 ∧ s.2.1 ≤ lo) ∨ (s.2.2.1 < z_dA D ∧ s.2.2.2.1 = 5000))
/-! a word of the goal's length is laid -/
def z_sfd (hi : Nat) (s : z_S) : Prop := s.2.1 = hi
section Sea
variable {D g : Nat → Int} {lo hi k x t h m : Nat}
theorem z_sst_drop (c : k = hi ∨ (z_dA D ≤ x ∧ lo < k)) : z_sst D lo hi (g, k, x, t, h) = (g, k - 1, (g (k - 1)).toNat + 1, t, h) := by
  unfold z_sst
  exact if_pos c
theorem z_sst_bad (c1 : k ≠ hi) (c2 : x < z_dA D) (c3 : t ≠ 5000) (b : z_bad D (z_put g k (x : Int)) k) : z_sst D lo hi (g, k, x, t, h) = (z_put g k (x : Int), k, x + 1, t + 1, h) := by
  unfold z_sst
  dsimp only
  rw [if_neg (by omega), if_neg (by omega), if_pos b]
theorem z_sst_good (c1 : k ≠ hi) (c2 : x < z_dA D) (c3 : t ≠ 5000) (b : ¬ z_bad D (z_put g k (x : Int)) k) : z_sst D lo hi (g, k, x, t, h) = (z_put g k (x : Int), k + 1, 0, t + 1, max h (k + 1)) := by
  unfold z_sst
  dsimp only
  rw [if_neg (by omega), if_neg (by omega), if_neg b]
theorem z_sst_end {s : z_S} (e : z_sed D lo hi s) : z_sst D lo hi s = s := by
  obtain ⟨e1, e2⟩ := e
  unfold z_sst
  rw [if_neg (by omega), if_pos (by omega)]
/-! one step of a state that doesn't rest -/
theorem z_sst_cases {s : z_S} (e : ¬ z_sed D lo hi s) (hlo : lo ≤ s.2.1) (hhi : s.2.1 ≤ hi) (hl : lo < hi) (ht : s.2.2.2.1 ≤ 5000) :
    (lo ≤ (z_sst D lo hi s).2.1 ∧ (z_sst D lo hi s).2.1 ≤ hi ∧ (z_sst D lo hi s).2.2.2.1 ≤ 5000) ∧
    (((z_sst D lo hi s).2.1 + 1 = s.2.1 ∧ (z_sst D lo hi s).2.2.2.1 = s.2.2.2.1) ∨ ((z_sst D lo hi s).2.1 ≤ s.2.1 + 1 ∧ s.2.1 ≤ (z_sst D lo hi s).2.1 ∧ (z_sst D lo hi s).2.2.2.1 = s.2.2.2.1 + 1)) := by
  obtain ⟨g, k, x, t, h⟩ := s
  dsimp only at hlo hhi ht
  unfold z_sed at e
  dsimp only at e
  by_cases c1 : k = hi ∨ (z_dA D ≤ x ∧ lo < k)
  · rw [z_sst_drop c1]
    dsimp only
    omega
  · by_cases b : z_bad D (z_put g k (x : Int)) k
    · rw [z_sst_bad (by omega) (by omega) (by omega) b]
      dsimp only
      omega
    · rw [z_sst_good (by omega) (by omega) (by omega) b]
      dsimp only
      omega
theorem z_sit_add {s : z_S} : ∀ {n : Nat}, z_sit D lo hi s (m + n) = z_sit D lo hi (z_sit D lo hi s m) n
  | 0 => rfl
  | n + 1 => by
    have ih := z_sit_add (s := s) (n := n)
    rw [← Nat.add_assoc]
    simp only [z_sit]
    rw [ih]
/-! what holds at each of its steps; and how many there are -/
theorem z_sit_inv {s : z_S} (hlo : lo ≤ s.2.1) (hhi : s.2.1 ≤ hi) (hl : lo < hi) (ht : s.2.2.2.1 ≤ 5000) : ∀ {m : Nat}, (∀ j, j < m → ¬ z_sed D lo hi (z_sit D lo hi s j)) →
    (lo ≤ (z_sit D lo hi s m).2.1 ∧ (z_sit D lo hi s m).2.1 ≤ hi ∧ (z_sit D lo hi s m).2.2.2.1 ≤ 5000) ∧ m + (z_sit D lo hi s m).2.1 + 2 * s.2.2.2.1 ≤ 2 * (z_sit D lo hi s m).2.2.2.1 + s.2.1
  | 0, _ => ⟨⟨hlo, hhi, ht⟩, by simp only [z_sit]; omega⟩
  | m + 1, hn => by
    obtain ⟨⟨i1, i2, i3⟩, i4⟩ := z_sit_inv hlo hhi hl ht (m := m) (fun j hj => hn j (by omega))
    obtain ⟨g1, g2⟩ := z_sst_cases (hn m (by omega)) i1 i2 hl i3
    refine ⟨g1, ?_⟩
    have e : z_sit D lo hi s (m + 1) = z_sst D lo hi (z_sit D lo hi s m) := rfl
    rw [e]
    omega
/-! where it comes to rest -/
noncomputable def z_sen (D : Nat → Int) (lo hi : Nat) (s : z_S) : Nat := z_fo (fun m => z_sed D lo hi (z_sit D lo hi s m)) 20000
theorem z_sen_spec {s : z_S} (hlo : lo ≤ s.2.1) (hhi : s.2.1 ≤ hi) (hl : lo < hi) (h64 : hi ≤ 64) (ht : s.2.2.2.1 ≤ 5000) :
    z_sed D lo hi (z_sit D lo hi s (z_sen D lo hi s)) ∧ (∀ j, j < z_sen D lo hi s → ¬ z_sed D lo hi (z_sit D lo hi s j)) ∧ z_sen D lo hi s ≤ 10064 := by
  obtain ⟨h1, h2, h3⟩ := z_fo_spec (b := fun m => z_sed D lo hi (z_sit D lo hi s m)) (n := 20000)
  obtain ⟨⟨i1, i2, i3⟩, i4⟩ := z_sit_inv (D := D) hlo hhi hl ht (m := z_sen D lo hi s) h2
  have hb : z_sen D lo hi s ≤ 10064 := by omega
  exact ⟨h3 (by unfold z_sen at hb; omega), h2, hb⟩
end Sea
