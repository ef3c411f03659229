/-! SHORT PLACES: of a pattern that ends at a place, and at none ahead of it, some letters need one LETTER only. -/
def z_prs (f : Nat → Int) (s : Nat → Nat) (P : Nat → Nat) (q at_ : Nat) : Prop :=
  ∀ k k', k < q → k' < q → P k = P k' → ∀ t, t < s (P k) → f (at_ + z_lng P s k + t) = f (at_ + z_lng P s k' + t)
def z_ins (f : Nat → Int) (P : Nat → Nat) (q : Nat) (s : Nat → Nat) (i : Nat) : Prop :=
  (∀ k, k < q → 1 ≤ s (P k)) ∧ z_lng P s q ≤ i + 1 ∧ z_prs f s P q (i + 1 - z_lng P s q)
theorem z_mt_prs {f : Nat → Int} {s P : Nat → Nat} {q a : Nat} : (∃ W, z_mt f s W P q a) ↔ z_prs f s P q a := by
  constructor
  · rintro ⟨W, h⟩ k k' hk hk' e t ht
    rw [h k hk t ht, h k' hk' t (by rw [← e]; exact ht), e]
  · intro h
    refine ⟨fun v t => @dite _ (∃ k, k < q ∧ P k = v) (Classical.propDecidable _) (fun e => f (a + z_lng P s (Classical.choose e) + t)) (fun _ => 0), fun k hk t ht => ?_⟩
    have e : ∃ k', k' < q ∧ P k' = P k := ⟨k, hk, rfl⟩
    have c := Classical.choose_spec e
    dsimp only
    rw [dif_pos e]
    exact h k _ hk c.1 c.2.symm t ht
theorem z_lng_upd {P s : Nat → Nat} {q k x : Nat} (h : z_one P q k) (hk : k < q) : ∀ {m : Nat}, m ≤ q → (m ≤ k → z_lng P (z_upd s (P k) x) m = z_lng P s m) ∧ (k < m → z_lng P (z_upd s (P k) x) m + s (P k) = z_lng P s m + x)
  | 0, _ => ⟨fun _ => rfl, fun h => absurd h (by omega)⟩
  | m + 1, hm => by
    obtain ⟨i1, i2⟩ := z_lng_upd (s := s) (x := x) h hk (m := m) (by omega)
    simp only [z_lng]
    by_cases e : m = k
    · subst e
      have u : z_upd s (P m) x (P m) = x := if_pos rfl
      refine ⟨fun h => absurd h (by omega), fun _ => ?_⟩
      rw [i1 (Nat.le_refl _), u]
      omega
    · have u : z_upd s (P k) x (P m) = s (P m) := if_neg (h m (by omega) e)
      rw [u]
      refine ⟨fun h => by rw [i1 (by omega)], fun h => ?_⟩
      have := i2 (by omega)
      omega
def z_mu (P s : Nat → Nat) : Nat → Nat
  | 0 => 0
  | m + 1 => z_mu P s m + (m + 1) * s (P m)
theorem z_mu_upd {P s : Nat → Nat} {q k x : Nat} (h : z_one P q k) (hk : k < q) : ∀ {m : Nat}, m ≤ q → (m ≤ k → z_mu P (z_upd s (P k) x) m = z_mu P s m) ∧ (k < m → z_mu P (z_upd s (P k) x) m + (k + 1) * s (P k) = z_mu P s m + (k + 1) * x)
  | 0, _ => ⟨fun _ => rfl, fun h => absurd h (by omega)⟩
  | m + 1, hm => by
    obtain ⟨i1, i2⟩ := z_mu_upd (s := s) (x := x) h hk (m := m) (by omega)
    simp only [z_mu]
    by_cases e : m = k
    · subst e
      have u : z_upd s (P m) x (P m) = x := if_pos rfl
      refine ⟨fun h => absurd h (by omega), fun _ => ?_⟩
      rw [i1 (Nat.le_refl _), u]
      omega
    · have u : z_upd s (P k) x (P m) = s (P m) := if_neg (h m (by omega) e)
      rw [u]
      refine ⟨fun h => by rw [i1 (by omega)], fun h => ?_⟩
      have := i2 (by omega)
      omega
/-! a letter that isn't alone keeps its places -/
theorem z_prs_of {f : Nat → Int} {P s s' : Nat → Nat} {q a a' : Nat} (h : z_prs f s P q a) (hs : ∀ k, k < q → ¬ z_one P q k → s' (P k) = s (P k) ∧ a' + z_lng P s' k = a + z_lng P s k) : z_prs f s' P q a' := by
  intro k k' hk hk' e t ht
  by_cases hkk : k = k'
  · rw [hkk]
  · obtain ⟨e1, e2⟩ := hs k hk (fun o => o k' hk' (fun h => hkk h.symm) e.symm)
    obtain ⟨e3, e4⟩ := hs k' hk' (fun o => o k hk hkk e)
    rw [e1] at ht
    rw [e2, e4]
    exact h k k' hk hk' e t ht
theorem z_shorten {f : Nat → Int} {P : Nat → Nat} {q i : Nat} (no : ∀ i', i' < i → ∀ s, ¬ z_ins f P q s i') : ∀ (n : Nat) (s : Nat → Nat), z_mu P s q ≤ n → z_ins f P q s i → ∃ s, z_ins f P q s i ∧ ∀ k, k < q → z_shp P q k → s (P k) = 1 := by
  intro n
  induction n with
  | zero =>
    intro s hn h
    refine ⟨s, h, fun k hk _ => ?_⟩
    have h1 := h.1
    have : ∀ m, m ≤ q → m ≤ z_mu P s m := by
      intro m
      induction m with
      | zero => intro _; exact Nat.le_refl _
      | succ m ih =>
        intro hm
        have a := ih (by omega)
        have b := h1 m (by omega)
        have c : (m + 1) * 1 ≤ (m + 1) * s (P m) := Nat.mul_le_mul_left _ b
        simp only [z_mu]
        omega
    have := this q (Nat.le_refl _)
    omega
  | succ n ih =>
    intro s hn h
    by_cases hall : ∀ k, k < q → z_shp P q k → s (P k) = 1
    · exact ⟨s, h, hall⟩
    obtain ⟨h1, h2, h3⟩ := id h
    have ⟨k, hk, hsh, hne⟩ : ∃ k, k < q ∧ z_shp P q k ∧ s (P k) ≠ 1 := by
      refine Classical.byContradiction (fun hn => hall (fun k hk hs => Classical.byContradiction (fun hne => hn ⟨k, hk, hs, hne⟩)))
    obtain ⟨ho, hc⟩ := hsh
    have hs1 := h1 k hk
    obtain ⟨x, hx⟩ : ∃ x, s (P k) = x + 2 := ⟨s (P k) - 2, by omega⟩
    have L := fun m (hm : m ≤ q) => z_lng_upd (P := P) (s := s) (q := q) (k := k) (x := x + 1) ho hk (m := m) hm
    have M := z_mu_upd (P := P) (s := s) (q := q) (k := k) (x := x + 1) ho hk (m := q) (Nat.le_refl _)
    have Lq := (L q (Nat.le_refl _)).2 hk
    have Mq := M.2 hk
    rw [hx] at Lq Mq
    rw [show (k + 1) * (x + 2) = (k + 1) * (x + 1) + (k + 1) from by rw [show x + 2 = (x + 1) + 1 from rfl, Nat.mul_add, Nat.mul_one]] at Mq
    have le := z_lng_le (P := P) (s := s) hk
    have uo : ∀ j, j < q → j ≠ k → z_upd s (P k) (x + 1) (P j) = s (P j) := fun j hj hne => if_neg (ho j hj hne)
    have uk : z_upd s (P k) (x + 1) (P k) = x + 1 := if_pos rfl
    have g1 : ∀ j, j < q → 1 ≤ z_upd s (P k) (x + 1) (P j) := fun j hj => by
      by_cases e : j = k
      · rw [e, uk]; omega
      · rw [uo j hj e]; exact h1 j hj
    rcases hc with ⟨hk0, hp⟩ | hp | hp
    · -- the letter ahead of it stands alone, too
      have hk1 : k - 1 < q := by omega
      have hkk : k ≠ k - 1 := by omega
      have y : z_upd s (P k) (x + 1) (P (k - 1)) = s (P (k - 1)) := uo (k - 1) hk1 (by omega)
      have L2 := fun m (hm : m ≤ q) => z_lng_upd (P := P) (s := z_upd s (P k) (x + 1)) (q := q) (k := k - 1) (x := s (P (k - 1)) + 1) hp hk1 (m := m) hm
      have M2 := (z_mu_upd (P := P) (s := z_upd s (P k) (x + 1)) (q := q) (k := k - 1) (x := s (P (k - 1)) + 1) hp hk1 (m := q) (Nat.le_refl _)).2 hk1
      have L2q := (L2 q (Nat.le_refl _)).2 hk1
      rw [y] at L2q M2
      rw [show (k - 1 + 1) * (s (P (k - 1)) + 1) = (k - 1 + 1) * s (P (k - 1)) + (k - 1 + 1) from Nat.mul_succ _ _] at M2
      refine ih (z_upd (z_upd s (P k) (x + 1)) (P (k - 1)) (s (P (k - 1)) + 1)) (by omega) ⟨fun j hj => ?_, by omega, z_prs_of h3 (fun j hj hno => ?_)⟩
      · by_cases e : j = k - 1
        · rw [e, show z_upd (z_upd s (P k) (x + 1)) (P (k - 1)) (s (P (k - 1)) + 1) (P (k - 1)) = s (P (k - 1)) + 1 from if_pos rfl]; omega
        · rw [show z_upd (z_upd s (P k) (x + 1)) (P (k - 1)) (s (P (k - 1)) + 1) (P j) = z_upd s (P k) (x + 1) (P j) from if_neg (hp j hj e)]
          exact g1 j hj
      · have e1 : j ≠ k := fun e => hno (e ▸ ho)
        have e2 : j ≠ k - 1 := fun e => hno (e ▸ hp)
        refine ⟨by rw [show z_upd (z_upd s (P k) (x + 1)) (P (k - 1)) (s (P (k - 1)) + 1) (P j) = z_upd s (P k) (x + 1) (P j) from if_neg (hp j hj e2)]; exact uo j hj e1, ?_⟩
        have a1 := L j (by omega)
        have a2 := L2 j (by omega)
        rw [y] at a2
        by_cases c : j < k
        · have b1 := a1.1 (by omega)
          have b2 := a2.1 (by omega)
          omega
        · have b1 := a1.2 (by omega)
          have b2 := a2.2 (by omega)
          omega
    · -- at the pattern's beginning
      refine ih (z_upd s (P k) (x + 1)) (by omega) ⟨g1, by omega, z_prs_of h3 (fun j hj hno => ?_)⟩
      have e1 : k < j := by
        refine Nat.lt_of_not_le (fun hle => hno ?_)
        by_cases e : j = k
        · exact e ▸ ho
        · exact hp j (by omega)
      refine ⟨uo j hj (by omega), ?_⟩
      have a1 := (L j (by omega)).2 e1
      omega
    · -- at its end
      refine absurd ?_ (no (i - 1) (by omega) (z_upd s (P k) (x + 1)))
      refine ⟨g1, by omega, z_prs_of h3 (fun j hj hno => ?_)⟩
      have e1 : j < k := by
        refine Nat.lt_of_not_le (fun hle => hno ?_)
        by_cases e : j = k
        · exact e ▸ ho
        · exact hp j (by omega) hj
      refine ⟨uo j hj (by omega), ?_⟩
      have a1 := (L j (by omega)).1 (by omega)
      omega
theorem z_lys_n {f : Nat → Int} {n n' : Nat} {Q : Nat → Nat} {sh : Nat → Prop} : ∀ {r k : Nat} {y : Int} {ch : Nat → Nat} {e : Nat → Int}, z_lys f n (-1) Q sh r k y ch e ↔ z_lys f n' (-1) Q sh r k y ch e
  | 0, _, _, _, _ => Iff.rfl
  | r + 1, k, y, ch, e => by
    have rr : ∀ y, z_rom (-1) n y = z_rom (-1) n' y := fun y => by simp only [z_rom]; rw [if_neg (by decide), if_neg (by decide)]
    unfold z_lys
    rw [rr]
    refine and_congr (forall_congr' fun _ => exists_congr fun s => and_congr Iff.rfl (and_congr Iff.rfl (and_congr Iff.rfl z_lys_n))) (forall_congr' fun _ => and_congr Iff.rfl (and_congr Iff.rfl z_lys_n))
theorem z_lys_end {f : Nat → Int} {P : Nat → Nat} {q i : Nat} :
    z_lys f (i + 1) (-1) (fun j => P (q - 1 - j)) (fun j => z_shp P q (q - 1 - j)) q 0 (i : Int) (fun _ => 0) (fun _ => -1) ↔ ∃ s, z_ins f P q s i ∧ ∀ k, k < q → z_shp P q k → s (P k) = 1 := by
  have A : ∀ j, 0 ≤ j → j < 0 + q → z_shp P q (q - 1 - j) → (0 : Nat) = 0 ∧ ∀ j', 0 ≤ j' → j' < j → P (q - 1 - j') ≠ P (q - 1 - j) := fun j _ hj h => ⟨rfl, fun j' _ hj' => h.1 (q - 1 - j') (by omega) (by omega)⟩
  rw [z_lys_spr (Q := fun j => P (q - 1 - j)) (sh := fun j => z_shp P q (q - 1 - j)) (ch := fun _ => 0) (r := q) (k := 0) A]
  constructor
  · rintro ⟨s, W, -, h, h1⟩
    obtain ⟨a, b, c⟩ := z_spr_end1 h
    refine ⟨s, ⟨a, b, z_mt_prs.mp ⟨_, c⟩⟩, fun k hk hs => ?_⟩
    have e : q - 1 - (q - 1 - k) = k := by omega
    have h2 : s (P (q - 1 - (q - 1 - k))) = 1 := h1 (q - 1 - k) (by omega) (by omega) (show z_shp P q (q - 1 - (q - 1 - k)) by rw [e]; exact hs)
    rw [e] at h2
    exact h2
  · rintro ⟨s, ⟨a, b, c⟩, h1⟩
    obtain ⟨W, hW⟩ := z_mt_prs.mpr c
    exact ⟨s, _, fun v hv => absurd hv (by omega), z_spr_end2 a b hW, fun j _ hj hs => h1 (q - 1 - j) (by omega) hs⟩
theorem z_lay_ins {f : Nat → Int} {P : Nat → Nat} {q i : Nat} :
    z_lay f (i + 1) (-1) (fun j => P (q - 1 - j)) q 0 (i : Int) (fun _ => 0) (fun _ => -1) ↔ ∃ s, z_ins f P q s i := by
  rw [z_lay_end]
  constructor
  · rintro ⟨s, W, a, b, c⟩
    exact ⟨s, a, b, z_mt_prs.mp ⟨W, c⟩⟩
  · rintro ⟨s, a, b, c⟩
    obtain ⟨W, hW⟩ := z_mt_prs.mpr c
    exact ⟨s, W, a, b, hW⟩
/-! where no words end ahead, those with one letter at each short place are enough -/
theorem z_lys_iff {f : Nat → Int} {P : Nat → Nat} {q n i : Nat} (no : ∀ i', i' < i → ¬ z_lay f (i' + 1) (-1) (fun j => P (q - 1 - j)) q 0 (i' : Int) (fun _ => 0) (fun _ => -1)) :
    z_lys f n (-1) (fun j => P (q - 1 - j)) (fun j => z_shp P q (q - 1 - j)) q 0 (i : Int) (fun _ => 0) (fun _ => -1) ↔ z_lay f (i + 1) (-1) (fun j => P (q - 1 - j)) q 0 (i : Int) (fun _ => 0) (fun _ => -1) := by
  rw [z_lys_n (n' := i + 1)]
  constructor
  · exact z_lys_lay
  · intro h
    obtain ⟨s, hs⟩ := z_lay_ins.mp h
    exact z_lys_end.mpr (z_shorten (fun i' hi s hs => no i' hi (z_lay_ins.mpr ⟨s, hs⟩)) _ s (Nat.le_refl _) hs)
