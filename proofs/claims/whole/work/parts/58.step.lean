/-! STEPS: a program comes to its end, whatever is written; what then holds. (written by lay.py) -/
def z_U {α : Type} (o : Option (α × mm_T)) (Q : α → mm_T → Prop) : Prop := ∃ r M, o = some (r, M) ∧ Q r M
noncomputable def z_b (p : Prop) : Int := @ite _ p (Classical.propDecidable p) 1 0
theorem z_bt {p : Prop} (h : p) : z_b p = 1 := by unfold z_b; exact if_pos h
theorem z_bf {p : Prop} (h : ¬ p) : z_b p = 0 := by unfold z_b; exact if_neg h
theorem z_b0 {p : Prop} : z_b p = 0 ↔ ¬ p := ⟨fun h hp => by rw [z_bt hp] at h; exact absurd h (by decide), z_bf⟩
theorem z_b1 {p : Prop} : z_b p = 1 ↔ p := ⟨fun h => Classical.byContradiction fun hp => by rw [z_bf hp] at h; exact absurd h (by decide), z_bt⟩
theorem z_b01 {p : Prop} : z_b p = 0 ∨ z_b p = 1 := by by_cases h : p; exact Or.inr (z_bt h); exact Or.inl (z_bf h)
theorem z_bc {p q : Prop} (h : p ↔ q) : z_b p = z_b q := by rw [propext h]
section Steps
variable {α β γ : Type} {c : z_C} {T : z_Ty} {I : z_Is} {J : z_Js} {R : z_Rs} {Q : α → mm_T → Prop}
theorem z_WU {P : α → z_Is → Prop} {o : Option (α × mm_T)} (h : z_U o (fun r M => ∃ I', M = (c, T, I', J, R) ∧ P r I')) : z_W c T J R o P := by
  obtain ⟨r, M, h1, I', rfl, h2⟩ := h
  exact ⟨r, I', h1, h2⟩
theorem z_UW {P : α → z_Is → Prop} {o : Option (α × mm_T)} (h : z_W c T J R o P) : z_U o (fun r M => ∃ I', M = (c, T, I', J, R) ∧ P r I') := by
  obtain ⟨r, I', h1, h2⟩ := h
  exact ⟨r, _, h1, I', rfl, h2⟩
theorem z_Uq {o : Option (α × mm_T)} {x : α} {M : mm_T} (h : z_U o (fun r M' => r = x ∧ M' = M)) : o = some (x, M) := by
  obtain ⟨r, M', h1, rfl, rfl⟩ := h
  exact h1
theorem z_qU {o : Option (α × mm_T)} {x : α} {M : mm_T} (h : o = some (x, M)) (g : Q x M) : z_U o Q := ⟨x, M, h, g⟩
theorem z_Ui {Q1 : α → mm_T → Prop} {o : Option (α × mm_T)} (h : z_U o Q1) (k : ∀ r M, Q1 r M → Q r M) : z_U o Q := by
  obtain ⟨r, M, h1, h2⟩ := h
  exact ⟨r, M, h1, k r M h2⟩
theorem z_u_r {r : α} {M : mm_T} (h : Q r M) : z_U (some (r, M)) Q := ⟨r, M, rfl, h⟩
theorem z_u_c {Q1 : γ → mm_T → Prop} {o : Option (γ × mm_T)} {f : γ → mm_T → Option (α × mm_T)} (h : z_U o Q1) (k : ∀ r M, Q1 r M → z_U (f r M) Q) : z_U (cl_ o f) Q := by
  obtain ⟨r, M, rfl, h2⟩ := h
  exact k r M h2
theorem z_u_w {P1 : γ → z_Is → Prop} {o : Option (γ × mm_T)} {f : γ → mm_T → Option (α × mm_T)} (h : z_W c T J R o P1) (k : ∀ r I', P1 r I' → z_U (f r (c, T, I', J, R)) Q) : z_U (cl_ o f) Q := by
  obtain ⟨r, I', rfl, h2⟩ := h
  exact k r I' h2
theorem z_u_e {o : Option (γ × mm_T)} {x : γ} {M : mm_T} {f : γ → mm_T → Option (α × mm_T)} (h : o = some (x, M)) (k : z_U (f x M) Q) : z_U (cl_ o f) Q := by
  subst h
  exact k
theorem z_u_x {Q1 : Nat ⊕ γ → mm_T → Prop} {o : Option ((Nat ⊕ γ) × mm_T)} {fe : Nat → mm_T → Option (α × mm_T)} {f : γ → mm_T → Option (α × mm_T)} (h : z_U o Q1)
    (k1 : ∀ e M, Q1 (.inl e) M → z_U (fe e M) Q) (k2 : ∀ r M, Q1 (.inr r) M → z_U (f r M) Q) : z_U (cx_ o fe f) Q := by
  obtain ⟨r, M, rfl, h2⟩ := h
  cases r with
  | inl e => exact k1 e M h2
  | inr x => exact k2 x M h2
theorem z_u_xe {o : Option ((Nat ⊕ γ) × mm_T)} {x : γ} {M : mm_T} {fe : Nat → mm_T → Option (α × mm_T)} {f : γ → mm_T → Option (α × mm_T)} (h : o = some (.inr x, M)) (k : z_U (f x M) Q) : z_U (cx_ o fe f) Q := by
  subst h
  exact k
theorem z_u_xl {o : Option ((Nat ⊕ γ) × mm_T)} {e : Nat} {M : mm_T} {fe : Nat → mm_T → Option (α × mm_T)} {f : γ → mm_T → Option (α × mm_T)} (h : o = some (.inl e, M)) (k : z_U (fe e M) Q) : z_U (cx_ o fe f) Q := by
  subst h
  exact k
theorem z_u_th {Q : Nat ⊕ γ → mm_T → Prop} {M : mm_T} {E : Nat} (h : Q (.inl E) (mm_exc M)) : z_U (th_ M E) Q := ⟨_, _, rfl, h⟩
theorem z_u_lt {x : γ} {f : γ → Option (α × mm_T)} (h : z_U (f x) Q) : z_U (lt_ x f) Q := h
theorem z_u_jn {F : Type} {b : F} {u : F → Option (α × mm_T)} (h : z_U (u b) Q) : z_U (jn_ b u) Q := h
theorem z_u_j {F : Type} {b : F} {u : F → Option (α × mm_T)} (S : F → Prop) (h1 : S b) (h2 : ∀ b', S b' → z_U (u b') Q) : z_U (jn_ b u) Q := h2 b h1
theorem z_u_if {p : Prop} {inst : Decidable p} {x y : Option (α × mm_T)} (h1 : p → z_U x Q) (h2 : ¬ p → z_U y Q) : z_U (if p then x else y) Q := by
  by_cases h : p
  · rw [if_pos h]; exact h1 h
  · rw [if_neg h]; exact h2 h
theorem z_u_ni {p : Prop} {inst : Decidable (¬ p)} {x y : Option (α × mm_T)} (h1 : ¬ p → z_U x Q) (h2 : p → z_U y Q) : z_U (if ¬ p then x else y) Q :=
  z_u_if h1 (fun h => h2 (Classical.byContradiction h))
theorem z_u_t {p : Prop} {inst : Decidable p} {x y : Option (α × mm_T)} (h : p) (g : z_U x Q) : z_U (if p then x else y) Q := by rw [if_pos h]; exact g
theorem z_u_f {p : Prop} {inst : Decidable p} {x y : Option (α × mm_T)} (h : ¬ p) (g : z_U y Q) : z_U (if p then x else y) Q := by rw [if_neg h]; exact g
theorem z_u_ib {p : Prop} {inst : Decidable (z_b p = 0)} {x y : Option (α × mm_T)} (h1 : ¬ p → z_U x Q) (h2 : p → z_U y Q) : z_U (if z_b p = 0 then x else y) Q :=
  z_u_if (fun h => h1 (z_b0.mp h)) (fun h => h2 (Classical.byContradiction fun hp => h (z_b0.mpr hp)))
theorem z_u_in {p : Prop} {inst : Decidable (¬ z_b p = 0)} {x y : Option (α × mm_T)} (h1 : p → z_U x Q) (h2 : ¬ p → z_U y Q) : z_U (if ¬ z_b p = 0 then x else y) Q :=
  z_u_if (fun h => h1 (Classical.byContradiction fun hp => h (z_b0.mpr hp))) (fun h => h2 (fun hp => h (fun h0 => z_b0.mp h0 hp)))
theorem z_u_ck {x : Int} {f : Int → Option (α × mm_T)} (h0 : -2147483648 ≤ x) (h1 : x < 2147483648) (h : z_U (f x) Q) : z_U (ck_ x f) Q := by rw [z_ck h0 h1]; exact h
theorem z_u_zb {p : Prop} {f : Option (α × mm_T)} (h : z_U f Q) : z_U (zz_ (z_b p) f) Q := by rw [z_zz z_b01]; exact h
theorem z_u_zz {x : Int} {f : Option (α × mm_T)} (h0 : x = 0 ∨ x = 1) (h : z_U f Q) : z_U (zz_ x f) Q := by rw [z_zz h0]; exact h
theorem z_u_dv {x y : Int} {f : Int → Option (α × mm_T)} (h0 : 0 ≤ x) (h1 : 0 < y) (h : z_U (f (x / y)) Q) : z_U (dv_ x y f) Q := by rw [z_dv h0 h1]; exact h
theorem z_u_rm {x y : Int} {f : Int → Option (α × mm_T)} (h0 : 0 ≤ x) (h1 : 0 < y) (h : z_U (f (x % y)) Q) : z_U (rm_ x y f) Q := by rw [z_rm h0 h1]; exact h
theorem z_u_n0 {x y : Option (α × mm_T)} (h : z_U x Q) : z_U (nn_ 0 x y) Q := h
theorem z_u_nS {a : Nat} {x y : Option (α × mm_T)} (h0 : a ≠ 0) (h : z_U y Q) : z_U (nn_ a x y) Q := by rw [z_nnS h0]; exact h
theorem z_u_ob {a k : Nat} {f : Option (α × mm_T)} (h : z_tk T a = 2 * k + 1) (g : z_U f Q) : z_U (ob_ (c, T, I, J, R) a k f) Q := by rw [z_ob h]; exact g
theorem z_u_gI {a k j : Nat} {v : Int} {f : Int → Option (α × mm_T)} (h : z_tk T a = 2 * k + 1) (hv : I a j = v) (g : z_U (f v) Q) : z_U (gI_ (c, T, I, J, R) a k j f) Q := by rw [z_gI h, hv]; exact g
theorem z_u_gR {a k j r : Nat} {f : Nat → Option (α × mm_T)} (h : z_tk T a = 2 * k + 1) (hr : R a j = r) (g : z_U (f r) Q) : z_U (gR_ (c, T, I, J, R) a k j f) Q := by rw [z_gR h, hr]; exact g
theorem z_u_pI {a k j : Nat} {x : Int} {f : mm_T → Option (α × mm_T)} (h : z_tk T a = 2 * k + 1) (g : z_U (f (c, T, mm_up I a j x, J, R)) Q) : z_U (pI_ (c, T, I, J, R) a k j x f) Q := by rw [z_pI h]; exact g
theorem z_u_pZ {a k j : Nat} {x : Int} {f : mm_T → Option (α × mm_T)} (h : z_tk T a = 2 * k + 1) (hx : x = 0 ∨ x = 1) (g : z_U (f (c, T, mm_up I a j x, J, R)) Q) : z_U (pZ_ (c, T, I, J, R) a k j x f) Q := by rw [z_pZ h hx]; exact g
theorem z_u_pR {a k j x : Nat} {f : mm_T → Option (α × mm_T)} (h : z_tk T a = 2 * k + 1) (g : z_U (f (c, T, I, J, mm_up R a j x)) Q) : z_U (pR_ (c, T, I, J, R) a k j x f) Q := by rw [z_pR h]; exact g
theorem z_u_aI {a t : Nat} {i v : Int} {f : Int → Option (α × mm_T)} (h : z_tk T a = 2 * t) (h0 : 0 ≤ i) (h1 : i < (z_ln T a : Int)) (hv : I a i.toNat = v) (g : z_U (f v) Q) : z_U (aI_ (c, T, I, J, R) a t i f) Q := by rw [z_aI h h0 h1, hv]; exact g
theorem z_u_aJ {a : Nat} {i : Int} {f : Int64 → Option (α × mm_T)} (h : z_tk T a = 6) (h0 : 0 ≤ i) (h1 : i < (z_ln T a : Int)) (g : z_U (f (J a i.toNat)) Q) : z_U (aJ_ (c, T, I, J, R) a i f) Q := by rw [z_aJ h h0 h1]; exact g
theorem z_u_aR {a t r : Nat} {i : Int} {f : Nat → Option (α × mm_T)} (h : z_tk T a = 2 * t) (h0 : 0 ≤ i) (h1 : i < (z_ln T a : Int)) (hr : R a i.toNat = r) (g : z_U (f r) Q) : z_U (aR_ (c, T, I, J, R) a t i f) Q := by rw [z_aR h h0 h1, hr]; exact g
theorem z_u_sI {a : Nat} {i x : Int} {f : mm_T → Option (α × mm_T)} (h : z_tk T a = 0) (h0 : 0 ≤ i) (h1 : i < (z_ln T a : Int)) (g : z_U (f (c, T, mm_up I a i.toNat x, J, R)) Q) : z_U (sI_ (c, T, I, J, R) a i x f) Q := by rw [z_sI h h0 h1]; exact g
theorem z_u_sB {a : Nat} {i x : Int} {f : mm_T → Option (α × mm_T)} (h : z_tk T a = 2) (h0 : 0 ≤ i) (h1 : i < (z_ln T a : Int)) (h2 : -128 ≤ x) (h3 : x < 128) (g : z_U (f (c, T, mm_up I a i.toNat x, J, R)) Q) : z_U (sB_ (c, T, I, J, R) a i x f) Q := by rw [z_sB h h0 h1 h2 h3]; exact g
theorem z_u_sZ {a : Nat} {i x : Int} {f : mm_T → Option (α × mm_T)} (h : z_tk T a = 4) (h0 : 0 ≤ i) (h1 : i < (z_ln T a : Int)) (h2 : x = 0 ∨ x = 1) (g : z_U (f (c, T, mm_up I a i.toNat x, J, R)) Q) : z_U (sZ_ (c, T, I, J, R) a i x f) Q := by rw [z_sZ h h0 h1 h2]; exact g
theorem z_u_sJ {a : Nat} {i : Int} {x : Int64} {f : mm_T → Option (α × mm_T)} (h : z_tk T a = 6) (h0 : 0 ≤ i) (h1 : i < (z_ln T a : Int)) (g : z_U (f (c, T, I, mm_up J a i.toNat x, R)) Q) : z_U (sJ_ (c, T, I, J, R) a i x f) Q := by rw [z_sJ h h0 h1]; exact g
theorem z_u_al {a t : Nat} {n : Int} {f : Int → Option (α × mm_T)} (h : z_tk T a = 2 * t) (h1 : z_ln T a < 2147483648) (hn : (z_ln T a : Int) = n) (g : z_U (f n) Q) : z_U (al_ (c, T, I, J, R) a t f) Q := by rw [z_al h h1, hn]; exact g
theorem z_FU : FU_ = 1000000 := rfl
theorem z_l0 {F : Nat → mm_T → Option (α × mm_T)} (S : Nat → z_Is → Prop) (st : ∀ (d fu : Nat) (I : z_Is), S d I → (∀ (d' : Nat) (I' : z_Is), d' < d → S d' I' → z_U (F fu (c, T, I', J, R)) Q) → z_U (F (fu + 1) (c, T, I, J, R)) Q) :
    ∀ (d : Nat) {fu : Nat} {I : z_Is}, d < fu → S d I → z_U (F fu (c, T, I, J, R)) Q := by
  intro d
  induction d using Nat.strongRecOn with
  | ind d ih =>
    intro fu I hf h
    obtain ⟨fu, rfl⟩ : ∃ k, fu = k + 1 := ⟨fu - 1, by omega⟩
    exact st d fu I h (fun d' I' hd h' => ih d' hd (by omega) h')
theorem z_k0 {F : Nat → mm_T → Option (α × mm_T)} (S : Nat → mm_T → Prop) (st : ∀ (d fu : Nat) (M : mm_T), S d M → (∀ (d' : Nat) (M' : mm_T), d' < d → S d' M' → z_U (F fu M') Q) → z_U (F (fu + 1) M) Q) :
    ∀ (d : Nat) {fu : Nat} {M : mm_T}, d < fu → S d M → z_U (F fu M) Q := by
  intro d
  induction d using Nat.strongRecOn with
  | ind d ih =>
    intro fu M hf h
    obtain ⟨fu, rfl⟩ : ∃ k, fu = k + 1 := ⟨fu - 1, by omega⟩
    exact st d fu M h (fun d' M' hd h' => ih d' hd (by omega) h')
theorem z_f0 {F : Nat → mm_T → Option (α × mm_T)} (S : Nat → z_Is → Prop) (st : ∀ (d fu : Nat) (I : z_Is), S d I → (∀ (d' : Nat) (I' : z_Is), d' < d → S d' I' → z_U (F fu (c, T, I', J, R)) Q) → z_U (F (fu + 1) (c, T, I, J, R)) Q)
    (d : Nat) {I : z_Is} (hd : d < 1000000) (h : S d I) : z_U (F FU_ (c, T, I, J, R)) Q := z_l0 S st d (by unfold FU_; omega) h
theorem z_g0 {F : Nat → mm_T → Option (α × mm_T)} (S : Nat → mm_T → Prop) (st : ∀ (d fu : Nat) (M : mm_T), S d M → (∀ (d' : Nat) (M' : mm_T), d' < d → S d' M' → z_U (F fu M') Q) → z_U (F (fu + 1) M) Q)
    (d : Nat) {M : mm_T} (hd : d < 1000000) (h : S d M) : z_U (F FU_ M) Q := z_k0 S st d (by unfold FU_; omega) h
theorem z_l1 {A0 : Type} {F : Nat → A0 → mm_T → Option (α × mm_T)} (S : Nat → A0 → z_Is → Prop) (st : ∀ (d fu : Nat) (v0 : A0) (I : z_Is), S d v0 I → (∀ (d' : Nat) (v0' : A0) (I' : z_Is), d' < d → S d' v0' I' → z_U (F fu v0' (c, T, I', J, R)) Q) → z_U (F (fu + 1) v0 (c, T, I, J, R)) Q) :
    ∀ (d : Nat) {fu : Nat} {v0 : A0} {I : z_Is}, d < fu → S d v0 I → z_U (F fu v0 (c, T, I, J, R)) Q := by
  intro d
  induction d using Nat.strongRecOn with
  | ind d ih =>
    intro fu v0 I hf h
    obtain ⟨fu, rfl⟩ : ∃ k, fu = k + 1 := ⟨fu - 1, by omega⟩
    exact st d fu v0 I h (fun d' v0' I' hd h' => ih d' hd (by omega) h')
theorem z_k1 {A0 : Type} {F : Nat → A0 → mm_T → Option (α × mm_T)} (S : Nat → A0 → mm_T → Prop) (st : ∀ (d fu : Nat) (v0 : A0) (M : mm_T), S d v0 M → (∀ (d' : Nat) (v0' : A0) (M' : mm_T), d' < d → S d' v0' M' → z_U (F fu v0' M') Q) → z_U (F (fu + 1) v0 M) Q) :
    ∀ (d : Nat) {fu : Nat} {v0 : A0} {M : mm_T}, d < fu → S d v0 M → z_U (F fu v0 M) Q := by
  intro d
  induction d using Nat.strongRecOn with
  | ind d ih =>
    intro fu v0 M hf h
    obtain ⟨fu, rfl⟩ : ∃ k, fu = k + 1 := ⟨fu - 1, by omega⟩
    exact st d fu v0 M h (fun d' v0' M' hd h' => ih d' hd (by omega) h')
theorem z_f1 {A0 : Type} {F : Nat → A0 → mm_T → Option (α × mm_T)} (S : Nat → A0 → z_Is → Prop) (st : ∀ (d fu : Nat) (v0 : A0) (I : z_Is), S d v0 I → (∀ (d' : Nat) (v0' : A0) (I' : z_Is), d' < d → S d' v0' I' → z_U (F fu v0' (c, T, I', J, R)) Q) → z_U (F (fu + 1) v0 (c, T, I, J, R)) Q)
    (d : Nat) {v0 : A0} {I : z_Is} (hd : d < 1000000) (h : S d v0 I) : z_U (F FU_ v0 (c, T, I, J, R)) Q := z_l1 S st d (by unfold FU_; omega) h
theorem z_g1 {A0 : Type} {F : Nat → A0 → mm_T → Option (α × mm_T)} (S : Nat → A0 → mm_T → Prop) (st : ∀ (d fu : Nat) (v0 : A0) (M : mm_T), S d v0 M → (∀ (d' : Nat) (v0' : A0) (M' : mm_T), d' < d → S d' v0' M' → z_U (F fu v0' M') Q) → z_U (F (fu + 1) v0 M) Q)
    (d : Nat) {v0 : A0} {M : mm_T} (hd : d < 1000000) (h : S d v0 M) : z_U (F FU_ v0 M) Q := z_k1 S st d (by unfold FU_; omega) h
theorem z_l2 {A0 A1 : Type} {F : Nat → A0 → A1 → mm_T → Option (α × mm_T)} (S : Nat → A0 → A1 → z_Is → Prop) (st : ∀ (d fu : Nat) (v0 : A0) (v1 : A1) (I : z_Is), S d v0 v1 I → (∀ (d' : Nat) (v0' : A0) (v1' : A1) (I' : z_Is), d' < d → S d' v0' v1' I' → z_U (F fu v0' v1' (c, T, I', J, R)) Q) → z_U (F (fu + 1) v0 v1 (c, T, I, J, R)) Q) :
    ∀ (d : Nat) {fu : Nat} {v0 : A0} {v1 : A1} {I : z_Is}, d < fu → S d v0 v1 I → z_U (F fu v0 v1 (c, T, I, J, R)) Q := by
  intro d
  induction d using Nat.strongRecOn with
  | ind d ih =>
    intro fu v0 v1 I hf h
    obtain ⟨fu, rfl⟩ : ∃ k, fu = k + 1 := ⟨fu - 1, by omega⟩
    exact st d fu v0 v1 I h (fun d' v0' v1' I' hd h' => ih d' hd (by omega) h')
theorem z_k2 {A0 A1 : Type} {F : Nat → A0 → A1 → mm_T → Option (α × mm_T)} (S : Nat → A0 → A1 → mm_T → Prop) (st : ∀ (d fu : Nat) (v0 : A0) (v1 : A1) (M : mm_T), S d v0 v1 M → (∀ (d' : Nat) (v0' : A0) (v1' : A1) (M' : mm_T), d' < d → S d' v0' v1' M' → z_U (F fu v0' v1' M') Q) → z_U (F (fu + 1) v0 v1 M) Q) :
    ∀ (d : Nat) {fu : Nat} {v0 : A0} {v1 : A1} {M : mm_T}, d < fu → S d v0 v1 M → z_U (F fu v0 v1 M) Q := by
  intro d
  induction d using Nat.strongRecOn with
  | ind d ih =>
    intro fu v0 v1 M hf h
    obtain ⟨fu, rfl⟩ : ∃ k, fu = k + 1 := ⟨fu - 1, by omega⟩
    exact st d fu v0 v1 M h (fun d' v0' v1' M' hd h' => ih d' hd (by omega) h')
theorem z_f2 {A0 A1 : Type} {F : Nat → A0 → A1 → mm_T → Option (α × mm_T)} (S : Nat → A0 → A1 → z_Is → Prop) (st : ∀ (d fu : Nat) (v0 : A0) (v1 : A1) (I : z_Is), S d v0 v1 I → (∀ (d' : Nat) (v0' : A0) (v1' : A1) (I' : z_Is), d' < d → S d' v0' v1' I' → z_U (F fu v0' v1' (c, T, I', J, R)) Q) → z_U (F (fu + 1) v0 v1 (c, T, I, J, R)) Q)
    (d : Nat) {v0 : A0} {v1 : A1} {I : z_Is} (hd : d < 1000000) (h : S d v0 v1 I) : z_U (F FU_ v0 v1 (c, T, I, J, R)) Q := z_l2 S st d (by unfold FU_; omega) h
theorem z_g2 {A0 A1 : Type} {F : Nat → A0 → A1 → mm_T → Option (α × mm_T)} (S : Nat → A0 → A1 → mm_T → Prop) (st : ∀ (d fu : Nat) (v0 : A0) (v1 : A1) (M : mm_T), S d v0 v1 M → (∀ (d' : Nat) (v0' : A0) (v1' : A1) (M' : mm_T), d' < d → S d' v0' v1' M' → z_U (F fu v0' v1' M') Q) → z_U (F (fu + 1) v0 v1 M) Q)
    (d : Nat) {v0 : A0} {v1 : A1} {M : mm_T} (hd : d < 1000000) (h : S d v0 v1 M) : z_U (F FU_ v0 v1 M) Q := z_k2 S st d (by unfold FU_; omega) h
theorem z_l3 {A0 A1 A2 : Type} {F : Nat → A0 → A1 → A2 → mm_T → Option (α × mm_T)} (S : Nat → A0 → A1 → A2 → z_Is → Prop) (st : ∀ (d fu : Nat) (v0 : A0) (v1 : A1) (v2 : A2) (I : z_Is), S d v0 v1 v2 I → (∀ (d' : Nat) (v0' : A0) (v1' : A1) (v2' : A2) (I' : z_Is), d' < d → S d' v0' v1' v2' I' → z_U (F fu v0' v1' v2' (c, T, I', J, R)) Q) → z_U (F (fu + 1) v0 v1 v2 (c, T, I, J, R)) Q) :
    ∀ (d : Nat) {fu : Nat} {v0 : A0} {v1 : A1} {v2 : A2} {I : z_Is}, d < fu → S d v0 v1 v2 I → z_U (F fu v0 v1 v2 (c, T, I, J, R)) Q := by
  intro d
  induction d using Nat.strongRecOn with
  | ind d ih =>
    intro fu v0 v1 v2 I hf h
    obtain ⟨fu, rfl⟩ : ∃ k, fu = k + 1 := ⟨fu - 1, by omega⟩
    exact st d fu v0 v1 v2 I h (fun d' v0' v1' v2' I' hd h' => ih d' hd (by omega) h')
theorem z_k3 {A0 A1 A2 : Type} {F : Nat → A0 → A1 → A2 → mm_T → Option (α × mm_T)} (S : Nat → A0 → A1 → A2 → mm_T → Prop) (st : ∀ (d fu : Nat) (v0 : A0) (v1 : A1) (v2 : A2) (M : mm_T), S d v0 v1 v2 M → (∀ (d' : Nat) (v0' : A0) (v1' : A1) (v2' : A2) (M' : mm_T), d' < d → S d' v0' v1' v2' M' → z_U (F fu v0' v1' v2' M') Q) → z_U (F (fu + 1) v0 v1 v2 M) Q) :
    ∀ (d : Nat) {fu : Nat} {v0 : A0} {v1 : A1} {v2 : A2} {M : mm_T}, d < fu → S d v0 v1 v2 M → z_U (F fu v0 v1 v2 M) Q := by
  intro d
  induction d using Nat.strongRecOn with
  | ind d ih =>
    intro fu v0 v1 v2 M hf h
    obtain ⟨fu, rfl⟩ : ∃ k, fu = k + 1 := ⟨fu - 1, by omega⟩
    exact st d fu v0 v1 v2 M h (fun d' v0' v1' v2' M' hd h' => ih d' hd (by omega) h')
theorem z_f3 {A0 A1 A2 : Type} {F : Nat → A0 → A1 → A2 → mm_T → Option (α × mm_T)} (S : Nat → A0 → A1 → A2 → z_Is → Prop) (st : ∀ (d fu : Nat) (v0 : A0) (v1 : A1) (v2 : A2) (I : z_Is), S d v0 v1 v2 I → (∀ (d' : Nat) (v0' : A0) (v1' : A1) (v2' : A2) (I' : z_Is), d' < d → S d' v0' v1' v2' I' → z_U (F fu v0' v1' v2' (c, T, I', J, R)) Q) → z_U (F (fu + 1) v0 v1 v2 (c, T, I, J, R)) Q)
    (d : Nat) {v0 : A0} {v1 : A1} {v2 : A2} {I : z_Is} (hd : d < 1000000) (h : S d v0 v1 v2 I) : z_U (F FU_ v0 v1 v2 (c, T, I, J, R)) Q := z_l3 S st d (by unfold FU_; omega) h
theorem z_g3 {A0 A1 A2 : Type} {F : Nat → A0 → A1 → A2 → mm_T → Option (α × mm_T)} (S : Nat → A0 → A1 → A2 → mm_T → Prop) (st : ∀ (d fu : Nat) (v0 : A0) (v1 : A1) (v2 : A2) (M : mm_T), S d v0 v1 v2 M → (∀ (d' : Nat) (v0' : A0) (v1' : A1) (v2' : A2) (M' : mm_T), d' < d → S d' v0' v1' v2' M' → z_U (F fu v0' v1' v2' M') Q) → z_U (F (fu + 1) v0 v1 v2 M) Q)
    (d : Nat) {v0 : A0} {v1 : A1} {v2 : A2} {M : mm_T} (hd : d < 1000000) (h : S d v0 v1 v2 M) : z_U (F FU_ v0 v1 v2 M) Q := z_k3 S st d (by unfold FU_; omega) h
theorem z_l4 {A0 A1 A2 A3 : Type} {F : Nat → A0 → A1 → A2 → A3 → mm_T → Option (α × mm_T)} (S : Nat → A0 → A1 → A2 → A3 → z_Is → Prop) (st : ∀ (d fu : Nat) (v0 : A0) (v1 : A1) (v2 : A2) (v3 : A3) (I : z_Is), S d v0 v1 v2 v3 I → (∀ (d' : Nat) (v0' : A0) (v1' : A1) (v2' : A2) (v3' : A3) (I' : z_Is), d' < d → S d' v0' v1' v2' v3' I' → z_U (F fu v0' v1' v2' v3' (c, T, I', J, R)) Q) → z_U (F (fu + 1) v0 v1 v2 v3 (c, T, I, J, R)) Q) :
    ∀ (d : Nat) {fu : Nat} {v0 : A0} {v1 : A1} {v2 : A2} {v3 : A3} {I : z_Is}, d < fu → S d v0 v1 v2 v3 I → z_U (F fu v0 v1 v2 v3 (c, T, I, J, R)) Q := by
  intro d
  induction d using Nat.strongRecOn with
  | ind d ih =>
    intro fu v0 v1 v2 v3 I hf h
    obtain ⟨fu, rfl⟩ : ∃ k, fu = k + 1 := ⟨fu - 1, by omega⟩
    exact st d fu v0 v1 v2 v3 I h (fun d' v0' v1' v2' v3' I' hd h' => ih d' hd (by omega) h')
theorem z_k4 {A0 A1 A2 A3 : Type} {F : Nat → A0 → A1 → A2 → A3 → mm_T → Option (α × mm_T)} (S : Nat → A0 → A1 → A2 → A3 → mm_T → Prop) (st : ∀ (d fu : Nat) (v0 : A0) (v1 : A1) (v2 : A2) (v3 : A3) (M : mm_T), S d v0 v1 v2 v3 M → (∀ (d' : Nat) (v0' : A0) (v1' : A1) (v2' : A2) (v3' : A3) (M' : mm_T), d' < d → S d' v0' v1' v2' v3' M' → z_U (F fu v0' v1' v2' v3' M') Q) → z_U (F (fu + 1) v0 v1 v2 v3 M) Q) :
    ∀ (d : Nat) {fu : Nat} {v0 : A0} {v1 : A1} {v2 : A2} {v3 : A3} {M : mm_T}, d < fu → S d v0 v1 v2 v3 M → z_U (F fu v0 v1 v2 v3 M) Q := by
  intro d
  induction d using Nat.strongRecOn with
  | ind d ih =>
    intro fu v0 v1 v2 v3 M hf h
    obtain ⟨fu, rfl⟩ : ∃ k, fu = k + 1 := ⟨fu - 1, by omega⟩
    exact st d fu v0 v1 v2 v3 M h (fun d' v0' v1' v2' v3' M' hd h' => ih d' hd (by omega) h')
theorem z_f4 {A0 A1 A2 A3 : Type} {F : Nat → A0 → A1 → A2 → A3 → mm_T → Option (α × mm_T)} (S : Nat → A0 → A1 → A2 → A3 → z_Is → Prop) (st : ∀ (d fu : Nat) (v0 : A0) (v1 : A1) (v2 : A2) (v3 : A3) (I : z_Is), S d v0 v1 v2 v3 I → (∀ (d' : Nat) (v0' : A0) (v1' : A1) (v2' : A2) (v3' : A3) (I' : z_Is), d' < d → S d' v0' v1' v2' v3' I' → z_U (F fu v0' v1' v2' v3' (c, T, I', J, R)) Q) → z_U (F (fu + 1) v0 v1 v2 v3 (c, T, I, J, R)) Q)
    (d : Nat) {v0 : A0} {v1 : A1} {v2 : A2} {v3 : A3} {I : z_Is} (hd : d < 1000000) (h : S d v0 v1 v2 v3 I) : z_U (F FU_ v0 v1 v2 v3 (c, T, I, J, R)) Q := z_l4 S st d (by unfold FU_; omega) h
theorem z_g4 {A0 A1 A2 A3 : Type} {F : Nat → A0 → A1 → A2 → A3 → mm_T → Option (α × mm_T)} (S : Nat → A0 → A1 → A2 → A3 → mm_T → Prop) (st : ∀ (d fu : Nat) (v0 : A0) (v1 : A1) (v2 : A2) (v3 : A3) (M : mm_T), S d v0 v1 v2 v3 M → (∀ (d' : Nat) (v0' : A0) (v1' : A1) (v2' : A2) (v3' : A3) (M' : mm_T), d' < d → S d' v0' v1' v2' v3' M' → z_U (F fu v0' v1' v2' v3' M') Q) → z_U (F (fu + 1) v0 v1 v2 v3 M) Q)
    (d : Nat) {v0 : A0} {v1 : A1} {v2 : A2} {v3 : A3} {M : mm_T} (hd : d < 1000000) (h : S d v0 v1 v2 v3 M) : z_U (F FU_ v0 v1 v2 v3 M) Q := z_k4 S st d (by unfold FU_; omega) h
theorem z_l5 {A0 A1 A2 A3 A4 : Type} {F : Nat → A0 → A1 → A2 → A3 → A4 → mm_T → Option (α × mm_T)} (S : Nat → A0 → A1 → A2 → A3 → A4 → z_Is → Prop) (st : ∀ (d fu : Nat) (v0 : A0) (v1 : A1) (v2 : A2) (v3 : A3) (v4 : A4) (I : z_Is), S d v0 v1 v2 v3 v4 I → (∀ (d' : Nat) (v0' : A0) (v1' : A1) (v2' : A2) (v3' : A3) (v4' : A4) (I' : z_Is), d' < d → S d' v0' v1' v2' v3' v4' I' → z_U (F fu v0' v1' v2' v3' v4' (c, T, I', J, R)) Q) → z_U (F (fu + 1) v0 v1 v2 v3 v4 (c, T, I, J, R)) Q) :
    ∀ (d : Nat) {fu : Nat} {v0 : A0} {v1 : A1} {v2 : A2} {v3 : A3} {v4 : A4} {I : z_Is}, d < fu → S d v0 v1 v2 v3 v4 I → z_U (F fu v0 v1 v2 v3 v4 (c, T, I, J, R)) Q := by
  intro d
  induction d using Nat.strongRecOn with
  | ind d ih =>
    intro fu v0 v1 v2 v3 v4 I hf h
    obtain ⟨fu, rfl⟩ : ∃ k, fu = k + 1 := ⟨fu - 1, by omega⟩
    exact st d fu v0 v1 v2 v3 v4 I h (fun d' v0' v1' v2' v3' v4' I' hd h' => ih d' hd (by omega) h')
theorem z_k5 {A0 A1 A2 A3 A4 : Type} {F : Nat → A0 → A1 → A2 → A3 → A4 → mm_T → Option (α × mm_T)} (S : Nat → A0 → A1 → A2 → A3 → A4 → mm_T → Prop) (st : ∀ (d fu : Nat) (v0 : A0) (v1 : A1) (v2 : A2) (v3 : A3) (v4 : A4) (M : mm_T), S d v0 v1 v2 v3 v4 M → (∀ (d' : Nat) (v0' : A0) (v1' : A1) (v2' : A2) (v3' : A3) (v4' : A4) (M' : mm_T), d' < d → S d' v0' v1' v2' v3' v4' M' → z_U (F fu v0' v1' v2' v3' v4' M') Q) → z_U (F (fu + 1) v0 v1 v2 v3 v4 M) Q) :
    ∀ (d : Nat) {fu : Nat} {v0 : A0} {v1 : A1} {v2 : A2} {v3 : A3} {v4 : A4} {M : mm_T}, d < fu → S d v0 v1 v2 v3 v4 M → z_U (F fu v0 v1 v2 v3 v4 M) Q := by
  intro d
  induction d using Nat.strongRecOn with
  | ind d ih =>
    intro fu v0 v1 v2 v3 v4 M hf h
    obtain ⟨fu, rfl⟩ : ∃ k, fu = k + 1 := ⟨fu - 1, by omega⟩
    exact st d fu v0 v1 v2 v3 v4 M h (fun d' v0' v1' v2' v3' v4' M' hd h' => ih d' hd (by omega) h')
theorem z_f5 {A0 A1 A2 A3 A4 : Type} {F : Nat → A0 → A1 → A2 → A3 → A4 → mm_T → Option (α × mm_T)} (S : Nat → A0 → A1 → A2 → A3 → A4 → z_Is → Prop) (st : ∀ (d fu : Nat) (v0 : A0) (v1 : A1) (v2 : A2) (v3 : A3) (v4 : A4) (I : z_Is), S d v0 v1 v2 v3 v4 I → (∀ (d' : Nat) (v0' : A0) (v1' : A1) (v2' : A2) (v3' : A3) (v4' : A4) (I' : z_Is), d' < d → S d' v0' v1' v2' v3' v4' I' → z_U (F fu v0' v1' v2' v3' v4' (c, T, I', J, R)) Q) → z_U (F (fu + 1) v0 v1 v2 v3 v4 (c, T, I, J, R)) Q)
    (d : Nat) {v0 : A0} {v1 : A1} {v2 : A2} {v3 : A3} {v4 : A4} {I : z_Is} (hd : d < 1000000) (h : S d v0 v1 v2 v3 v4 I) : z_U (F FU_ v0 v1 v2 v3 v4 (c, T, I, J, R)) Q := z_l5 S st d (by unfold FU_; omega) h
theorem z_g5 {A0 A1 A2 A3 A4 : Type} {F : Nat → A0 → A1 → A2 → A3 → A4 → mm_T → Option (α × mm_T)} (S : Nat → A0 → A1 → A2 → A3 → A4 → mm_T → Prop) (st : ∀ (d fu : Nat) (v0 : A0) (v1 : A1) (v2 : A2) (v3 : A3) (v4 : A4) (M : mm_T), S d v0 v1 v2 v3 v4 M → (∀ (d' : Nat) (v0' : A0) (v1' : A1) (v2' : A2) (v3' : A3) (v4' : A4) (M' : mm_T), d' < d → S d' v0' v1' v2' v3' v4' M' → z_U (F fu v0' v1' v2' v3' v4' M') Q) → z_U (F (fu + 1) v0 v1 v2 v3 v4 M) Q)
    (d : Nat) {v0 : A0} {v1 : A1} {v2 : A2} {v3 : A3} {v4 : A4} {M : mm_T} (hd : d < 1000000) (h : S d v0 v1 v2 v3 v4 M) : z_U (F FU_ v0 v1 v2 v3 v4 M) Q := z_k5 S st d (by unfold FU_; omega) h
theorem z_l6 {A0 A1 A2 A3 A4 A5 : Type} {F : Nat → A0 → A1 → A2 → A3 → A4 → A5 → mm_T → Option (α × mm_T)} (S : Nat → A0 → A1 → A2 → A3 → A4 → A5 → z_Is → Prop) (st : ∀ (d fu : Nat) (v0 : A0) (v1 : A1) (v2 : A2) (v3 : A3) (v4 : A4) (v5 : A5) (I : z_Is), S d v0 v1 v2 v3 v4 v5 I → (∀ (d' : Nat) (v0' : A0) (v1' : A1) (v2' : A2) (v3' : A3) (v4' : A4) (v5' : A5) (I' : z_Is), d' < d → S d' v0' v1' v2' v3' v4' v5' I' → z_U (F fu v0' v1' v2' v3' v4' v5' (c, T, I', J, R)) Q) → z_U (F (fu + 1) v0 v1 v2 v3 v4 v5 (c, T, I, J, R)) Q) :
    ∀ (d : Nat) {fu : Nat} {v0 : A0} {v1 : A1} {v2 : A2} {v3 : A3} {v4 : A4} {v5 : A5} {I : z_Is}, d < fu → S d v0 v1 v2 v3 v4 v5 I → z_U (F fu v0 v1 v2 v3 v4 v5 (c, T, I, J, R)) Q := by
  intro d
  induction d using Nat.strongRecOn with
  | ind d ih =>
    intro fu v0 v1 v2 v3 v4 v5 I hf h
    obtain ⟨fu, rfl⟩ : ∃ k, fu = k + 1 := ⟨fu - 1, by omega⟩
    exact st d fu v0 v1 v2 v3 v4 v5 I h (fun d' v0' v1' v2' v3' v4' v5' I' hd h' => ih d' hd (by omega) h')
theorem z_k6 {A0 A1 A2 A3 A4 A5 : Type} {F : Nat → A0 → A1 → A2 → A3 → A4 → A5 → mm_T → Option (α × mm_T)} (S : Nat → A0 → A1 → A2 → A3 → A4 → A5 → mm_T → Prop) (st : ∀ (d fu : Nat) (v0 : A0) (v1 : A1) (v2 : A2) (v3 : A3) (v4 : A4) (v5 : A5) (M : mm_T), S d v0 v1 v2 v3 v4 v5 M → (∀ (d' : Nat) (v0' : A0) (v1' : A1) (v2' : A2) (v3' : A3) (v4' : A4) (v5' : A5) (M' : mm_T), d' < d → S d' v0' v1' v2' v3' v4' v5' M' → z_U (F fu v0' v1' v2' v3' v4' v5' M') Q) → z_U (F (fu + 1) v0 v1 v2 v3 v4 v5 M) Q) :
    ∀ (d : Nat) {fu : Nat} {v0 : A0} {v1 : A1} {v2 : A2} {v3 : A3} {v4 : A4} {v5 : A5} {M : mm_T}, d < fu → S d v0 v1 v2 v3 v4 v5 M → z_U (F fu v0 v1 v2 v3 v4 v5 M) Q := by
  intro d
  induction d using Nat.strongRecOn with
  | ind d ih =>
    intro fu v0 v1 v2 v3 v4 v5 M hf h
    obtain ⟨fu, rfl⟩ : ∃ k, fu = k + 1 := ⟨fu - 1, by omega⟩
    exact st d fu v0 v1 v2 v3 v4 v5 M h (fun d' v0' v1' v2' v3' v4' v5' M' hd h' => ih d' hd (by omega) h')
theorem z_f6 {A0 A1 A2 A3 A4 A5 : Type} {F : Nat → A0 → A1 → A2 → A3 → A4 → A5 → mm_T → Option (α × mm_T)} (S : Nat → A0 → A1 → A2 → A3 → A4 → A5 → z_Is → Prop) (st : ∀ (d fu : Nat) (v0 : A0) (v1 : A1) (v2 : A2) (v3 : A3) (v4 : A4) (v5 : A5) (I : z_Is), S d v0 v1 v2 v3 v4 v5 I → (∀ (d' : Nat) (v0' : A0) (v1' : A1) (v2' : A2) (v3' : A3) (v4' : A4) (v5' : A5) (I' : z_Is), d' < d → S d' v0' v1' v2' v3' v4' v5' I' → z_U (F fu v0' v1' v2' v3' v4' v5' (c, T, I', J, R)) Q) → z_U (F (fu + 1) v0 v1 v2 v3 v4 v5 (c, T, I, J, R)) Q)
    (d : Nat) {v0 : A0} {v1 : A1} {v2 : A2} {v3 : A3} {v4 : A4} {v5 : A5} {I : z_Is} (hd : d < 1000000) (h : S d v0 v1 v2 v3 v4 v5 I) : z_U (F FU_ v0 v1 v2 v3 v4 v5 (c, T, I, J, R)) Q := z_l6 S st d (by unfold FU_; omega) h
theorem z_g6 {A0 A1 A2 A3 A4 A5 : Type} {F : Nat → A0 → A1 → A2 → A3 → A4 → A5 → mm_T → Option (α × mm_T)} (S : Nat → A0 → A1 → A2 → A3 → A4 → A5 → mm_T → Prop) (st : ∀ (d fu : Nat) (v0 : A0) (v1 : A1) (v2 : A2) (v3 : A3) (v4 : A4) (v5 : A5) (M : mm_T), S d v0 v1 v2 v3 v4 v5 M → (∀ (d' : Nat) (v0' : A0) (v1' : A1) (v2' : A2) (v3' : A3) (v4' : A4) (v5' : A5) (M' : mm_T), d' < d → S d' v0' v1' v2' v3' v4' v5' M' → z_U (F fu v0' v1' v2' v3' v4' v5' M') Q) → z_U (F (fu + 1) v0 v1 v2 v3 v4 v5 M) Q)
    (d : Nat) {v0 : A0} {v1 : A1} {v2 : A2} {v3 : A3} {v4 : A4} {v5 : A5} {M : mm_T} (hd : d < 1000000) (h : S d v0 v1 v2 v3 v4 v5 M) : z_U (F FU_ v0 v1 v2 v3 v4 v5 M) Q := z_k6 S st d (by unfold FU_; omega) h
end Steps
/-! THE MODEL: at 379 -/
def z_ML (T : z_Ty) (R : z_Rs) : Prop :=
  z_tk T 379 = 23 ∧ (z_tk T 380 = 2 ∧ z_ln T 380 = 400 ∧ z_tk T 381 = 0 ∧ z_ln T 381 = 5 ∧ z_tk T 382 = 0 ∧ z_ln T 382 = 198 ∧ z_tk T 383 = 0 ∧ z_ln T 383 = 198 ∧ z_tk T 384 = 0 ∧ z_ln T 384 = 64 ∧ z_tk T 385 = 0 ∧ z_ln T 385 = 64 ∧ z_tk T 386 = 0 ∧ z_ln T 386 = 650 ∧ z_tk T 387 = 0 ∧ z_ln T 387 = 3 ∧ z_tk T 388 = 0 ∧ z_ln T 388 = 3 ∧ z_tk T 389 = 0 ∧ z_ln T 389 = 72 ∧ z_tk T 390 = 0 ∧ z_ln T 390 = 384 ∧ z_tk T 391 = 6 ∧ z_ln T 391 = 208 ∧ z_tk T 392 = 6 ∧ z_ln T 392 = 65 ∧ z_tk T 393 = 4 ∧ z_ln T 393 = 24 ∧ z_tk T 394 = 0 ∧ z_ln T 394 = 6) ∧ (R 379 1 = 380 ∧ R 379 3 = 381 ∧ R 379 9 = 382 ∧ R 379 10 = 383 ∧ R 379 12 = 384 ∧ R 379 13 = 385 ∧ R 379 16 = 386 ∧ R 379 17 = 387 ∧ R 379 18 = 388 ∧ R 379 19 = 389 ∧ R 379 26 = 390 ∧ R 379 27 = 391 ∧ R 379 28 = 392 ∧ R 379 29 = 393 ∧ R 379 31 = 394)
section ML
variable {α : Type} {c : z_C} {T : z_Ty} {I : z_Is} {J : z_Js} {R : z_Rs} {Q : α → mm_T → Prop}
theorem z_m_ob (L : z_ML T R) {f : Option (α × mm_T)} (g : z_U f Q) : z_U (ob_ (c, T, I, J, R) 379 11 f) Q := z_u_ob L.1 g
theorem z_m_gI (L : z_ML T R) {j : Nat} {v : Int} {f : Int → Option (α × mm_T)} (hv : I 379 j = v) (g : z_U (f v) Q) : z_U (gI_ (c, T, I, J, R) 379 11 j f) Q := z_u_gI L.1 hv g
theorem z_m_pI (L : z_ML T R) {j : Nat} {x : Int} {f : mm_T → Option (α × mm_T)} (g : z_U (f (c, T, mm_up I 379 j x, J, R)) Q) : z_U (pI_ (c, T, I, J, R) 379 11 j x f) Q := z_u_pI L.1 g
theorem z_m_pZ (L : z_ML T R) {j : Nat} {x : Int} {f : mm_T → Option (α × mm_T)} (hx : x = 0 ∨ x = 1) (g : z_U (f (c, T, mm_up I 379 j x, J, R)) Q) : z_U (pZ_ (c, T, I, J, R) 379 11 j x f) Q := z_u_pZ L.1 hx g
theorem z_mk380 (L : z_ML T R) : z_tk T 380 = 2 := L.2.1.1
theorem z_ml380 (L : z_ML T R) : z_ln T 380 = 400 := L.2.1.2.1
theorem z_m_aI380 (L : z_ML T R) {i v : Int} {f : Int → Option (α × mm_T)} (h0 : 0 ≤ i) (h1 : i < 400) (hv : I 380 i.toNat = v) (g : z_U (f v) Q) : z_U (aI_ (c, T, I, J, R) 380 1 i f) Q := z_u_aI (z_mk380 L) h0 (by rw [z_ml380 L]; exact h1) hv g
theorem z_m_s380 (L : z_ML T R) {i x : Int} {f : mm_T → Option (α × mm_T)} (h0 : 0 ≤ i) (h1 : i < 400) (h2 : -128 ≤ x) (h3 : x < 128) (g : z_U (f (c, T, mm_up I 380 i.toNat x, J, R)) Q) : z_U (sB_ (c, T, I, J, R) 380 i x f) Q := z_u_sB (z_mk380 L) h0 (by rw [z_ml380 L]; exact h1) h2 h3 g
theorem z_mk381 (L : z_ML T R) : z_tk T 381 = 0 := L.2.1.2.2.1
theorem z_ml381 (L : z_ML T R) : z_ln T 381 = 5 := L.2.1.2.2.2.1
theorem z_m_aI381 (L : z_ML T R) {i v : Int} {f : Int → Option (α × mm_T)} (h0 : 0 ≤ i) (h1 : i < 5) (hv : I 381 i.toNat = v) (g : z_U (f v) Q) : z_U (aI_ (c, T, I, J, R) 381 0 i f) Q := z_u_aI (z_mk381 L) h0 (by rw [z_ml381 L]; exact h1) hv g
theorem z_m_s381 (L : z_ML T R) {i x : Int} {f : mm_T → Option (α × mm_T)} (h0 : 0 ≤ i) (h1 : i < 5) (g : z_U (f (c, T, mm_up I 381 i.toNat x, J, R)) Q) : z_U (sI_ (c, T, I, J, R) 381 i x f) Q := z_u_sI (z_mk381 L) h0 (by rw [z_ml381 L]; exact h1) g
theorem z_mk382 (L : z_ML T R) : z_tk T 382 = 0 := L.2.1.2.2.2.2.1
theorem z_ml382 (L : z_ML T R) : z_ln T 382 = 198 := L.2.1.2.2.2.2.2.1
theorem z_m_aI382 (L : z_ML T R) {i v : Int} {f : Int → Option (α × mm_T)} (h0 : 0 ≤ i) (h1 : i < 198) (hv : I 382 i.toNat = v) (g : z_U (f v) Q) : z_U (aI_ (c, T, I, J, R) 382 0 i f) Q := z_u_aI (z_mk382 L) h0 (by rw [z_ml382 L]; exact h1) hv g
theorem z_m_s382 (L : z_ML T R) {i x : Int} {f : mm_T → Option (α × mm_T)} (h0 : 0 ≤ i) (h1 : i < 198) (g : z_U (f (c, T, mm_up I 382 i.toNat x, J, R)) Q) : z_U (sI_ (c, T, I, J, R) 382 i x f) Q := z_u_sI (z_mk382 L) h0 (by rw [z_ml382 L]; exact h1) g
theorem z_mk383 (L : z_ML T R) : z_tk T 383 = 0 := L.2.1.2.2.2.2.2.2.1
theorem z_ml383 (L : z_ML T R) : z_ln T 383 = 198 := L.2.1.2.2.2.2.2.2.2.1
theorem z_m_aI383 (L : z_ML T R) {i v : Int} {f : Int → Option (α × mm_T)} (h0 : 0 ≤ i) (h1 : i < 198) (hv : I 383 i.toNat = v) (g : z_U (f v) Q) : z_U (aI_ (c, T, I, J, R) 383 0 i f) Q := z_u_aI (z_mk383 L) h0 (by rw [z_ml383 L]; exact h1) hv g
theorem z_m_s383 (L : z_ML T R) {i x : Int} {f : mm_T → Option (α × mm_T)} (h0 : 0 ≤ i) (h1 : i < 198) (g : z_U (f (c, T, mm_up I 383 i.toNat x, J, R)) Q) : z_U (sI_ (c, T, I, J, R) 383 i x f) Q := z_u_sI (z_mk383 L) h0 (by rw [z_ml383 L]; exact h1) g
theorem z_mk384 (L : z_ML T R) : z_tk T 384 = 0 := L.2.1.2.2.2.2.2.2.2.2.1
theorem z_ml384 (L : z_ML T R) : z_ln T 384 = 64 := L.2.1.2.2.2.2.2.2.2.2.2.1
theorem z_m_aI384 (L : z_ML T R) {i v : Int} {f : Int → Option (α × mm_T)} (h0 : 0 ≤ i) (h1 : i < 64) (hv : I 384 i.toNat = v) (g : z_U (f v) Q) : z_U (aI_ (c, T, I, J, R) 384 0 i f) Q := z_u_aI (z_mk384 L) h0 (by rw [z_ml384 L]; exact h1) hv g
theorem z_m_s384 (L : z_ML T R) {i x : Int} {f : mm_T → Option (α × mm_T)} (h0 : 0 ≤ i) (h1 : i < 64) (g : z_U (f (c, T, mm_up I 384 i.toNat x, J, R)) Q) : z_U (sI_ (c, T, I, J, R) 384 i x f) Q := z_u_sI (z_mk384 L) h0 (by rw [z_ml384 L]; exact h1) g
theorem z_mk385 (L : z_ML T R) : z_tk T 385 = 0 := L.2.1.2.2.2.2.2.2.2.2.2.2.1
theorem z_ml385 (L : z_ML T R) : z_ln T 385 = 64 := L.2.1.2.2.2.2.2.2.2.2.2.2.2.1
theorem z_m_aI385 (L : z_ML T R) {i v : Int} {f : Int → Option (α × mm_T)} (h0 : 0 ≤ i) (h1 : i < 64) (hv : I 385 i.toNat = v) (g : z_U (f v) Q) : z_U (aI_ (c, T, I, J, R) 385 0 i f) Q := z_u_aI (z_mk385 L) h0 (by rw [z_ml385 L]; exact h1) hv g
theorem z_m_s385 (L : z_ML T R) {i x : Int} {f : mm_T → Option (α × mm_T)} (h0 : 0 ≤ i) (h1 : i < 64) (g : z_U (f (c, T, mm_up I 385 i.toNat x, J, R)) Q) : z_U (sI_ (c, T, I, J, R) 385 i x f) Q := z_u_sI (z_mk385 L) h0 (by rw [z_ml385 L]; exact h1) g
theorem z_mk386 (L : z_ML T R) : z_tk T 386 = 0 := L.2.1.2.2.2.2.2.2.2.2.2.2.2.2.1
theorem z_ml386 (L : z_ML T R) : z_ln T 386 = 650 := L.2.1.2.2.2.2.2.2.2.2.2.2.2.2.2.1
theorem z_m_aI386 (L : z_ML T R) {i v : Int} {f : Int → Option (α × mm_T)} (h0 : 0 ≤ i) (h1 : i < 650) (hv : I 386 i.toNat = v) (g : z_U (f v) Q) : z_U (aI_ (c, T, I, J, R) 386 0 i f) Q := z_u_aI (z_mk386 L) h0 (by rw [z_ml386 L]; exact h1) hv g
theorem z_m_s386 (L : z_ML T R) {i x : Int} {f : mm_T → Option (α × mm_T)} (h0 : 0 ≤ i) (h1 : i < 650) (g : z_U (f (c, T, mm_up I 386 i.toNat x, J, R)) Q) : z_U (sI_ (c, T, I, J, R) 386 i x f) Q := z_u_sI (z_mk386 L) h0 (by rw [z_ml386 L]; exact h1) g
theorem z_mk387 (L : z_ML T R) : z_tk T 387 = 0 := L.2.1.2.2.2.2.2.2.2.2.2.2.2.2.2.2.1
theorem z_ml387 (L : z_ML T R) : z_ln T 387 = 3 := L.2.1.2.2.2.2.2.2.2.2.2.2.2.2.2.2.2.1
theorem z_m_aI387 (L : z_ML T R) {i v : Int} {f : Int → Option (α × mm_T)} (h0 : 0 ≤ i) (h1 : i < 3) (hv : I 387 i.toNat = v) (g : z_U (f v) Q) : z_U (aI_ (c, T, I, J, R) 387 0 i f) Q := z_u_aI (z_mk387 L) h0 (by rw [z_ml387 L]; exact h1) hv g
theorem z_m_s387 (L : z_ML T R) {i x : Int} {f : mm_T → Option (α × mm_T)} (h0 : 0 ≤ i) (h1 : i < 3) (g : z_U (f (c, T, mm_up I 387 i.toNat x, J, R)) Q) : z_U (sI_ (c, T, I, J, R) 387 i x f) Q := z_u_sI (z_mk387 L) h0 (by rw [z_ml387 L]; exact h1) g
theorem z_mk388 (L : z_ML T R) : z_tk T 388 = 0 := L.2.1.2.2.2.2.2.2.2.2.2.2.2.2.2.2.2.2.1
theorem z_ml388 (L : z_ML T R) : z_ln T 388 = 3 := L.2.1.2.2.2.2.2.2.2.2.2.2.2.2.2.2.2.2.2.1
theorem z_m_aI388 (L : z_ML T R) {i v : Int} {f : Int → Option (α × mm_T)} (h0 : 0 ≤ i) (h1 : i < 3) (hv : I 388 i.toNat = v) (g : z_U (f v) Q) : z_U (aI_ (c, T, I, J, R) 388 0 i f) Q := z_u_aI (z_mk388 L) h0 (by rw [z_ml388 L]; exact h1) hv g
theorem z_m_s388 (L : z_ML T R) {i x : Int} {f : mm_T → Option (α × mm_T)} (h0 : 0 ≤ i) (h1 : i < 3) (g : z_U (f (c, T, mm_up I 388 i.toNat x, J, R)) Q) : z_U (sI_ (c, T, I, J, R) 388 i x f) Q := z_u_sI (z_mk388 L) h0 (by rw [z_ml388 L]; exact h1) g
theorem z_mk389 (L : z_ML T R) : z_tk T 389 = 0 := L.2.1.2.2.2.2.2.2.2.2.2.2.2.2.2.2.2.2.2.2.1
theorem z_ml389 (L : z_ML T R) : z_ln T 389 = 72 := L.2.1.2.2.2.2.2.2.2.2.2.2.2.2.2.2.2.2.2.2.2.1
theorem z_m_aI389 (L : z_ML T R) {i v : Int} {f : Int → Option (α × mm_T)} (h0 : 0 ≤ i) (h1 : i < 72) (hv : I 389 i.toNat = v) (g : z_U (f v) Q) : z_U (aI_ (c, T, I, J, R) 389 0 i f) Q := z_u_aI (z_mk389 L) h0 (by rw [z_ml389 L]; exact h1) hv g
theorem z_m_s389 (L : z_ML T R) {i x : Int} {f : mm_T → Option (α × mm_T)} (h0 : 0 ≤ i) (h1 : i < 72) (g : z_U (f (c, T, mm_up I 389 i.toNat x, J, R)) Q) : z_U (sI_ (c, T, I, J, R) 389 i x f) Q := z_u_sI (z_mk389 L) h0 (by rw [z_ml389 L]; exact h1) g
theorem z_mk390 (L : z_ML T R) : z_tk T 390 = 0 := L.2.1.2.2.2.2.2.2.2.2.2.2.2.2.2.2.2.2.2.2.2.2.1
theorem z_ml390 (L : z_ML T R) : z_ln T 390 = 384 := L.2.1.2.2.2.2.2.2.2.2.2.2.2.2.2.2.2.2.2.2.2.2.2.1
theorem z_m_aI390 (L : z_ML T R) {i v : Int} {f : Int → Option (α × mm_T)} (h0 : 0 ≤ i) (h1 : i < 384) (hv : I 390 i.toNat = v) (g : z_U (f v) Q) : z_U (aI_ (c, T, I, J, R) 390 0 i f) Q := z_u_aI (z_mk390 L) h0 (by rw [z_ml390 L]; exact h1) hv g
theorem z_m_s390 (L : z_ML T R) {i x : Int} {f : mm_T → Option (α × mm_T)} (h0 : 0 ≤ i) (h1 : i < 384) (g : z_U (f (c, T, mm_up I 390 i.toNat x, J, R)) Q) : z_U (sI_ (c, T, I, J, R) 390 i x f) Q := z_u_sI (z_mk390 L) h0 (by rw [z_ml390 L]; exact h1) g
theorem z_mk391 (L : z_ML T R) : z_tk T 391 = 6 := L.2.1.2.2.2.2.2.2.2.2.2.2.2.2.2.2.2.2.2.2.2.2.2.2.1
theorem z_ml391 (L : z_ML T R) : z_ln T 391 = 208 := L.2.1.2.2.2.2.2.2.2.2.2.2.2.2.2.2.2.2.2.2.2.2.2.2.2.1
theorem z_m_aJ391 (L : z_ML T R) {i : Int} {f : Int64 → Option (α × mm_T)} (h0 : 0 ≤ i) (h1 : i < 208) (g : z_U (f (J 391 i.toNat)) Q) : z_U (aJ_ (c, T, I, J, R) 391 i f) Q := z_u_aJ (z_mk391 L) h0 (by rw [z_ml391 L]; exact h1) g
theorem z_m_s391 (L : z_ML T R) {i : Int} {x : Int64} {f : mm_T → Option (α × mm_T)} (h0 : 0 ≤ i) (h1 : i < 208) (g : z_U (f (c, T, I, mm_up J 391 i.toNat x, R)) Q) : z_U (sJ_ (c, T, I, J, R) 391 i x f) Q := z_u_sJ (z_mk391 L) h0 (by rw [z_ml391 L]; exact h1) g
theorem z_mk392 (L : z_ML T R) : z_tk T 392 = 6 := L.2.1.2.2.2.2.2.2.2.2.2.2.2.2.2.2.2.2.2.2.2.2.2.2.2.2.1
theorem z_ml392 (L : z_ML T R) : z_ln T 392 = 65 := L.2.1.2.2.2.2.2.2.2.2.2.2.2.2.2.2.2.2.2.2.2.2.2.2.2.2.2.1
theorem z_m_aJ392 (L : z_ML T R) {i : Int} {f : Int64 → Option (α × mm_T)} (h0 : 0 ≤ i) (h1 : i < 65) (g : z_U (f (J 392 i.toNat)) Q) : z_U (aJ_ (c, T, I, J, R) 392 i f) Q := z_u_aJ (z_mk392 L) h0 (by rw [z_ml392 L]; exact h1) g
theorem z_m_s392 (L : z_ML T R) {i : Int} {x : Int64} {f : mm_T → Option (α × mm_T)} (h0 : 0 ≤ i) (h1 : i < 65) (g : z_U (f (c, T, I, mm_up J 392 i.toNat x, R)) Q) : z_U (sJ_ (c, T, I, J, R) 392 i x f) Q := z_u_sJ (z_mk392 L) h0 (by rw [z_ml392 L]; exact h1) g
theorem z_mk393 (L : z_ML T R) : z_tk T 393 = 4 := L.2.1.2.2.2.2.2.2.2.2.2.2.2.2.2.2.2.2.2.2.2.2.2.2.2.2.2.2.1
theorem z_ml393 (L : z_ML T R) : z_ln T 393 = 24 := L.2.1.2.2.2.2.2.2.2.2.2.2.2.2.2.2.2.2.2.2.2.2.2.2.2.2.2.2.2.1
theorem z_m_aI393 (L : z_ML T R) {i v : Int} {f : Int → Option (α × mm_T)} (h0 : 0 ≤ i) (h1 : i < 24) (hv : I 393 i.toNat = v) (g : z_U (f v) Q) : z_U (aI_ (c, T, I, J, R) 393 2 i f) Q := z_u_aI (z_mk393 L) h0 (by rw [z_ml393 L]; exact h1) hv g
theorem z_m_s393 (L : z_ML T R) {i x : Int} {f : mm_T → Option (α × mm_T)} (h0 : 0 ≤ i) (h1 : i < 24) (h2 : x = 0 ∨ x = 1) (g : z_U (f (c, T, mm_up I 393 i.toNat x, J, R)) Q) : z_U (sZ_ (c, T, I, J, R) 393 i x f) Q := z_u_sZ (z_mk393 L) h0 (by rw [z_ml393 L]; exact h1) h2 g
theorem z_mk394 (L : z_ML T R) : z_tk T 394 = 0 := L.2.1.2.2.2.2.2.2.2.2.2.2.2.2.2.2.2.2.2.2.2.2.2.2.2.2.2.2.2.2.1
theorem z_ml394 (L : z_ML T R) : z_ln T 394 = 6 := L.2.1.2.2.2.2.2.2.2.2.2.2.2.2.2.2.2.2.2.2.2.2.2.2.2.2.2.2.2.2.2
theorem z_m_aI394 (L : z_ML T R) {i v : Int} {f : Int → Option (α × mm_T)} (h0 : 0 ≤ i) (h1 : i < 6) (hv : I 394 i.toNat = v) (g : z_U (f v) Q) : z_U (aI_ (c, T, I, J, R) 394 0 i f) Q := z_u_aI (z_mk394 L) h0 (by rw [z_ml394 L]; exact h1) hv g
theorem z_m_s394 (L : z_ML T R) {i x : Int} {f : mm_T → Option (α × mm_T)} (h0 : 0 ≤ i) (h1 : i < 6) (g : z_U (f (c, T, mm_up I 394 i.toNat x, J, R)) Q) : z_U (sI_ (c, T, I, J, R) 394 i x f) Q := z_u_sI (z_mk394 L) h0 (by rw [z_ml394 L]; exact h1) g
theorem z_mr1 (L : z_ML T R) : R 379 1 = 380 := L.2.2.1
theorem z_m_gR1 (L : z_ML T R) {f : Nat → Option (α × mm_T)} (g : z_U (f 380) Q) : z_U (gR_ (c, T, I, J, R) 379 11 1 f) Q := z_u_gR L.1 (z_mr1 L) g
theorem z_mr3 (L : z_ML T R) : R 379 3 = 381 := L.2.2.2.1
theorem z_m_gR3 (L : z_ML T R) {f : Nat → Option (α × mm_T)} (g : z_U (f 381) Q) : z_U (gR_ (c, T, I, J, R) 379 11 3 f) Q := z_u_gR L.1 (z_mr3 L) g
theorem z_mr9 (L : z_ML T R) : R 379 9 = 382 := L.2.2.2.2.1
theorem z_m_gR9 (L : z_ML T R) {f : Nat → Option (α × mm_T)} (g : z_U (f 382) Q) : z_U (gR_ (c, T, I, J, R) 379 11 9 f) Q := z_u_gR L.1 (z_mr9 L) g
theorem z_mr10 (L : z_ML T R) : R 379 10 = 383 := L.2.2.2.2.2.1
theorem z_m_gR10 (L : z_ML T R) {f : Nat → Option (α × mm_T)} (g : z_U (f 383) Q) : z_U (gR_ (c, T, I, J, R) 379 11 10 f) Q := z_u_gR L.1 (z_mr10 L) g
theorem z_mr12 (L : z_ML T R) : R 379 12 = 384 := L.2.2.2.2.2.2.1
theorem z_m_gR12 (L : z_ML T R) {f : Nat → Option (α × mm_T)} (g : z_U (f 384) Q) : z_U (gR_ (c, T, I, J, R) 379 11 12 f) Q := z_u_gR L.1 (z_mr12 L) g
theorem z_mr13 (L : z_ML T R) : R 379 13 = 385 := L.2.2.2.2.2.2.2.1
theorem z_m_gR13 (L : z_ML T R) {f : Nat → Option (α × mm_T)} (g : z_U (f 385) Q) : z_U (gR_ (c, T, I, J, R) 379 11 13 f) Q := z_u_gR L.1 (z_mr13 L) g
theorem z_mr16 (L : z_ML T R) : R 379 16 = 386 := L.2.2.2.2.2.2.2.2.1
theorem z_m_gR16 (L : z_ML T R) {f : Nat → Option (α × mm_T)} (g : z_U (f 386) Q) : z_U (gR_ (c, T, I, J, R) 379 11 16 f) Q := z_u_gR L.1 (z_mr16 L) g
theorem z_mr17 (L : z_ML T R) : R 379 17 = 387 := L.2.2.2.2.2.2.2.2.2.1
theorem z_m_gR17 (L : z_ML T R) {f : Nat → Option (α × mm_T)} (g : z_U (f 387) Q) : z_U (gR_ (c, T, I, J, R) 379 11 17 f) Q := z_u_gR L.1 (z_mr17 L) g
theorem z_mr18 (L : z_ML T R) : R 379 18 = 388 := L.2.2.2.2.2.2.2.2.2.2.1
theorem z_m_gR18 (L : z_ML T R) {f : Nat → Option (α × mm_T)} (g : z_U (f 388) Q) : z_U (gR_ (c, T, I, J, R) 379 11 18 f) Q := z_u_gR L.1 (z_mr18 L) g
theorem z_mr19 (L : z_ML T R) : R 379 19 = 389 := L.2.2.2.2.2.2.2.2.2.2.2.1
theorem z_m_gR19 (L : z_ML T R) {f : Nat → Option (α × mm_T)} (g : z_U (f 389) Q) : z_U (gR_ (c, T, I, J, R) 379 11 19 f) Q := z_u_gR L.1 (z_mr19 L) g
theorem z_mr26 (L : z_ML T R) : R 379 26 = 390 := L.2.2.2.2.2.2.2.2.2.2.2.2.1
theorem z_m_gR26 (L : z_ML T R) {f : Nat → Option (α × mm_T)} (g : z_U (f 390) Q) : z_U (gR_ (c, T, I, J, R) 379 11 26 f) Q := z_u_gR L.1 (z_mr26 L) g
theorem z_mr27 (L : z_ML T R) : R 379 27 = 391 := L.2.2.2.2.2.2.2.2.2.2.2.2.2.1
theorem z_m_gR27 (L : z_ML T R) {f : Nat → Option (α × mm_T)} (g : z_U (f 391) Q) : z_U (gR_ (c, T, I, J, R) 379 11 27 f) Q := z_u_gR L.1 (z_mr27 L) g
theorem z_mr28 (L : z_ML T R) : R 379 28 = 392 := L.2.2.2.2.2.2.2.2.2.2.2.2.2.2.1
theorem z_m_gR28 (L : z_ML T R) {f : Nat → Option (α × mm_T)} (g : z_U (f 392) Q) : z_U (gR_ (c, T, I, J, R) 379 11 28 f) Q := z_u_gR L.1 (z_mr28 L) g
theorem z_mr29 (L : z_ML T R) : R 379 29 = 393 := L.2.2.2.2.2.2.2.2.2.2.2.2.2.2.2.1
theorem z_m_gR29 (L : z_ML T R) {f : Nat → Option (α × mm_T)} (g : z_U (f 393) Q) : z_U (gR_ (c, T, I, J, R) 379 11 29 f) Q := z_u_gR L.1 (z_mr29 L) g
theorem z_mr31 (L : z_ML T R) : R 379 31 = 394 := L.2.2.2.2.2.2.2.2.2.2.2.2.2.2.2.2
theorem z_m_gR31 (L : z_ML T R) {f : Nat → Option (α × mm_T)} (g : z_U (f 394) Q) : z_U (gR_ (c, T, I, J, R) 379 11 31 f) Q := z_u_gR L.1 (z_mr31 L) g
/-! the model's row of what is told -/
def z_MD (I : z_Is) (D : Nat → Int) : Prop := ∀ k, k < 198 → I 382 k = D k
theorem z_MDi {I : z_Is} {D : Nat → Int} (h : z_MD I D) {i : Int} {k : Nat} (hk : k < 198) (hi : i = (k : Int)) : I 382 i.toNat = D k := by
  rw [show i.toNat = k from by omega]
  exact h k hk
theorem z_MDf {I I' : z_Is} {D : Nat → Int} (h : z_MD I D) (e : I' 382 = I 382) : z_MD I' D := fun k hk => by rw [e]; exact h k hk
theorem z_ix {g : Nat → Int} {i : Int} {k : Nat} (hi : i = (k : Int)) : g i.toNat = g k := by rw [hi]; rfl
end ML
/-! THE CLASS: at 20; what is told at t, the other at s -/
def z_XL (T : z_Ty) (R : z_Rs) (t s : Nat) : Prop :=
  z_tk T 20 = 21 ∧ z_tk T 21 = 9 ∧ z_tk T 22 = 17 ∧ z_tk T 23 = 0 ∧ z_tk T 279 = 11 ∧ z_tk T 351 = 1 ∧ z_tk T 352 = 8 ∧ z_tk T 363 = 0 ∧ z_tk T 364 = 10 ∧ z_tk T 378 = 6 ∧ z_ln T 23 = 400 ∧ z_ln T 352 = 10 ∧ z_ln T 363 = 10 ∧ z_ln T 364 = 13 ∧ z_ln T 378 = 65 ∧ R 20 0 = 21 ∧ R 20 1 = t ∧ R 20 2 = s ∧ R 20 3 = 137 ∧ R 20 4 = 208 ∧ R 20 5 = 279 ∧ R 20 6 = 134 ∧ R 20 7 = 351 ∧ R 20 8 = 364 ∧ R 20 9 = 378 ∧ R 21 0 = 22 ∧ R 22 0 = 23 ∧ R 279 0 = 280 ∧ R 351 0 = 352 ∧ R 351 1 = 363 ∧ ((t = 24 ∧ s = 79) ∨ (t = 79 ∧ s = 24)) ∧ z_TdL T R t ∧ z_TdL T R s ∧ z_SzL T R 134 ∧ z_LnL T R 137 ∧ z_LnL T R 208 ∧ z_LnL T R 280 ∧ (∀ i, i < 10 → R 352 i = 353 + i ∧ z_tk T (353 + i) = 0 ∧ z_ln T (353 + i) = 64) ∧ (∀ i, i < 13 → R 364 i = 365 + i ∧ z_tk T (365 + i) = 6 ∧ z_ln T (365 + i) = 4)
section XL
variable {T : z_Ty} {R : z_Rs} {t s : Nat}
theorem z_xk20 (LX : z_XL T R t s) : z_tk T 20 = 21 := LX.1
theorem z_xk21 (LX : z_XL T R t s) : z_tk T 21 = 9 := LX.2.1
theorem z_xk22 (LX : z_XL T R t s) : z_tk T 22 = 17 := LX.2.2.1
theorem z_xk23 (LX : z_XL T R t s) : z_tk T 23 = 0 := LX.2.2.2.1
theorem z_xk279 (LX : z_XL T R t s) : z_tk T 279 = 11 := LX.2.2.2.2.1
theorem z_xk351 (LX : z_XL T R t s) : z_tk T 351 = 1 := LX.2.2.2.2.2.1
theorem z_xk352 (LX : z_XL T R t s) : z_tk T 352 = 8 := LX.2.2.2.2.2.2.1
theorem z_xk363 (LX : z_XL T R t s) : z_tk T 363 = 0 := LX.2.2.2.2.2.2.2.1
theorem z_xk364 (LX : z_XL T R t s) : z_tk T 364 = 10 := LX.2.2.2.2.2.2.2.2.1
theorem z_xk378 (LX : z_XL T R t s) : z_tk T 378 = 6 := LX.2.2.2.2.2.2.2.2.2.1
theorem z_xl23 (LX : z_XL T R t s) : z_ln T 23 = 400 := LX.2.2.2.2.2.2.2.2.2.2.1
theorem z_xl352 (LX : z_XL T R t s) : z_ln T 352 = 10 := LX.2.2.2.2.2.2.2.2.2.2.2.1
theorem z_xl363 (LX : z_XL T R t s) : z_ln T 363 = 10 := LX.2.2.2.2.2.2.2.2.2.2.2.2.1
theorem z_xl364 (LX : z_XL T R t s) : z_ln T 364 = 13 := LX.2.2.2.2.2.2.2.2.2.2.2.2.2.1
theorem z_xl378 (LX : z_XL T R t s) : z_ln T 378 = 65 := LX.2.2.2.2.2.2.2.2.2.2.2.2.2.2.1
theorem z_xr0 (LX : z_XL T R t s) : R 20 0 = 21 := LX.2.2.2.2.2.2.2.2.2.2.2.2.2.2.2.1
theorem z_xr1 (LX : z_XL T R t s) : R 20 1 = t := LX.2.2.2.2.2.2.2.2.2.2.2.2.2.2.2.2.1
theorem z_xr2 (LX : z_XL T R t s) : R 20 2 = s := LX.2.2.2.2.2.2.2.2.2.2.2.2.2.2.2.2.2.1
theorem z_xr3 (LX : z_XL T R t s) : R 20 3 = 137 := LX.2.2.2.2.2.2.2.2.2.2.2.2.2.2.2.2.2.2.1
theorem z_xr4 (LX : z_XL T R t s) : R 20 4 = 208 := LX.2.2.2.2.2.2.2.2.2.2.2.2.2.2.2.2.2.2.2.1
theorem z_xr5 (LX : z_XL T R t s) : R 20 5 = 279 := LX.2.2.2.2.2.2.2.2.2.2.2.2.2.2.2.2.2.2.2.2.1
theorem z_xr6 (LX : z_XL T R t s) : R 20 6 = 134 := LX.2.2.2.2.2.2.2.2.2.2.2.2.2.2.2.2.2.2.2.2.2.1
theorem z_xr7 (LX : z_XL T R t s) : R 20 7 = 351 := LX.2.2.2.2.2.2.2.2.2.2.2.2.2.2.2.2.2.2.2.2.2.2.1
theorem z_xr8 (LX : z_XL T R t s) : R 20 8 = 364 := LX.2.2.2.2.2.2.2.2.2.2.2.2.2.2.2.2.2.2.2.2.2.2.2.1
theorem z_xr9 (LX : z_XL T R t s) : R 20 9 = 378 := LX.2.2.2.2.2.2.2.2.2.2.2.2.2.2.2.2.2.2.2.2.2.2.2.2.1
theorem z_xrt (LX : z_XL T R t s) : R 21 0 = 22 := LX.2.2.2.2.2.2.2.2.2.2.2.2.2.2.2.2.2.2.2.2.2.2.2.2.2.1
theorem z_xrb (LX : z_XL T R t s) : R 22 0 = 23 := LX.2.2.2.2.2.2.2.2.2.2.2.2.2.2.2.2.2.2.2.2.2.2.2.2.2.2.1
theorem z_xrs (LX : z_XL T R t s) : R 279 0 = 280 := LX.2.2.2.2.2.2.2.2.2.2.2.2.2.2.2.2.2.2.2.2.2.2.2.2.2.2.2.1
theorem z_xra (LX : z_XL T R t s) : R 351 0 = 352 := LX.2.2.2.2.2.2.2.2.2.2.2.2.2.2.2.2.2.2.2.2.2.2.2.2.2.2.2.2.1
theorem z_xrw (LX : z_XL T R t s) : R 351 1 = 363 := LX.2.2.2.2.2.2.2.2.2.2.2.2.2.2.2.2.2.2.2.2.2.2.2.2.2.2.2.2.2.1
theorem z_xts (LX : z_XL T R t s) : ((t = 24 ∧ s = 79) ∨ (t = 79 ∧ s = 24)) := LX.2.2.2.2.2.2.2.2.2.2.2.2.2.2.2.2.2.2.2.2.2.2.2.2.2.2.2.2.2.2.1
theorem z_xLt (LX : z_XL T R t s) : z_TdL T R t := LX.2.2.2.2.2.2.2.2.2.2.2.2.2.2.2.2.2.2.2.2.2.2.2.2.2.2.2.2.2.2.2.1
theorem z_xLs (LX : z_XL T R t s) : z_TdL T R s := LX.2.2.2.2.2.2.2.2.2.2.2.2.2.2.2.2.2.2.2.2.2.2.2.2.2.2.2.2.2.2.2.2.1
theorem z_xLz (LX : z_XL T R t s) : z_SzL T R 134 := LX.2.2.2.2.2.2.2.2.2.2.2.2.2.2.2.2.2.2.2.2.2.2.2.2.2.2.2.2.2.2.2.2.2.1
theorem z_xL137 (LX : z_XL T R t s) : z_LnL T R 137 := LX.2.2.2.2.2.2.2.2.2.2.2.2.2.2.2.2.2.2.2.2.2.2.2.2.2.2.2.2.2.2.2.2.2.2.1
theorem z_xL208 (LX : z_XL T R t s) : z_LnL T R 208 := LX.2.2.2.2.2.2.2.2.2.2.2.2.2.2.2.2.2.2.2.2.2.2.2.2.2.2.2.2.2.2.2.2.2.2.2.1
theorem z_xL280 (LX : z_XL T R t s) : z_LnL T R 280 := LX.2.2.2.2.2.2.2.2.2.2.2.2.2.2.2.2.2.2.2.2.2.2.2.2.2.2.2.2.2.2.2.2.2.2.2.2.1
theorem z_xA (LX : z_XL T R t s) : (∀ i, i < 10 → R 352 i = 353 + i ∧ z_tk T (353 + i) = 0 ∧ z_ln T (353 + i) = 64) := LX.2.2.2.2.2.2.2.2.2.2.2.2.2.2.2.2.2.2.2.2.2.2.2.2.2.2.2.2.2.2.2.2.2.2.2.2.2.1
theorem z_xW (LX : z_XL T R t s) : (∀ i, i < 13 → R 364 i = 365 + i ∧ z_tk T (365 + i) = 6 ∧ z_ln T (365 + i) = 4) := LX.2.2.2.2.2.2.2.2.2.2.2.2.2.2.2.2.2.2.2.2.2.2.2.2.2.2.2.2.2.2.2.2.2.2.2.2.2.2
theorem z_xk137 (LX : z_XL T R t s) : z_tk T 137 = 3 := (z_xL137 LX).1.1
theorem z_xk208 (LX : z_XL T R t s) : z_tk T 208 = 3 := (z_xL208 LX).1.1
theorem z_xk280 (LX : z_XL T R t s) : z_tk T 280 = 3 := (z_xL280 LX).1.1
theorem z_xkt (LX : z_XL T R t s) : z_tk T t = 19 := (z_xLt LX).1.1
theorem z_xks (LX : z_XL T R t s) : z_tk T s = 19 := (z_xLs LX).1.1
theorem z_xk134 (LX : z_XL T R t s) : z_tk T 134 = 15 := (z_xLz LX).1
end XL
/-! what the class remembers is as before -/
def z_Pc (I : z_Is) : Prop := ∃ h N, z_Ln I 208 h N
def z_qx (I I' : z_Is) : Prop := (∀ b, (b < 134 ∨ 351 ≤ b) → I' b = I b) ∧ (∀ f n, z_Ln I 137 f n → z_Ln I' 137 f n) ∧ (z_Pc I → z_Pc I')
/-! what the model remembers is as before -/
def z_qm (I I' : z_Is) : Prop := (∀ b, b < 379 → I' b = I b) ∧ I' 379 2 = I 379 2 ∧ I' 379 8 = I 379 8 ∧ I' 379 14 = I 379 14 ∧ I' 379 15 = I 379 15 ∧ I' 380 = I 380 ∧ I' 382 = I 382 ∧ I' 384 = I 384 ∧ I' 386 = I 386
/-! at most one exception more -/
def z_c1 (c c' : z_C) : Prop := c'.1 = c.1 ∧ c'.2.1 ≤ c.2.1 + 1 ∧ c'.2.2 ≤ c.2.2 + 6
theorem z_c10 {c : z_C} : z_c1 c c := ⟨rfl, by omega, by omega⟩
theorem z_c1e {c : z_C} {T : z_Ty} {I : z_Is} {J : z_Js} {R : z_Rs} : ∃ c', mm_exc (c, T, I, J, R) = (c', T, I, J, R) ∧ z_c1 c c' := ⟨_, rfl, rfl, Nat.le_refl _, Nat.le_refl _⟩
theorem z_qx0 {I : z_Is} : z_qx I I := ⟨fun _ _ => rfl, fun _ _ h => h, fun h => h⟩
theorem z_qxT {I I1 I2 : z_Is} (h1 : z_qx I I1) (h2 : z_qx I1 I2) : z_qx I I2 := ⟨fun b hb => (h2.1 b hb).trans (h1.1 b hb), fun f n h => h2.2.1 f n (h1.2.1 f n h), fun h => h2.2.2 (h1.2.2 h)⟩
theorem z_qxf {I I' : z_Is} {lo hi : Nat} (h : z_fr lo hi I I') (h1 : (134 ≤ lo ∧ hi ≤ 137) ∨ (205 ≤ lo ∧ hi ≤ 208) ∨ (276 ≤ lo ∧ hi ≤ 351)) : z_qx I I' := ⟨fun b hb => h b (by omega), fun f n V => z_Ln_fr V h (by omega), fun ⟨g, N, V⟩ => ⟨g, N, z_Ln_fr V h (by omega)⟩⟩
theorem z_qxp {I I' : z_Is} {lo hi : Nat} (h : z_fr lo hi I I') (h1 : 205 ≤ lo ∧ hi ≤ 351) (p : z_Pc I → z_Pc I') : z_qx I I' := ⟨fun b hb => h b (by omega), fun f n V => z_Ln_fr V h (by omega), p⟩
theorem z_qm0 {I : z_Is} : z_qm I I := ⟨fun _ _ => rfl, rfl, rfl, rfl, rfl, rfl, rfl, rfl, rfl⟩
theorem z_qmT {I I1 I2 : z_Is} (h1 : z_qm I I1) (h2 : z_qm I1 I2) : z_qm I I2 := by
  obtain ⟨a1, a2, a3, a4, a5, a6, a7, a8, a9⟩ := h1
  obtain ⟨b1, b2, b3, b4, b5, b6, b7, b8, b9⟩ := h2
  exact ⟨fun b hb => (b1 b hb).trans (a1 b hb), b2.trans a2, b3.trans a3, b4.trans a4, b5.trans a5, b6.trans a6, b7.trans a7, b8.trans a8, b9.trans a9⟩
theorem z_qmf {I I' : z_Is} {lo hi : Nat} (h : z_fr lo hi I I') (h1 : (387 ≤ lo) ∨ (385 ≤ lo ∧ hi ≤ 386) ∨ (383 ≤ lo ∧ hi ≤ 384) ∨ (381 ≤ lo ∧ hi ≤ 382)) : z_qm I I' :=
  ⟨fun b hb => h b (by omega), by rw [h 379 (by omega)], by rw [h 379 (by omega)], by rw [h 379 (by omega)], by rw [h 379 (by omega)], h 380 (by omega), h 382 (by omega), h 384 (by omega), h 386 (by omega)⟩
theorem z_qmu {I I' : z_Is} {j : Nat} {x : Int} (h : z_qm I I') (h1 : j ≠ 2 ∧ j ≠ 8 ∧ j ≠ 14 ∧ j ≠ 15) : z_qm I (mm_up I' 379 j x) := by
  obtain ⟨a1, a2, a3, a4, a5, a6, a7, a8, a9⟩ := h
  refine ⟨fun b hb => (z_ur (by omega)).trans (a1 b hb), ?_, ?_, ?_, ?_, ?_, ?_, ?_, ?_⟩
  · rw [z_un (by omega)]; exact a2
  · rw [z_un (by omega)]; exact a3
  · rw [z_un (by omega)]; exact a4
  · rw [z_un (by omega)]; exact a5
  · rw [z_ur (by omega)]; exact a6
  · rw [z_ur (by omega)]; exact a7
  · rw [z_ur (by omega)]; exact a8
  · rw [z_ur (by omega)]; exact a9
theorem z_qma {I I' : z_Is} {a j : Nat} {x : Int} (h : z_qm I I') (h1 : a = 381 ∨ a = 383 ∨ a = 385 ∨ 387 ≤ a) : z_qm I (mm_up I' a j x) := by
  obtain ⟨a1, a2, a3, a4, a5, a6, a7, a8, a9⟩ := h
  refine ⟨fun b hb => (z_ur (by omega)).trans (a1 b hb), ?_, ?_, ?_, ?_, ?_, ?_, ?_, ?_⟩
  · rw [z_ur (by omega)]; exact a2
  · rw [z_ur (by omega)]; exact a3
  · rw [z_ur (by omega)]; exact a4
  · rw [z_ur (by omega)]; exact a5
  · rw [z_ur (by omega)]; exact a6
  · rw [z_ur (by omega)]; exact a7
  · rw [z_ur (by omega)]; exact a8
  · rw [z_ur (by omega)]; exact a9
/-! a call of the class that leaves what it remembers: its answer or its exception; a call of the model: its code, its answer -/
def z_Xq {γ : Type} (c : z_C) (T : z_Ty) (I : z_Is) (J : z_Js) (R : z_Rs) (o : Option ((Nat ⊕ γ) × mm_T)) (x : Nat ⊕ γ) : Prop := z_U o (fun r M' => r = x ∧ ∃ c' I', M' = (c', T, I', J, R) ∧ z_c1 c c' ∧ z_qx I I')
def z_Mq {γ : Type} (c : z_C) (T : z_Ty) (I : z_Is) (J : z_Js) (R : z_Rs) (o : Option (γ × mm_T)) (code : Int) (x : γ) : Prop := z_W c T J R o (fun r I' => I' 379 0 = code ∧ (code = 0 → r = x) ∧ z_qm I I')
noncomputable def z_the {γ : Type} [Nonempty γ] (P : γ → Prop) : γ := Classical.epsilon P
theorem z_the_eq {γ : Type} [Nonempty γ] {P : γ → Prop} (hu : ∀ a b, P a → P b → a = b) {r : γ} (h : P r) : r = z_the P := hu _ _ h (Classical.epsilon_spec ⟨r, h⟩)
