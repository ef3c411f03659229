/-! THE SMALL PROGRAMS, RUN: a memory is (c, T, I, J, R); kinds as numbers (2k+1 an object of the class k, 2t an array of the kind t). -/
abbrev z_C : Type := Nat × Nat × Nat
abbrev z_Ty : Type := Nat → mm_K
abbrev z_Is : Type := Nat → Nat → Int
abbrev z_Js : Type := Nat → Nat → Int64
abbrev z_Rs : Type := Nat → Nat → Nat
def z_tk (T : z_Ty) (a : Nat) : Nat := match T a with
  | .inl k => 2 * k + 1
  | .inr q => 2 * q.1
def z_ln (T : z_Ty) (a : Nat) : Nat := match T a with
  | .inl _ => 0
  | .inr q => q.2
section Run
variable {β γ : Type} {c : z_C} {T : z_Ty} {I : z_Is} {J : z_Js} {R : z_Rs}
theorem z_obj {a k : Nat} (h : z_tk T a = 2 * k + 1) : T a = .inl k := by
  cases hT : T a with
  | inl q => simp only [z_tk, hT] at h; congr 1; omega
  | inr q => simp only [z_tk, hT] at h; omega
theorem z_arr {a t : Nat} (h : z_tk T a = 2 * t) : T a = .inr (t, z_ln T a) := by
  cases hT : T a with
  | inl q => simp only [z_tk, hT] at h; omega
  | inr q =>
    simp only [z_tk, hT] at h
    have h1 : q.1 = t := by omega
    subst h1
    simp only [z_ln, hT]
theorem z_ob {a k : Nat} {f : Option β} (h : z_tk T a = 2 * k + 1) : ob_ (c, T, I, J, R) a k f = f := by
  simp only [ob_, mm_ty, z_obj h, if_true]
theorem z_gI {a k j : Nat} {f : Int → Option β} (h : z_tk T a = 2 * k + 1) : gI_ (c, T, I, J, R) a k j f = f (I a j) := by
  simp only [gI_, mm_ty, z_obj h, if_true, mm_I]
theorem z_gR {a k j : Nat} {f : Nat → Option β} (h : z_tk T a = 2 * k + 1) : gR_ (c, T, I, J, R) a k j f = f (R a j) := by
  simp only [gR_, mm_ty, z_obj h, if_true, mm_R]
theorem z_pI {a k j : Nat} {x : Int} {f : mm_T → Option β} (h : z_tk T a = 2 * k + 1) : pI_ (c, T, I, J, R) a k j x f = f (c, T, mm_up I a j x, J, R) := by
  simp only [pI_, mm_ty, z_obj h, if_true, mm_wI]
theorem z_pZ {a k j : Nat} {x : Int} {f : mm_T → Option β} (h : z_tk T a = 2 * k + 1) (hx : x = 0 ∨ x = 1) : pZ_ (c, T, I, J, R) a k j x f = f (c, T, mm_up I a j x, J, R) := by
  simp only [pZ_, mm_ty, z_obj h, hx, and_self, if_true, mm_wI]
theorem z_pR {a k j : Nat} {x : Nat} {f : mm_T → Option β} (h : z_tk T a = 2 * k + 1) : pR_ (c, T, I, J, R) a k j x f = f (c, T, I, J, mm_up R a j x) := by
  simp only [pR_, mm_ty, z_obj h, if_true, mm_wR]
theorem z_arB {a t : Nat} {i : Int} (h : z_tk T a = 2 * t) (h0 : 0 ≤ i) (h1 : i < (z_ln T a : Int)) : arB_ (c, T, I, J, R) a t i = true := by
  simp only [arB_, mm_ty, z_arr h, h0, h1, decide_true, Bool.and_self, beq_self_eq_true]
theorem z_aI {a t : Nat} {i : Int} {f : Int → Option β} (h : z_tk T a = 2 * t) (h0 : 0 ≤ i) (h1 : i < (z_ln T a : Int)) : aI_ (c, T, I, J, R) a t i f = f (I a i.toNat) := by
  simp only [aI_, z_arB h h0 h1, if_true, mm_I]
theorem z_aJ {a : Nat} {i : Int} {f : Int64 → Option β} (h : z_tk T a = 6) (h0 : 0 ≤ i) (h1 : i < (z_ln T a : Int)) : aJ_ (c, T, I, J, R) a i f = f (J a i.toNat) := by
  simp only [aJ_, z_arB (t := 3) h h0 h1, if_true, mm_J]
theorem z_aR {a t : Nat} {i : Int} {f : Nat → Option β} (h : z_tk T a = 2 * t) (h0 : 0 ≤ i) (h1 : i < (z_ln T a : Int)) : aR_ (c, T, I, J, R) a t i f = f (R a i.toNat) := by
  simp only [aR_, z_arB h h0 h1, if_true, mm_R]
theorem z_sI {a : Nat} {i x : Int} {f : mm_T → Option β} (h : z_tk T a = 0) (h0 : 0 ≤ i) (h1 : i < (z_ln T a : Int)) : sI_ (c, T, I, J, R) a i x f = f (c, T, mm_up I a i.toNat x, J, R) := by
  simp only [sI_, z_arB (t := 0) h h0 h1, if_true, mm_wI]
theorem z_sB {a : Nat} {i x : Int} {f : mm_T → Option β} (h : z_tk T a = 2) (h0 : 0 ≤ i) (h1 : i < (z_ln T a : Int)) (h2 : -128 ≤ x) (h3 : x < 128) : sB_ (c, T, I, J, R) a i x f = f (c, T, mm_up I a i.toNat x, J, R) := by
  simp only [sB_, z_arB (t := 1) h h0 h1, h2, h3, and_self, if_true, mm_wI]
theorem z_sZ {a : Nat} {i x : Int} {f : mm_T → Option β} (h : z_tk T a = 4) (h0 : 0 ≤ i) (h1 : i < (z_ln T a : Int)) (h2 : x = 0 ∨ x = 1) : sZ_ (c, T, I, J, R) a i x f = f (c, T, mm_up I a i.toNat x, J, R) := by
  simp only [sZ_, z_arB (t := 2) h h0 h1, h2, and_self, if_true, mm_wI]
theorem z_sJ {a : Nat} {i : Int} {x : Int64} {f : mm_T → Option β} (h : z_tk T a = 6) (h0 : 0 ≤ i) (h1 : i < (z_ln T a : Int)) : sJ_ (c, T, I, J, R) a i x f = f (c, T, I, mm_up J a i.toNat x, R) := by
  simp only [sJ_, z_arB (t := 3) h h0 h1, if_true, mm_wJ]
theorem z_sR {a t x k : Nat} {i : Int} {f : mm_T → Option β} (h : z_tk T a = 2 * t) (h0 : 0 ≤ i) (h1 : i < (z_ln T a : Int)) (h2 : z_tk T x = 2 * k + 1) : sR_ (c, T, I, J, R) a t i x k f = f (c, T, I, J, mm_up R a i.toNat x) := by
  simp only [sR_, z_arB h h0 h1, mm_ty, z_obj h2, and_self, if_true, mm_wR]
theorem z_al {a t : Nat} {f : Int → Option β} (h : z_tk T a = 2 * t) (h1 : z_ln T a < 2147483648) : al_ (c, T, I, J, R) a t f = f (z_ln T a : Int) := by
  simp only [al_, mm_ty, z_arr h, h1, and_self, if_true]
theorem z_ck {x : Int} {f : Int → Option β} (h0 : -2147483648 ≤ x) (h1 : x < 2147483648) : ck_ x f = f x := by
  simp only [ck_, h0, h1, and_self, if_true]
theorem z_zz {x : Int} {f : Option β} (h : x = 0 ∨ x = 1) : zz_ x f = f := by simp only [zz_, h, if_true]
theorem z_dv {x y : Int} {f : Int → Option β} (h0 : 0 ≤ x) (h1 : 0 < y) : dv_ x y f = f (x / y) := by simp only [dv_, h0, h1, and_self, if_true]
theorem z_rm {x y : Int} {f : Int → Option β} (h0 : 0 ≤ x) (h1 : 0 < y) : rm_ x y f = f (x % y) := by simp only [rm_, h0, h1, and_self, if_true]
theorem z_nn0 {a : Nat} {x y : Option β} (h : a = 0) : nn_ a x y = x := by simp only [nn_, h, if_true]
theorem z_nnS {a : Nat} {x y : Option β} (h : a ≠ 0) : nn_ a x y = y := by simp only [nn_, h, if_false]
theorem z_cl {r : γ} {M : mm_T} {f : γ → mm_T → Option β} : cl_ (some (r, M)) f = f r M := rfl
theorem z_cxl {e : Nat} {M : mm_T} {fe : Nat → mm_T → Option β} {f : γ → mm_T → Option β} : cx_ (some (.inl e, M)) fe f = fe e M := rfl
theorem z_cxr {r : γ} {M : mm_T} {fe : Nat → mm_T → Option β} {f : γ → mm_T → Option β} : cx_ (some (.inr r, M)) fe f = f r M := rfl
theorem z_lt {x : γ} {f : γ → β} : lt_ x f = f x := rfl
theorem z_jn {F : Type} {b : F} {u : F → β} : jn_ b u = u b := rfl
theorem z_if1 {p : Prop} [Decidable p] {x y : β} (h : p) : (if p then x else y) = x := if_pos h
theorem z_if0 {p : Prop} [Decidable p] {x y : β} (h : ¬ p) : (if p then x else y) = y := if_neg h
theorem z_sl {L : Nat} {xs : Nat → Int} {i : Int} {f : Int → Option β} (h0 : 0 ≤ i) (h1 : i < L) : sl_ L xs i f = f (xs i.toNat) := by simp only [sl_, h0, h1, and_self, if_true]
theorem z_uq {f : Nat → Nat → γ} {a j : Nat} {x : γ} : mm_up f a j x a j = x := by simp only [mm_up, and_self, if_true]
theorem z_un {f : Nat → Nat → γ} {a j b i : Nat} {x : γ} (h : b ≠ a ∨ i ≠ j) : mm_up f a j x b i = f b i := by
  simp only [mm_up]
  refine if_neg ?_
  omega
theorem z_ur {f : Nat → Nat → γ} {a j b : Nat} {x : γ} (h : b ≠ a) : mm_up f a j x b = f b := by
  funext i
  exact z_un (Or.inl h)
end Run
/-- outside of the cells from lo on, ahead of hi, all is as it was -/
def z_fr {γ : Type} (lo hi : Nat) (f g : Nat → Nat → γ) : Prop := ∀ b, (b < lo ∨ hi ≤ b) → g b = f b
theorem z_fr0 {γ : Type} {lo hi : Nat} {f : Nat → Nat → γ} : z_fr lo hi f f := fun _ _ => rfl
theorem z_frT {γ : Type} {lo hi : Nat} {f g h : Nat → Nat → γ} (h1 : z_fr lo hi f g) (h2 : z_fr lo hi g h) : z_fr lo hi f h := fun b hb => (h2 b hb).trans (h1 b hb)
theorem z_frU {γ : Type} {lo hi a j : Nat} {x : γ} {f g : Nat → Nat → γ} (h : z_fr lo hi f g) (h1 : lo ≤ a) (h2 : a < hi) : z_fr lo hi f (mm_up g a j x) := fun b hb => (z_ur (by omega)).trans (h b hb)
theorem z_frW {γ : Type} {lo hi lo' hi' : Nat} {f g : Nat → Nat → γ} (h : z_fr lo hi f g) (h1 : lo' ≤ lo) (h2 : hi ≤ hi') : z_fr lo' hi' f g := fun b hb => h b (by omega)
/-- a program comes to its end, nothing but ints written; what then holds -/
def z_W {α : Type} (c : z_C) (T : z_Ty) (J : z_Js) (R : z_Rs) (o : Option (α × mm_T)) (P : α → z_Is → Prop) : Prop := ∃ r I', o = some (r, (c, T, I', J, R)) ∧ P r I'
section W
variable {α γ : Type} {c : z_C} {T : z_Ty} {I : z_Is} {J : z_Js} {R : z_Rs}
theorem z_Wr {P : α → z_Is → Prop} {r : α} (h : P r I) : z_W c T J R (some (r, (c, T, I, J, R))) P := ⟨r, I, rfl, h⟩
theorem z_Wc {P : α → z_Is → Prop} {P1 : γ → z_Is → Prop} {o : Option (γ × mm_T)} {f : γ → mm_T → Option (α × mm_T)} (h : z_W c T J R o P1)
    (k : ∀ r I', P1 r I' → z_W c T J R (f r (c, T, I', J, R)) P) : z_W c T J R (cl_ o f) P := by
  obtain ⟨r, I', rfl, h2⟩ := h
  exact k r I' h2
theorem z_Wi {P P1 : α → z_Is → Prop} {o : Option (α × mm_T)} (h : z_W c T J R o P1) (k : ∀ r I', P1 r I' → P r I') : z_W c T J R o P := by
  obtain ⟨r, I', h1, h2⟩ := h
  exact ⟨r, I', h1, k r I' h2⟩
end W
