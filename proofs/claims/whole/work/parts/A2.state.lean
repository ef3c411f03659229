/-! THE WHOLE STATE: told, word, tape, fault, what can be taken back; a call of the class, a call of the model. -/
abbrev y_Sg : Type := (Nat → Int) × (Nat → Int) × Nat × (Nat → Int) × Nat × Int × (Nat → (Nat → Int) × Nat) × Nat
def y_rx (I : z_Is) (t : Nat) (σ : y_Sg) : Prop := z_RX I t σ.1 σ.2.1 σ.2.2.1 σ.2.2.2.1 σ.2.2.2.2.1 σ.2.2.2.2.2.1 σ.2.2.2.2.2.2.1 σ.2.2.2.2.2.2.2
def y_rm (I : z_Is) (σ : y_Sg) : Prop := z_RM I σ.1 σ.2.1 σ.2.2.1 σ.2.2.2.1 σ.2.2.2.2.1 σ.2.2.2.2.2.1 σ.2.2.2.2.2.2.1 σ.2.2.2.2.2.2.2
def y_wf (σ : y_Sg) : Prop := z_WF σ.1 σ.2.1 σ.2.2.1 σ.2.2.2.1 σ.2.2.2.2.1 σ.2.2.2.2.2.2.1 σ.2.2.2.2.2.2.2
theorem y_Td_c {I I' : z_Is} {t : Nat} {D : Nat → Int} (h : ∀ b, b < 379 → I' b = I b) (ht : t + 55 ≤ 134) (wD : z_Dw D) (V : z_Td I t D) : z_Td I' t D := by
  obtain ⟨⟨a1, a2, a3, a4, a5, a6⟩, b, p⟩ := V
  obtain ⟨-, -, -, -, d4, d5, -, -⟩ := wD
  refine ⟨⟨by rw [h t (by omega)]; exact a1, by rw [h t (by omega)]; exact a2, by rw [h t (by omega)]; exact a3, by rw [h t (by omega)]; exact a4, by rw [h t (by omega)]; exact a5, by rw [h t (by omega)]; exact a6⟩, fun m hm => ?_, fun p' hp => ?_⟩
  · obtain ⟨v1, v2⟩ := b m hm
    refine ⟨v1, fun l hl => ?_⟩
    obtain ⟨q1, q2, q3, q4⟩ := v2 l hl
    exact ⟨by rw [h _ (by omega)]; exact q1, q2, q3, fun k hk => ⟨(q4 k hk).1, by rw [h _ (by omega)]; exact (q4 k hk).2⟩⟩
  · obtain ⟨⟨v1, v2, v3⟩, v4⟩ := p p' hp
    exact ⟨⟨by rw [h _ (by omega)]; exact v1, v2, fun k hk => ⟨(v3 k hk).1, by rw [h _ (by omega)]; exact (v3 k hk).2⟩⟩, by unfold z_Ss; rw [h _ (by omega)]; exact v4⟩
theorem y_rx_c {I I' : z_Is} {t : Nat} {σ : y_Sg} (wD : z_Dw σ.1) (ht : t + 55 ≤ 134) (H : y_rx I t σ) (h : ∀ b, b < 379 → I' b = I b) : y_rx I' t σ := by
  obtain ⟨D, f, n, tb, ts, flt, A, ac⟩ := σ
  obtain ⟨h1, h2, ⟨h3, h3'⟩, h4, ⟨top, g1, g2, g3, g4⟩, hpc, hpn, hpV⟩ := H
  refine ⟨y_Td_c h ht wD h1, z_Ln_al h2 (fun b b1 b2 => h b (by omega)), ⟨by rw [h 22 (by omega)]; exact h3, fun i hi => by rw [h 23 (by omega)]; exact h3' i hi⟩, by rw [h 21 (by omega)]; exact h4, ⟨top, g1, by rw [h 351 (by omega)]; exact g2, by rw [h 351 (by omega)]; exact g3, fun k hk => ?_⟩, hpc, hpn, z_Ln_al hpV (fun b b1 b2 => h b (by omega))⟩
  obtain ⟨e1, e2⟩ := g4 k hk
  exact ⟨by rw [h 363 (by omega)]; exact e1, fun i hi => by rw [h _ (by omega)]; exact e2 i hi⟩
theorem y_rm_c {I I' : z_Is} {σ : y_Sg} (H : y_rm I σ) (h : ∀ b, 379 ≤ b → I' b = I b) : y_rm I' σ := by
  obtain ⟨D, f, n, tb, ts, flt, A, ac⟩ := σ
  exact z_RM_up H (h 382 (by omega)) (h 380 (by omega)) (by rw [h 379 (by omega)]) (by rw [h 379 (by omega)])
    (by obtain ⟨-, ⟨w1, w2, w3⟩, -⟩ := H
        exact ⟨by rw [h 379 (by omega)]; exact w1, w2, fun i hi => by rw [h 384 (by omega)]; exact w3 i hi⟩)
    (by obtain ⟨-, -, -, -, w1, w2⟩ := H
        refine ⟨by rw [h 379 (by omega)]; exact w1, fun k hk => ?_⟩
        rw [h 386 (by omega)]
        exact w2 k hk)
theorem y_ML_c {T : z_Ty} {R R' : z_Rs} (L : z_ML T R) (e : R' 379 = R 379) : z_ML T R' := ⟨L.1, L.2.1, by rw [e]; exact L.2.2⟩
/-! a call of the class: its answer, what is remembered then -/
def y_XX {γ : Type} (c : z_C) (T : z_Ty) (I : z_Is) (R : z_Rs) (J : z_Js) (o : Option (γ × mm_T)) (x : γ) (σ : y_Sg) : Prop := z_U o (fun r M' => r = x ∧ ∃ c' I' J' R' t' s', M' = (c', T, I', J', R') ∧ z_c1 c c' ∧ z_XL T R' t' s' ∧ R' 379 = R 379 ∧ (∀ b, 379 ≤ b → I' b = I b) ∧ y_rx I' t' σ)
/-! a call of the model: its code, its answer, what is remembered then -/
def y_MM {γ : Type} (c : z_C) (T : z_Ty) (I : z_Is) (R : z_Rs) (J : z_Js) (o : Option (γ × mm_T)) (code : Int) (x : γ) (σ : y_Sg) : Prop := z_U o (fun r M' => ∃ I' J', M' = (c, T, I', J', R) ∧ I' 379 0 = code ∧ (code = 0 → r = x) ∧ (∀ b, b < 379 → I' b = I b) ∧ J' 395 = J 395 ∧ y_rm I' σ)
section Conv
variable {γ : Type} {c : z_C} {T : z_Ty} {I : z_Is} {J : z_Js} {R : z_Rs} {t s : Nat} {σ σ' : y_Sg}
theorem y_XX_e {o : Option (γ × mm_T)} {x : γ} (LX : z_XL T R t s) (H : y_rx I t σ) (h : o = some (x, (c, T, I, J, R))) : y_XX c T I R J o x σ :=
  ⟨x, _, h, rfl, c, I, J, R, t, s, rfl, z_c10, LX, rfl, fun _ _ => rfl, H⟩
theorem y_XX_w {o : Option (γ × mm_T)} {x : γ} (LX : z_XL T R t s) (wD : z_Dw σ.1) (H : y_rx I t σ) (h : z_W c T J R o (fun r I' => r = x ∧ z_qx I I')) : y_XX c T I R J o x σ := by
  obtain ⟨r, I', e, rfl, q⟩ := h
  exact ⟨_, _, e, rfl, c, I', J, R, t, s, rfl, z_c10, LX, rfl, fun b hb => q.1 b (by omega), z_RX_q wD (z_xlt LX).1 H q⟩
theorem y_XX_W {P : z_Is → Prop} {o : Option (γ × mm_T)} {x : γ} (LX : z_XL T R t s) (hP : ∀ I', P I' → y_rx I' t σ') (h : z_W c T J R o (fun r I' => r = x ∧ (∀ b, 379 ≤ b → I' b = I b) ∧ P I')) : y_XX c T I R J o x σ' := by
  obtain ⟨r, I', e, rfl, q, p⟩ := h
  exact ⟨_, _, e, rfl, c, I', J, R, t, s, rfl, z_c10, LX, rfl, q, hP I' p⟩
theorem y_XX_q {o : Option ((Nat ⊕ γ) × mm_T)} {x : Nat ⊕ γ} (LX : z_XL T R t s) (wD : z_Dw σ.1) (H : y_rx I t σ) (h : z_Xq c T I J R o x) : y_XX c T I R J o x σ := by
  obtain ⟨r, M', e, rfl, c', I', rfl, hc, q⟩ := h
  exact ⟨_, _, e, rfl, c', I', J, R, t, s, rfl, hc, LX, rfl, fun b hb => q.1 b (by omega), z_RX_q wD (z_xlt LX).1 H q⟩
theorem y_XX_s {P : z_Is → Prop} {o : Option ((Nat ⊕ γ) × mm_T)} {x : Nat ⊕ γ} (LX : z_XL T R t s) (hP : ∀ I', P I' → y_rx I' t σ') (h : z_XS c T I J R o x P) : y_XX c T I R J o x σ' := by
  obtain ⟨r, M', e, rfl, c', I', rfl, hc, q, p⟩ := h
  exact ⟨_, _, e, rfl, c', I', J, R, t, s, rfl, hc, LX, rfl, q, hP I' p⟩
theorem y_XX_r {P : z_Is → Prop} {o : Option ((Nat ⊕ γ) × mm_T)} {x : Nat ⊕ γ} (LX : z_XL T R t s) (hP : ∀ I', P I' → y_rx I' t σ') (h : z_XR c T I J R o x P) : y_XX c T I R J o x σ' := by
  obtain ⟨r, M', e, rfl, c', I', R', rfl, hc, qr, q, p⟩ := h
  exact ⟨_, _, e, rfl, c', I', J, R', t, s, rfl, hc, z_XL_q LX qr, qr.1 379 (by omega), q, hP I' p⟩
theorem y_XX_R {P : z_Is → Prop} {o : Option (γ × mm_T)} {x : γ} (LX : z_XL T R t s) (wD : z_Dw σ.1) (H : y_rx I t σ) (hP : ∀ I', P I' → z_qx I I') (h : z_U o (fun r M' => r = x ∧ ∃ I' R', M' = (c, T, I', J, R') ∧ z_qr R R' ∧ P I')) : y_XX c T I R J o x σ := by
  obtain ⟨r, M', e, rfl, I', R', rfl, qr, p⟩ := h
  have q := hP I' p
  exact ⟨_, _, e, rfl, c, I', J, R', t, s, rfl, z_c10, z_XL_q LX qr, qr.1 379 (by omega), fun b hb => q.1 b (by omega), z_RX_q wD (z_xlt LX).1 H q⟩
theorem y_XX_j {o : Option ((Nat ⊕ γ) × mm_T)} {x : Nat ⊕ γ} (LX : z_XL T R t s) (wD : z_Dw σ.1) (H : y_rx I t σ) (h : z_XJ c T I J R o x) : y_XX c T I R J o x σ := by
  obtain ⟨r, M', e, rfl, c', I', J', rfl, hc, q, -⟩ := h
  exact ⟨_, _, e, rfl, c', I', J', R, t, s, rfl, hc, LX, rfl, fun b hb => q.1 b (by omega), z_RX_q wD (z_xlt LX).1 H q⟩
theorem y_MM_q {o : Option (γ × mm_T)} {x : γ} {code : Int} (H : y_rm I σ) (h : z_Mq c T I J R o code x) : y_MM c T I R J o code x σ := by
  obtain ⟨r, I', e, h1, h2, q⟩ := h
  exact ⟨_, _, e, I', J, rfl, h1, h2, q.1, rfl, z_RM_q H q⟩
theorem y_MM_c {P : z_Is → Prop} {o : Option (γ × mm_T)} {x : γ} {code : Int} (hP : ∀ I', P I' → y_rm I' σ') (h : z_MC c T I J R o code x P) : y_MM c T I R J o code x σ' := by
  obtain ⟨r, I', e, h1, h2, q, p⟩ := h
  exact ⟨_, _, e, I', J, rfl, h1, h2, q, rfl, hP I' p⟩
theorem y_MM_j {o : Option (γ × mm_T)} {x : γ} {code : Int} (H : y_rm I σ) (h : z_MJ c T I J R o code x) : y_MM c T I R J o code x σ := by
  obtain ⟨r, M', e, I', J', rfl, h1, h2, q, j⟩ := h
  exact ⟨_, _, e, I', J', rfl, h1, h2, q.1, j 395 (by omega), z_RM_q H q⟩
end Conv
/-! the two sides' cells -/
def y_IV (T : z_Ty) (I : z_Is) (R : z_Rs) (σ : y_Sg) : Prop := ∃ t s, z_XL T R t s ∧ z_ML T R ∧ y_rx I t σ ∧ y_rm I σ ∧ y_wf σ
/-! what a branch of the law does in the end -/
def y_J {α : Type} (T : z_Ty) (c : z_C) (j : mm_T → Option (α × mm_T)) (Q : α → mm_T → Prop) : Prop := ∀ c' I' J' R' σ', z_c1 c c' → y_IV T I' R' σ' → z_U (j (c', T, I', J', R')) Q
def y_tk (T : z_Ty) : Prop := z_tk T 395 = 6 ∧ z_ln T 395 = 1
/-! a call of the class in the law's own hand: its code, what it leaves in the row of one long -/
def y_LX (c : z_C) (T : z_Ty) (I : z_Is) (R : z_Rs) (o : Option (Int × mm_T)) (code : Int) (val : Int64) (σ : y_Sg) : Prop := z_U o (fun r M' => r = code ∧ ∃ c' I' J' R' t' s', M' = (c', T, I', J', R') ∧ z_c1 c c' ∧ z_XL T R' t' s' ∧ R' 379 = R 379 ∧ (∀ b, 379 ≤ b → I' b = I b) ∧ (code = 0 → J' 395 0 = val) ∧ y_rx I' t' σ)
/-! an exception or an answer, and the law's code and long for it -/
def y_hc {γ : Type} (fe : Nat → mm_T → Option (Int × mm_T)) (w : γ → Int64) (x : Nat ⊕ γ) (code : Int) (val : Int64) : Prop :=
  (∀ e, x = .inl e → (∀ M, fe e M = some (code, M)) ∧ code ≠ 0) ∧ (∀ v, x = .inr v → code = 0 ∧ val = w v)
theorem y_hc_l {γ : Type} {fe : Nat → mm_T → Option (Int × mm_T)} {w : γ → Int64} {e : Nat} {code : Int} {val : Int64} (h : ∀ M, fe e M = some (code, M)) (h0 : code ≠ 0) : y_hc fe w (.inl e) code val :=
  ⟨fun e' he => by cases he; exact ⟨h, h0⟩, fun v hv => by cases hv⟩
theorem y_hc_r {γ : Type} {fe : Nat → mm_T → Option (Int × mm_T)} {w : γ → Int64} {v : γ} {val : Int64} (h : val = w v) : y_hc fe w (.inr v) 0 val :=
  ⟨fun e he => (by cases he), fun v' hv => by cases hv; exact ⟨rfl, h⟩⟩
theorem y_hc_i {γ : Type} {fe : Nat → mm_T → Option (Int × mm_T)} {w : γ → Int64} {p : Prop} {inst inst' : Decidable p} {x y : Nat ⊕ γ} {a b : Int} {val : Int64} (h1 : p → y_hc fe w x a val) (h2 : ¬ p → y_hc fe w y b val) : y_hc fe w (@ite _ p inst x y) (@ite _ p inst' a b) val := by
  by_cases h : p
  · rw [if_pos h, if_pos h]; exact h1 h
  · rw [if_neg h, if_neg h]; exact h2 h
section Rules
variable {γ : Type} {c : z_C} {T : z_Ty} {I : z_Is} {J : z_Js} {R : z_Rs} {t s : Nat} {σ σ' : y_Sg} {Q : Int → mm_T → Prop}
theorem y_lx {fe : Nat → mm_T → Option (Int × mm_T)} {w : γ → Int64} {oX : Option ((Nat ⊕ γ) × mm_T)} {x : Nat ⊕ γ} {code : Int} {val : Int64} (tk : y_tk T) (LX : z_XL T R t s) (hX : y_XX c T I R J oX x σ') (hc : y_hc fe w x code val) :
    y_LX c T I R (ob_ (c, T, I, J, R) 20 10 (cx_ oX fe fun v M => sJ_ M 395 0 (w v) fun M => some (0, M))) code val σ' := by
  obtain ⟨r, M', rfl, rfl, c', I', J', R', t', s', rfl, h1, h2, h3, h4, h5⟩ := hX
  unfold y_LX
  rw [z_ob (z_xk20 LX)]
  cases r with
  | inl e =>
    obtain ⟨e1, e2⟩ := hc.1 e rfl
    show z_U (fe e _) _
    rw [e1]
    exact z_u_r ⟨rfl, c', I', J', R', t', s', rfl, h1, h2, h3, h4, fun h => absurd h e2, h5⟩
  | inr v =>
    obtain ⟨e1, e2⟩ := hc.2 v rfl
    refine z_u_xe rfl ?_
    refine z_u_sJ tk.1 (by omega) (by rw [tk.2]; omega) ?_
    exact z_u_r ⟨e1.symm, c', I', _, R', t', s', rfl, h1, h2, h3, h4, fun _ => by rw [e2]; exact z_uq, h5⟩
theorem y_lxb {fe : Nat → mm_T → Option (Int × mm_T)} {oX : Option ((Nat ⊕ Int) × mm_T)} {x : Nat ⊕ Int} {code : Int} {val : Int64} (tk : y_tk T) (LX : z_XL T R t s) (hX : y_XX c T I R J oX x σ') (hc : y_hc fe (fun v => if v = 0 then 0 else 1) x code val) :
    y_LX c T I R (ob_ (c, T, I, J, R) 20 10 (cx_ oX fe fun v M => jn_ (fun (a : Nat) (b : Int) (w : Int64) (M : mm_T) => sJ_ M a b w fun M => some (0, M)) fun j => if v = 0 then j 395 0 0 M else j 395 0 1 M)) code val σ' := by
  obtain ⟨r, M', rfl, rfl, c', I', J', R', t', s', rfl, h1, h2, h3, h4, h5⟩ := hX
  unfold y_LX
  rw [z_ob (z_xk20 LX)]
  cases r with
  | inl e =>
    obtain ⟨e1, e2⟩ := hc.1 e rfl
    show z_U (fe e _) _
    rw [e1]
    exact z_u_r ⟨rfl, c', I', J', R', t', s', rfl, h1, h2, h3, h4, fun h => absurd h e2, h5⟩
  | inr v =>
    obtain ⟨e1, e2⟩ := hc.2 v rfl
    refine z_u_xe rfl ?_
    refine z_u_jn ?_
    refine z_u_if (fun hv => ?_) (fun hv => ?_)
    · refine z_u_sJ tk.1 (by omega) (by rw [tk.2]; omega) ?_
      exact z_u_r ⟨e1.symm, c', I', _, R', t', s', rfl, h1, h2, h3, h4, fun _ => by rw [e2]; show _ = if v = 0 then (0 : Int64) else 1; rw [if_pos hv]; exact z_uq, h5⟩
    · refine z_u_sJ tk.1 (by omega) (by rw [tk.2]; omega) ?_
      exact z_u_r ⟨e1.symm, c', I', _, R', t', s', rfl, h1, h2, h3, h4, fun _ => by rw [e2]; show _ = if v = 0 then (0 : Int64) else 1; rw [if_neg hv]; exact z_uq, h5⟩
theorem y_lcm {x : Int64} : lcm_ x x = 0 := by
  unfold lcm_
  rw [if_neg (Int64.lt_irrefl), if_pos rfl]
/-! the same answer -/
theorem y_pl {x : γ} [DecidableEq γ] {oX : Option (γ × mm_T)} {KM : mm_T → Option (γ × mm_T)} {j : mm_T → Option (Int × mm_T)} (LX : z_XL T R t s) (L : z_ML T R) (Hm : y_rm I σ) (W : y_wf σ') (hj : y_J T c j Q)
    (hX : y_XX c T I R J oX x σ') (hM : ∀ c' I' J' R', z_ML T R' → y_rm I' σ → y_MM c' T I' R' J' (KM (c', T, I', J', R')) 0 x σ') :
    z_U (ob_ (c, T, I, J, R) 20 10 (cl_ oX fun c1 M => ob_ M 379 11 (cl_ (KM M) fun c2 M => if c1 = c2 then j M else zz_ 0 (some (0, M))))) Q := by
  obtain ⟨r, M', rfl, rfl, c', I', J', R', t', s', rfl, h1, h2, h3, h4, h5⟩ := hX
  refine z_u_ob (z_xk20 LX) ?_
  have L' := y_ML_c L h3
  refine z_u_c (Q1 := fun r' M => r' = r ∧ M = (c', T, I', J', R')) (z_u_r ⟨rfl, rfl⟩) (fun r' M hh => ?_)
  obtain ⟨rfl, rfl⟩ := hh
  refine z_m_ob L' ?_
  refine z_u_c (hM c' I' J' R' L' (y_rm_c Hm h4)) (fun r2 M2 hh => ?_)
  obtain ⟨I2, J2, rfl, g1, g2, g3, g4, g5⟩ := hh
  refine z_u_t (g2 rfl).symm ?_
  exact hj c' I2 J2 R' σ' h1 ⟨t', s', h2, L', y_rx_c W.1 (z_xlt h2).1 h5 g3, g5, W⟩
/-! the same code, and then the same long -/
theorem y_pw {w : γ → Int64} {x : γ} {code : Int} {val : Int64} {oL : Option (Int × mm_T)} {KM : mm_T → Option (γ × mm_T)} {j : mm_T → Option (Int × mm_T)} (tk : y_tk T) (L : z_ML T R) (Hm : y_rm I σ) (W : y_wf σ') (hj : y_J T c j Q)
    (hX : y_LX c T I R oL code val σ') (hM : ∀ c' I' J' R', z_ML T R' → y_rm I' σ → y_MM c' T I' R' J' (KM (c', T, I', J', R')) code x σ') (hv : val = w x) :
    z_U (cl_ oL fun c1 M => lt_ c1 fun v5 => ob_ M 379 11 (cl_ (KM M) fun c2 M => lt_ c2 fun v6 => ob_ M 379 11 (cl_ (k_M_thrown 379 M) fun c3 M => if c3 = v5 then (jn_ (fun (M : mm_T) => j M) fun j1 => if ¬ v5 = 0 then j1 M else aJ_ M 395 0 fun x => if lcm_ x (w v6) = 0 then j1 M else zz_ 0 (some (0, M))) else zz_ 0 (some (0, M))))) Q := by
  obtain ⟨r, M', rfl, rfl, c', I', J', R', t', s', rfl, h1, h2, h3, h4, h6, h5⟩ := hX
  have L' := y_ML_c L h3
  refine z_u_c (Q1 := fun r' M => r' = r ∧ M = (c', T, I', J', R')) (z_u_r ⟨rfl, rfl⟩) (fun r' M hh => ?_)
  obtain ⟨rfl, rfl⟩ := hh
  refine z_u_lt ?_
  refine z_m_ob L' ?_
  refine z_u_c (hM c' I' J' R' L' (y_rm_c Hm h4)) (fun r2 M2 hh => ?_)
  obtain ⟨I2, J2, rfl, g1, g2, g3, g4, g5⟩ := hh
  have iv : y_IV T I2 R' σ' := ⟨t', s', h2, L', y_rx_c W.1 (z_xlt h2).1 h5 g3, g5, W⟩
  refine z_u_lt ?_
  refine z_m_ob L' ?_
  refine z_u_c (Q1 := fun q M => q = r' ∧ M = (c', T, I2, J2, R')) (by unfold k_M_thrown; exact z_m_gI L' g1 (z_u_r ⟨rfl, rfl⟩)) (fun r3 M3 hh => ?_)
  obtain ⟨rfl, rfl⟩ := hh
  refine z_u_t rfl ?_
  refine z_u_jn ?_
  refine z_u_if (fun _ => hj c' I2 J2 R' σ' h1 iv) (fun h0 => ?_)
  have h00 : r3 = 0 := Classical.byContradiction h0
  refine z_u_aJ tk.1 (by omega) (by rw [tk.2]; omega) ?_
  rw [show J2 395 (Int.toNat 0) = J' 395 0 from by rw [g4]; rfl, h6 h00, hv, g2 h00]
  refine z_u_t y_lcm ?_
  exact hj c' I2 J2 R' σ' h1 iv
/-! the same code, and then the same yes or no -/
theorem y_pb {x : Int} {code : Int} {val : Int64} {oL : Option (Int × mm_T)} {KM : mm_T → Option (Int × mm_T)} {j : mm_T → Option (Int × mm_T)} (tk : y_tk T) (L : z_ML T R) (Hm : y_rm I σ) (W : y_wf σ') (hj : y_J T c j Q)
    (hX : y_LX c T I R oL code val σ') (hM : ∀ c' I' J' R', z_ML T R' → y_rm I' σ → y_MM c' T I' R' J' (KM (c', T, I', J', R')) code x σ') (hv : val = if x = 0 then 0 else 1) :
    z_U (cl_ oL fun c1 M => lt_ c1 fun v5 => ob_ M 379 11 (cl_ (KM M) fun c2 M => lt_ c2 fun v6 => ob_ M 379 11 (cl_ (k_M_thrown 379 M) fun c3 M => if c3 = v5 then (jn_ (fun (M : mm_T) => j M) fun j1 => if ¬ v5 = 0 then j1 M else aJ_ M 395 0 fun x => jn_ (fun (a b : Int64) (M : mm_T) => if lcm_ a b = 0 then j1 M else zz_ 0 (some (0, M))) fun j2 => if v6 = 0 then j2 x 0 M else j2 x 1 M) else zz_ 0 (some (0, M))))) Q := by
  obtain ⟨r, M', rfl, rfl, c', I', J', R', t', s', rfl, h1, h2, h3, h4, h6, h5⟩ := hX
  have L' := y_ML_c L h3
  refine z_u_c (Q1 := fun r' M => r' = r ∧ M = (c', T, I', J', R')) (z_u_r ⟨rfl, rfl⟩) (fun r' M hh => ?_)
  obtain ⟨rfl, rfl⟩ := hh
  refine z_u_lt ?_
  refine z_m_ob L' ?_
  refine z_u_c (hM c' I' J' R' L' (y_rm_c Hm h4)) (fun r2 M2 hh => ?_)
  obtain ⟨I2, J2, rfl, g1, g2, g3, g4, g5⟩ := hh
  have iv : y_IV T I2 R' σ' := ⟨t', s', h2, L', y_rx_c W.1 (z_xlt h2).1 h5 g3, g5, W⟩
  refine z_u_lt ?_
  refine z_m_ob L' ?_
  refine z_u_c (Q1 := fun q M => q = r' ∧ M = (c', T, I2, J2, R')) (by unfold k_M_thrown; exact z_m_gI L' g1 (z_u_r ⟨rfl, rfl⟩)) (fun r3 M3 hh => ?_)
  obtain ⟨rfl, rfl⟩ := hh
  refine z_u_t rfl ?_
  refine z_u_jn ?_
  refine z_u_if (fun _ => hj c' I2 J2 R' σ' h1 iv) (fun h0 => ?_)
  have h00 : r3 = 0 := Classical.byContradiction h0
  refine z_u_aJ tk.1 (by omega) (by rw [tk.2]; omega) ?_
  rw [show J2 395 (Int.toNat 0) = J' 395 0 from by rw [g4]; rfl, h6 h00, hv, ← g2 h00]
  refine z_u_jn ?_
  refine z_u_if (fun hz => ?_) (fun hz => ?_)
  · rw [if_pos hz]
    refine z_u_t y_lcm ?_
    exact hj c' I2 J2 R' σ' h1 iv
  · rw [if_neg hz]
    refine z_u_t y_lcm ?_
    exact hj c' I2 J2 R' σ' h1 iv
end Rules
