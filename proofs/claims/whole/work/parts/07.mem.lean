/-- what is asked of a class's table -/
theorem vm_cl_ok : ∀ (c : Nat) (q : vw_C), vm_cl[c]? = some q → (∀ v ∈ u_ws q.1 q.2.1 q.2.2, v ∈ gw_G) ∧ ∃ ty : Nat → FieldType, (∀ k, k < q.2.2 → parseFieldDescriptor (q.2.1 k).2.2.1 = some (ty k)) ∧ (∀ a, a < q.2.2 → ∀ b, b < q.2.2 → a ≠ b → (q.2.1 a).2.1 ≠ (q.2.1 b).2.1) := by
  have hg : ∀ q ∈ vm_cl, ∀ v ∈ u_ws q.1 q.2.1 q.2.2, v ∈ gw_G := by decide +kernel
  intro c q hq
  refine ⟨hg q (List.mem_of_getElem? hq), ?_⟩
  match c, hq with
  | 0, hq => cases hq; exact ⟨tyX0, tyX0_ok, nmX0⟩
  | 1, hq => cases hq; exact ⟨tyX1, tyX1_ok, nmX1⟩
  | 2, hq => cases hq; exact ⟨tyX2, tyX2_ok, nmX2⟩
  | 3, hq => cases hq; exact ⟨tyX3, tyX3_ok, nmX3⟩
  | 4, hq => cases hq; exact ⟨tyX4, tyX4_ok, nmX4⟩
  | 5, hq => cases hq; exact ⟨tyX5, tyX5_ok, nmX5⟩
  | 6, hq => cases hq; exact ⟨tyX6, tyX6_ok, nmX6⟩
  | 7, hq => cases hq; exact ⟨tyX7, tyX7_ok, nmX7⟩
  | 8, hq => cases hq; exact ⟨tyX8, tyX8_ok, nmX8⟩
  | 9, hq => cases hq; exact ⟨tyX9, tyX9_ok, nmX9⟩
  | 10, hq => cases hq; exact ⟨tyX10, tyX10_ok, nmX10⟩
  | 11, hq => cases hq; exact ⟨tyX11, tyX11_ok, nmX11⟩
  | c + 12, hq => simp [vm_cl] at hq
/-- a field's entry in a class's pool: the field j of the class c -/
def vm_FL (own : String) (idx c j : Nat) (q : vw_C) : Prop := vm_cl[c]? = some q ∧ j < q.2.2 ∧ ((Cond.fieldLink own idx (q.2.1 j).1 (q.2.1 j).2.1 (q.2.1 j).2.2.1 ∈ gw_G) ∨ ∃ h : String, Cond.fieldLinkNest own idx (q.2.1 j).1 (q.2.1 j).2.1 (q.2.1 j).2.2.1 h ∈ gw_X)
theorem t_OB_cong {o : Nat} {cC : ClassId} {N : Nat} {iS : Nat → Nat} {H : Heap} {V V' : Nat → Value} (h : t_OB o cC N iS H V) (e : ∀ j, j < N → V j = V' j) : t_OB o cC N iS H V' := by
  obtain ⟨cell, a, b, c, d⟩ := h
  exact ⟨cell, a, b, c, fun k hk => by rw [d k hk, e k hk]⟩
/-- the addresses of what the law makes are apart -/
theorem vm_ad_inj (w : vm_W) {a b : Nat} (ha : 20 ≤ a) (hb : 20 ≤ b) (h : vm_ad w a = vm_ad w b) : a = b := by
  unfold vm_ad at h
  rw [if_neg (by omega), if_neg (by omega), if_neg (by omega), if_neg (by omega)] at h
  omega
theorem vm_ad_ge (w : vm_W) {a : Nat} (ha : 20 ≤ a) : vm_base w ≤ vm_ad w a := by
  unfold vm_ad
  rw [if_neg (by omega), if_neg (by omega)]
  omega
theorem vm_ad_eq (w : vm_W) {a : Nat} (ha : 20 ≤ a) : vm_ad w a = vm_base w + (a - 20) := by
  unfold vm_ad
  rw [if_neg (by omega), if_neg (by omega)]
theorem vm_rv_n0 (w : vm_W) {a : Nat} (ha : 20 ≤ a) : vm_rv w a = .ref (vm_ad w a) := if_neg (by omega)
section MEMROWS
variable {α : Type} {l : Launch} {w : vm_W} {y : vm_Y} {fr : Nat} {ex : α → vm_O} {pc pc' tgt : Nat} {ls ls' : List (Nat × vm_X)} {st st' : List vm_X} {M M1 : mm_T} {k k1 k2 : Option (α × mm_T)}
theorem vm_E_obj {c a : Nat} {q : vw_C} {H : Heap} (hR : vm_R w M H) (ht : mm_ty M a = .inl c) (hq : vm_cl[c]? = some q) : 20 ≤ a ∧ a < 20 + mm_nc M ∧ t_OB (vm_ad w a) (vm_dC w c) q.2.2 (vm_dI w c) H (vm_fv w M c a) := by
  have h := hR.2.2 a
  unfold vm_E at h
  rw [ht] at h
  exact h q hq
theorem vm_E_arr {t n a : Nat} {H : Heap} (hR : vm_R w M H) (ht : mm_ty M a = .inr (t, n)) : 20 ≤ a ∧ a < 20 + mm_nc M ∧ n < 2147483648 ∧ t < 8 ∧ H[vm_ad w a]? = some (arrV (vm_cA w t) n (vm_av w M t a)) := by
  have h := hR.2.2 a
  unfold vm_E at h
  rw [ht] at h
  exact h
/-- the walk's own getfield -/
theorem mw_get {p : Program} {e : Env} {R : Room} {s : State} {m : MethodId} {args : Array Value} {below : List Frame} {meth : Method} {c0 : Code} {H : Heap} {locs : List Loc} {cells slots : Nat} {Q : State → Prop} {la : Array Slot} {rest : List Value} {c j idx a : Nat} {q : vw_C} {Vf : Nat → Value}
    (C : vm_C l w y fr p R s m args meth c0) (hF : vm_FL y.1 idx c j q) (hd : decode y.2.1 pc = .ok (.getfield idx, 3)) (hO : t_OB a (vm_dC w c) q.2.2 (vm_dI w c) H Vf)
    (kk : W p l e R s m args below meth c0 H locs cells slots Q (F0 m (pc + 3) la (Vf j :: rest))) : W p l e R s m args below meth c0 H locs cells slots Q (F0 m pc la (.ref a :: rest)) := by
  obtain ⟨hq, hj, hl⟩ := hF
  obtain ⟨⟨hx, hb, hml, hown, hts⟩, ⟨hK, -, hN, -⟩, -⟩ := C
  have hin := (vm_cl_ok c q hq).1
  obtain ⟨hS, hfc, kC, hkC, hkind⟩ := hK c q hq
  obtain ⟨cell, q1, q2, q3, q4⟩ := hO
  obtain ⟨cf, kf, fi, f, hi, hsl⟩ := hS j hj
  rcases hl with hl | ⟨h9, hl⟩
  · refine W.getf hx hb hown (hts _ hl) hi (u_facts hfc hkC (u_lays hts hin hj) hi).1 q1 (by rw [q3]; exact fun h => by cases h) (v := Vf j) ?_ rfl rfl hd kk
    rw [hsl]; exact q4 j hj
  · refine va_Wgetf hx hb hown (va_Nw.use rfl (hN _ hl)) hi (u_facts hfc hkC (u_lays hts hin hj) hi).1 q1 (by rw [q3]; exact fun h => by cases h) (v := Vf j) ?_ rfl rfl hd kk
    rw [hsl]; exact q4 j hj
/-- the walk's own putfield -/
theorem mw_put {p : Program} {e : Env} {R : Room} {s : State} {m : MethodId} {args : Array Value} {below : List Frame} {meth : Method} {c0 : Code} {H : Heap} {locs : List Loc} {cells slots : Nat} {Q : State → Prop} {la : Array Slot} {rest : List Value} {c j idx a : Nat} {q : vw_C} {Vf : Nat → Value} {v : Value} {ty : FieldType}
    (C : vm_C l w y fr p R s m args meth c0) (hF : vm_FL y.1 idx c j q) (hfin : (q.2.1 j).2.2.2 = false ∨ (y.2.2.2.1 = true ∧ (q.2.1 j).1 = y.1 ∧ Cond.fieldLink y.1 idx (q.2.1 j).1 (q.2.1 j).2.1 (q.2.1 j).2.2.1 ∈ gw_G ∧ (q.2.1 j).2.2.2 = true)) (hty : parseFieldDescriptor (q.2.1 j).2.2.1 = some ty) (hn : narrow ty v = v) (hfit : fits ty v = true) (hd : decode y.2.1 pc = .ok (.putfield idx, 3)) (hO : t_OB a (vm_dC w c) q.2.2 (vm_dI w c) H Vf)
    (kk : ∀ (H1 : Heap) (i : Nat), t_OB a (vm_dC w c) q.2.2 (vm_dI w c) H1 (updV Vf j v) → H1.size = H.size → (∀ x, x ≠ a → H1[x]? = H[x]?) → W p l e R s m args below meth c0 H1 (locs ++ [⟨a, i⟩]) cells slots Q (F0 m (pc + 3) la rest)) : W p l e R s m args below meth c0 H locs cells slots Q (F0 m pc la (v :: .ref a :: rest)) := by
  obtain ⟨hq, hj, hl⟩ := hF
  obtain ⟨⟨hx, hb, hml, hown, hts⟩, ⟨hK, -, hN, -⟩, -, -, -, hini, -⟩ := C
  obtain ⟨hin, ty0, hty0, hnm⟩ := vm_cl_ok c q hq
  have hKa : va_K (vm_dC w, vm_dI w) vm_cl [] s := ⟨hK, fun k q h => by simp at h⟩
  have hap := va_apart (own := y.1) (D := (vm_dC w, vm_dI w)) hts hin ty0 hty0 hnm hKa hq
  obtain ⟨hS, hfc, kC, hkC, hkind⟩ := hK c q hq
  obtain ⟨cell, q1, q2, q3, q4⟩ := hO
  obtain ⟨cf, kf, fi, f, hi, hsl⟩ := hS j hj
  have hlay := hts _ (hin _ (u_in_lay hj))
  unfold u_lay at hlay
  have hst := (u_facts hfc hkC (u_lays hts hin hj) hi).1
  have fin : ∀ H' : Heap, H'[a]? = some (cell.setSlot (vm_dI w c j) v) → t_OB a (vm_dC w c) q.2.2 (vm_dI w c) H' (updV Vf j v) := fun H' e1 => ⟨_, e1, q2, q3, t_set q4 hap hj v⟩
  rcases hfin with hfin | ⟨hi1, hdecl, hl2, hfin⟩
  · rw [if_neg (by rw [hfin]; decide)] at hlay
    have h6 := u_store hfc hkC hkind hlay hi hty hn hfit
    rcases hl with hl | ⟨h9, hl⟩
    · refine W.putK hx hb (f := f) ⟨hown, hts _ hl, ⟨_, _, _, hi⟩, hst⟩ (by rw [q2]; exact h6) q1 q3 (by rw [hsl]; exact k2_hasslot (q4 j hj)) rfl rfl hd fun H' e1 e2 e3 => ?_
      rw [hsl] at e1
      exact kk H' _ (fin H' e1) e2 e3
    · refine va_WputK hx hb (f := f) hown (va_Nw.use rfl (hN _ hl)) hi hst (by rw [q2]; exact h6) q1 q3 (by rw [hsl]; exact k2_hasslot (q4 j hj)) rfl rfl hd fun H' e1 e2 e3 => ?_
      rw [hsl] at e1
      exact kk H' _ (fin H' e1) e2 e3
  · rw [if_pos hfin] at hlay
    have hcf : m.cls = cf := by
      obtain ⟨_, _, c', _, _, _, -, -, hf', -, -, -, hown2, -⟩ := Cond.laysFinal_spec hlay
      have e1 : c' = cf := by have := hi.symm.trans hf'; simp at this; exact this.1.symm
      rw [hdecl] at hown2
      rw [← e1]; exact Option.some.inj (hown.symm.trans hown2)
    have h6 := u_fits hfc hkC hkind (Or.inr hlay) hi hty hn hfit
    refine W.putFinK hx hb hown (hts _ hl2) hi hst hcf (hini hi1) (by rw [q2]; exact h6) q1 q3 (by rw [hsl]; exact k2_hasslot (q4 j hj)) rfl rfl hd fun H' e1 e2 e3 => ?_
    rw [hsl] at e1
    exact kk H' _ (fin H' e1) e2 e3
end MEMROWS
