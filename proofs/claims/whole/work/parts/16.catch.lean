/-- a handler of this method's table takes the exception E, thrown at pc -/
def vm_Hd (y : vm_Y) (pc E tgt : Nat) : Prop := ∃ (pre : List ExceptionTableEntry) (x : ExceptionTableEntry) (suf : List ExceptionTableEntry), tableOf y.2.2.2.2 = pre ++ x :: suf ∧
  (∀ z ∈ pre, covers z pc = false ∨ (z.catchType ≠ 0 ∧ ∃ nm : String, Cond.classLink y.1 z.catchType nm ∈ gw_G ∧ (ex_n E, nm) ∈ vm_nc)) ∧ covers x pc = true ∧ x.catchType ≠ 0 ∧ (∃ nm : String, Cond.classLink y.1 x.catchType nm ∈ gw_G ∧ Cond.castable (ex_n E) nm ∈ gw_X) ∧ x.handlerPc = tgt
/-- the handler puts the exception into the local j, which nobody reads -/
def vm_Ha (b : ByteArray) (tgt j pc2 : Nat) : Prop := (∃ jf : Fin 4, (jf : Nat) = j ∧ decode b tgt = .ok (.astore_n jf, 1) ∧ tgt + 1 = pc2) ∨ (decode b tgt = .ok (.astore j, 2) ∧ tgt + 2 = pc2)
section CATCH
variable {α γ : Type} {l : Launch} {w : vm_W} {y : vm_Y} {fr fr' : Nat} {pc pc' tgt : Nat} {ls ls' : List (Nat × vm_X)} {st st0 st1 : List vm_X} {M M1 : mm_T}
theorem v_xW {ex : α → vm_O} {exc : γ → vm_O} {kc : Option ((Nat ⊕ γ) × mm_T)} {h : Nat → mm_T → Option (α × mm_T)} {f : γ → mm_T → Option (α × mm_T)} {as : List vm_X} {b c idx n maxL : Nat} {q : vw_C} {yn : MethodName} {bytes : ByteArray} {ret : Option FieldType} {sr : γ → List vm_X} (hd : vm_D y.2.1 pc 3 pc' (.invokevirtual idx)) (hL : vm_LV y.1 idx yn q.1 (.code yn bytes maxL ret) n) (hq : vm_cl[c]? = some q) (hC : vm_ConX l yn (.code yn bytes maxL ret) fr' (ex_T exc) (xA b :: as) M kc) (he : ∀ r, vm_os (exc r) = some (sr r)) (hfr : fr' + 1 ≤ fr) (hmx : maxL ≤ 45) (hn : as.length = n) (hst : st0 = as.reverse ++ xA b :: st1) (hs8 : (st1.map vm_ct).sum ≤ 8)
    (kh : ∀ (E : Nat) (M1 : mm_T), h E M1 = none ∨ ∃ tgt j pc2 lx, vm_Hd y pc E tgt ∧ vm_Ha y.2.1 tgt j pc2 ∧ j < y.2.2.1 ∧ ls.filter (fun q => !(q.1 == j) && !(q.1 + 1 == j && vm_ct q.2 == 2)) = lx ∧ V_ l w y fr ex pc2 lx [] M1 (h E M1))
    (kk : ∀ (r : γ) (M1 : mm_T), V_ l w y fr ex pc' ls (sr r ++ st1) M1 (f r M1)) : V_ l w y fr ex pc ls st0 M (ob_ M b c (cx_ kc h f)) := by
  obtain ⟨hd, rfl⟩ := hd
  unfold ob_
  by_cases ht : mm_ty M b = .inl c
  · rw [if_pos ht]
    intro r M' hk h1 h2 h3
    cases hkc : kc with
    | none => rw [hkc] at hk; cases hk
    | some r0 =>
      obtain ⟨r0, M0⟩ := r0
      rw [hkc] at hk
      have hao : ∀ v ∈ xA b :: as, vm_okv v := fun v hv => h2 v ((mem_recv hst).1 v hv)
      obtain ⟨⟨a1, a2, a3, a4⟩, hM⟩ := hC w r0 M0 hkc hao h3
      rcases r0 with E | r0
      · have hk : h E M0 = some (r, M') := hk
        rcases kh E M0 with h9 | ⟨tgt, j, pc2, lx, ⟨pre, x, suf, e1, e2, e3, e4, ⟨nm, e5, e6⟩, e7⟩, hha, hj, hlx, hV⟩
        · rw [h9] at hk; cases hk
        · have hok : ∀ q ∈ lx, vm_okv q.2 := fun q hq => by
            rw [← hlx] at hq
            exact h1 q (List.mem_filter.mp hq).1
          obtain ⟨⟨b1, b2, b3, b4⟩, bb⟩ := hV r M' hk hok (fun v hv => by cases hv) a4
          refine ⟨⟨by omega, by omega, b3, b4⟩, ?_⟩
          intro p e R s m args below meth c0 H locs cells slots mc ms Q la C hR hs hl hla c1 c2 c3 c4 hZ
          obtain ⟨a, hrn⟩ := vm_runVX (locs := locs) (cells := cells) (slots := slots) (e := e) (below := below) (ex' := ex_T exc) C hR hla (by omega) (by omega) hd hL hq ht hM hfr hmx hn hst hs8
          refine vm_afterX hrn hl (fun E0 hE H1 locs1 q9 ce hR1 hz hl1 hce hcv hcl => ?_) (fun sr h => by cases h)
          cases hE
          have htab := C.2.2.2.2.2.2.2
          have hnn := C.2.1.2.2.2.2.2.2.2.2.2.2.2.2.1
          refine vx_catch (name := nm) (E := ex_n E) C.1.2.2.2.1 pre x suf (htab.trans e1) (fun z hz => ?_) e3 e4 (C.1.2.2.2.2 _ e5) (va_Nw.use rfl (C.2.1.2.2.1 _ e6)) hce hcv hcl ?_
          · rcases e2 z hz with h | ⟨h, nm2, h5, h6⟩
            · exact Or.inl h
            · exact Or.inr ⟨h, nm2, C.1.2.2.2.2 _ h5, hnn _ h6⟩
          · rw [e7]
            have fin : ∀ la' : Array Slot, lv_has la' y.2.2.1 ((j, Value.ref q9) :: (ls.map (fun q => (q.1, vm_v w q.2))).filter (fun q => !(q.1 == j) && !(q.1 + 1 == j && q.2.category == 2))) → W p l e R s m args below meth c0 H1 locs1 (cells + (mm_ce M0 - mm_ce M)) (slots + (mm_se M0 - mm_se M)) Q (F0 m pc2 la' []) := by
              intro la' hla'
              refine bb p e R s m args below meth c0 H1 locs1 _ _ mc ms Q la' C hR1 (by omega) hl1 ⟨hla'.1, hla'.2.1, fun q hq => ?_⟩ (by omega) (by omega) c3 c4 hZ
              refine hla'.2.2 q (List.mem_cons_of_mem _ ?_)
              rw [← hlx] at hq
              have hm := vm_s1_map w ls j (xA 0)
              unfold vm_s1 at hm
              rw [List.map_cons] at hm
              have hm2 := (List.cons.inj hm).2
              rw [hm2]
              exact hq
            rcases hha with ⟨jf, hjf, hdj, rfl⟩ | ⟨hdj, rfl⟩
            · exact lv_astore_n C.1.1 C.1.2.1 hdj hjf hla hj rfl fin
            · exact lv_astore C.1.1 C.1.2.1 hdj hla hj rfl fin
      · have hk : f r0 M0 = some (r, M') := hk
        obtain ⟨⟨b1, b2, b3, b4⟩, bb⟩ := kk r0 M0 r M' hk h1 (fun v hv => (List.mem_append.mp hv).elim (vm_os_ok (he r0) a3 v) (fun h => h2 v ((mem_recv hst).2 v h))) a4
        refine ⟨⟨by omega, by omega, b3, b4⟩, ?_⟩
        intro p e R s m args below meth c0 H locs cells slots mc ms Q la C hR hs hl hla c1 c2 c3 c4 hZ
        obtain ⟨a, hrn⟩ := vm_runVX (locs := locs) (cells := cells) (slots := slots) (e := e) (below := below) (ex' := ex_T exc) C hR hla (by omega) (by omega) hd hL hq ht hM hfr hmx hn hst hs8
        refine vm_afterX hrn hl (fun E0 hE => ?_) (fun sr' hsr H1 locs1 hR1 hz hl1 => ?_)
        · have : (exc r0) = .inl E0 := hE
          have h9 := he r0
          rw [this] at h9
          cases h9
        · have e9 : sr' = sr r0 := Option.some.inj (hsr.symm.trans (he r0))
          subst e9
          have := bb p e R s m args below meth c0 H1 locs1 (cells + (mm_ce M0 - mm_ce M)) (slots + (mm_se M0 - mm_se M)) mc ms Q la C hR1 (by omega) hl1 hla (by omega) (by omega) c3 c4 hZ
          rw [List.map_append] at this
          exact this
  · rw [if_neg ht]
    exact V_.none
end CATCH
