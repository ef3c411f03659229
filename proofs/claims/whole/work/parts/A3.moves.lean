/-! WHAT CHANGES: well formed again; both sides' calls that change what is remembered. -/
section Wf
variable {D f g tb tb' D' : Nat → Int} {n m ts ts' ac : Nat} {flt flt' : Int} {A : Nat → (Nat → Int) × Nat}
theorem y_wf_word (W : y_wf (D, f, n, tb, ts, flt, A, ac)) (hm : m ≤ 64) (hg : z_lt4 D g m) : y_wf (D, g, m, tb, ts, flt', z_Ap A f n, min 10 (ac + 1)) := by
  obtain ⟨wD, wf, wt, wa1, wa2⟩ := W
  refine ⟨wD, ⟨hm, hg⟩, wt, ?_, fun k hk => ?_⟩
  · show min 10 (ac + 1) ≤ 10
    omega
  · have hk' : k < min 10 (ac + 1) := hk
    show (z_Ap A f n k).2 ≤ 64 ∧ ∀ i, i < (z_Ap A f n k).2 → 0 ≤ (z_Ap A f n k).1 i ∧ (z_Ap A f n k).1 i < D 0
    by_cases h0 : k = 0
    · rw [h0, z_Ap0]; exact wf
    · rw [z_ApS h0]; exact wa2 (k - 1) (by show k - 1 < ac; omega)
theorem y_wf_tape (W : y_wf (D, f, n, tb, ts, flt, A, ac)) (h : ts' ≤ 400 ∧ ∀ i, i < ts' → 0 ≤ tb' i ∧ tb' i < 256) : y_wf (D, f, n, tb', ts', flt', A, ac) := ⟨W.1, W.2.1, h, W.2.2.2⟩
theorem y_wf_told (W : y_wf (D, f, n, tb, ts, flt, A, ac)) (wD : z_Dw D') (e : D' 0 = D 0) : y_wf (D', f, n, tb, ts, flt, A, ac) := by
  obtain ⟨-, ⟨w1, w2⟩, wt, wa1, wa2⟩ := W
  refine ⟨wD, ⟨w1, fun i hi => ?_⟩, wt, wa1, fun k hk => ⟨(wa2 k hk).1, fun i hi => ?_⟩⟩
  · show 0 ≤ f i ∧ f i < D' 0
    rw [e]; exact w2 i hi
  · show 0 ≤ (A k).1 i ∧ (A k).1 i < D' 0
    rw [e]; exact (wa2 k hk).2 i hi
theorem y_wf_undo (W : y_wf (D, f, n, tb, ts, flt, A, ac + 1)) : y_wf (D, (A 0).1, (A 0).2, tb, ts, flt, fun k => A (k + 1), ac) := by
  obtain ⟨wD, wf, wt, wa1, wa2⟩ := W
  exact ⟨wD, wa2 0 (by show 0 < ac + 1; omega), wt, by have : ac + 1 ≤ 10 := wa1; show ac ≤ 10; omega, fun k hk => wa2 (k + 1) (by have : k < ac := hk; show k + 1 < ac + 1; omega)⟩
theorem y_wf_read (W : y_wf (D, f, n, tb, ts, flt, A, ac)) (wD : z_Dw D') : y_wf (D', f, 0, tb, 0, flt', A, 0) :=
  ⟨wD, ⟨Nat.zero_le _, fun i hi => absurd hi (Nat.not_lt_zero i)⟩, ⟨Nat.zero_le _, fun i hi => absurd hi (Nat.not_lt_zero i)⟩, Nat.zero_le _, fun i hi => absurd hi (Nat.not_lt_zero i)⟩
theorem y_dm_lt {l k : Nat} (wD : z_Dw D) (hm : (m : Int) < D 4) (hl : l < z_dA D) (hk : k < z_ds D m l) : z_dm D m l k < z_dA D := by
  obtain ⟨d1, d2, d3⟩ := z_dA_eq wD
  obtain ⟨-, -, -, -, -, -, w7, -⟩ := wD
  obtain ⟨a1, a2, a3⟩ := w7 m l hm (by omega)
  have hk' : (k : Int) < D (54 + 4 * m + l) := by unfold z_ds at hk; omega
  have := a3 k hk'
  unfold z_dm
  omega
theorem y_ig_lt (wD : z_Dw D) (hm : (m : Int) < D 4) (hf : z_lt4 D f n) : z_lt4 D (z_ig D m f n) (z_ist D m f n) := by
  intro j hj
  obtain ⟨d1, d2, d3⟩ := z_dA_eq wD
  obtain ⟨k, i, hk, hi, rfl⟩ := z_ig_dec hj
  rw [z_ig_at hk hi]
  have := y_dm_lt wD hm (z_lt4_s wD hm hf k hk).1 hi
  omega
theorem y_sq_lt {act mp lo hi : Nat} {w : Int} {S : z_S} (wD : z_Dw D) (W : z_sw D lo hi S) (h : z_sq D f act w mp lo hi S < z_sen D lo hi S) : z_lt4 D (z_sit D lo hi S (z_sq D f act w mp lo hi S)).1 hi := by
  obtain ⟨w1, w2, w3, w4, w5, w6, w7⟩ := id W
  obtain ⟨o1, o2, o3⟩ := z_fo_spec (b := z_sp D f act w mp lo hi S) (n := z_sen D lo hi S)
  have p := o3 h
  obtain ⟨e1, e2, e3⟩ := z_sen_spec (D := D) w1 (Nat.le_of_lt w2) (by omega) w3 w4
  have q := (z_sit_lt wD W (m := z_sq D f act w mp lo hi S) (fun j hj => e2 j (by omega))).1
  have e : (z_sit D lo hi S (z_sq D f act w mp lo hi S)).2.1 = hi := p.1
  intro i hi'
  exact q i (by omega)
theorem y_put_lt {v : Int} (h : z_lt4 D f n) (hv : 0 ≤ v ∧ v < D 0) : z_lt4 D (z_put f n v) (n + 1) := by
  intro i hi
  by_cases e : i = n
  · rw [e]; unfold z_put; rw [if_pos rfl]; exact hv
  · rw [z_put_ne e]; exact h i (by omega)
end Wf
section Moves
variable {c : z_C} {T : z_Ty} {I : z_Is} {J : z_Js} {R : z_Rs} {t s n ts ac : Nat} {f D tb : Nat → Int} {flt : Int} {A : Nat → (Nat → Int) × Nat} {σ σ' : y_Sg}
theorem y_ifw {p : Prop} (h1 : p → y_wf σ) (h2 : y_wf σ') : y_wf (z_if p σ σ') := by
  by_cases h : p
  · rw [z_ifT h]; exact h1 h
  · rw [z_ifF h]; exact h2
-- push
noncomputable def y_pu (D f : Nat → Int) (n : Nat) (tb : Nat → Int) (ts : Nat) (flt : Int) (A : Nat → (Nat → Int) × Nat) (ac : Nat) (v : Int) : y_Sg := z_if ((0 ≤ v ∧ v < D 0) ∧ n < 64) (D, z_put f n v, n + 1, tb, ts, flt, z_Ap A f n, min 10 (ac + 1)) (D, f, n, tb, ts, flt, A, ac)
theorem y_pu_w (W : y_wf (D, f, n, tb, ts, flt, A, ac)) (v : Int) : y_wf (y_pu D f n tb ts flt A ac v) := y_ifw (fun h => y_wf_word W h.2 (y_put_lt W.2.1.2 h.1)) W
theorem y_pu_X (LX : z_XL T R t s) (W : y_wf (D, f, n, tb, ts, flt, A, ac)) (H : y_rx I t (D, f, n, tb, ts, flt, A, ac)) (v : Int) : y_XX c T I R J (k_X_push 20 v (c, T, I, J, R)) (if ¬ (0 ≤ v ∧ v < D 0) then .inl 1 else if n = 64 then .inl 2 else .inr ((n : Int) + 1)) (y_pu D f n tb ts flt A ac v) := by
  have n64 : n ≤ 64 := W.2.1.1
  unfold y_pu
  by_cases hv : 0 ≤ v ∧ v < D 0
  · rw [if_neg (not_not_intro hv)]
    by_cases hn : n = 64
    · rw [if_pos hn, z_ifF (fun h => absurd h.2 (by omega))]
      exact y_XX_q LX W.1 H (z_X_push2 LX H hv hn)
    · rw [if_neg hn, z_ifT ⟨hv, by omega⟩]
      have hn' : n < 64 := by omega
      exact y_XX_s LX (fun _ h => h) (z_X_push1 LX W.1 H W.2.2.2.1 hv hn')
  · rw [if_pos hv, z_ifF (fun h => hv h.1)]
    exact y_XX_q LX W.1 H (z_X_push0 LX H hv)
theorem y_pu_M (L : z_ML T R) (W : y_wf (D, f, n, tb, ts, flt, A, ac)) (H : y_rm I (D, f, n, tb, ts, flt, A, ac)) (v : Int) : y_MM c T I R J (k_M_push 379 v (c, T, I, J, R)) (if ¬ (0 ≤ v ∧ v < D 0) then 1 else if n = 64 then 2 else 0) ((n : Int) + 1) (y_pu D f n tb ts flt A ac v) := by
  refine y_MM_c (fun I' h => ?_) (z_M_push L W.1 H W.2.2.2.1 (fun k hk => (W.2.2.2.2 k hk).1) v)
  unfold y_pu
  by_cases hc : (0 ≤ v ∧ v < D 0) ∧ n < 64
  · rw [z_ifT hc]; dsimp only at h; rw [if_pos hc] at h; exact h
  · rw [z_ifF hc]; dsimp only at h; rw [if_neg hc] at h; exact h
-- pop
noncomputable def y_po (D f : Nat → Int) (n : Nat) (tb : Nat → Int) (ts : Nat) (flt : Int) (A : Nat → (Nat → Int) × Nat) (ac : Nat) : y_Sg := z_if (n ≠ 0) (D, f, n - 1, tb, ts, flt, z_Ap A f n, min 10 (ac + 1)) (D, f, n, tb, ts, flt, A, ac)
theorem y_po_w (W : y_wf (D, f, n, tb, ts, flt, A, ac)) : y_wf (y_po D f n tb ts flt A ac) := y_ifw (fun h => y_wf_word W (by have : n ≤ 64 := W.2.1.1; omega) (fun i hi => W.2.1.2 i (by show i < n; omega))) W
theorem y_po_X (LX : z_XL T R t s) (W : y_wf (D, f, n, tb, ts, flt, A, ac)) (H : y_rx I t (D, f, n, tb, ts, flt, A, ac)) : y_XX c T I R J (k_X_pop 20 (c, T, I, J, R)) (if n = 0 then .inl 2 else .inr (f (n - 1))) (y_po D f n tb ts flt A ac) := by
  unfold y_po
  cases n with
  | zero => rw [if_pos rfl, z_ifF (fun h => h rfl)]; exact y_XX_q LX W.1 H (z_X_pop0 LX H)
  | succ n => rw [if_neg (Nat.succ_ne_zero n), z_ifT (Nat.succ_ne_zero n)]; exact y_XX_s LX (fun _ h => h) (z_X_pop1 LX W.1 H W.2.2.2.1)
theorem y_po_M (L : z_ML T R) (W : y_wf (D, f, n, tb, ts, flt, A, ac)) (H : y_rm I (D, f, n, tb, ts, flt, A, ac)) : y_MM c T I R J (k_M_pop 379 (c, T, I, J, R)) (if n = 0 then 1 else 0) (if n = 0 then 0 else f (n - 1)) (y_po D f n tb ts flt A ac) := by
  unfold y_po
  cases n with
  | zero => rw [if_pos rfl, if_pos rfl, z_ifF (fun h => h rfl)]; exact y_MM_q H (z_M_pop0 L H)
  | succ n => rw [if_neg (Nat.succ_ne_zero n), if_neg (Nat.succ_ne_zero n), z_ifT (Nat.succ_ne_zero n)]; exact y_MM_c (fun _ h => h) (z_M_pop1 L H W.2.2.2.1 (fun k hk => (W.2.2.2.2 k hk).1))
-- undo
noncomputable def y_un (D f : Nat → Int) (n : Nat) (tb : Nat → Int) (ts : Nat) (flt : Int) (A : Nat → (Nat → Int) × Nat) (ac : Nat) : y_Sg := z_if (ac ≠ 0) (D, (A 0).1, (A 0).2, tb, ts, flt, fun k => A (k + 1), ac - 1) (D, f, n, tb, ts, flt, A, ac)
theorem y_un_w (W : y_wf (D, f, n, tb, ts, flt, A, ac)) : y_wf (y_un D f n tb ts flt A ac) := by
  unfold y_un
  cases ac with
  | zero => rw [z_ifF (fun h => h rfl)]; exact W
  | succ k => rw [z_ifT (Nat.succ_ne_zero k)]; exact y_wf_undo W
theorem y_un_X (LX : z_XL T R t s) (W : y_wf (D, f, n, tb, ts, flt, A, ac)) (H : y_rx I t (D, f, n, tb, ts, flt, A, ac)) : y_XX c T I R J (k_X_undo 20 (c, T, I, J, R)) ((ac : Int) - 1) (y_un D f n tb ts flt A ac) := by
  unfold y_un
  cases ac with
  | zero => rw [z_ifF (fun h => h rfl)]; exact y_XX_e LX H (z_X_undo0 LX H)
  | succ k =>
    rw [z_ifT (Nat.succ_ne_zero k), show ((k + 1 : Nat) : Int) - 1 = (k : Int) from by omega]
    exact y_XX_W LX (fun _ h => h) (z_X_undo1 LX W.1 H W.2.2.2.1 (W.2.2.2.2 0 (Nat.succ_pos k)).1)
theorem y_un_M (L : z_ML T R) (W : y_wf (D, f, n, tb, ts, flt, A, ac)) (H : y_rm I (D, f, n, tb, ts, flt, A, ac)) : y_MM c T I R J (k_M_undo 379 (c, T, I, J, R)) 0 ((ac : Int) - 1) (y_un D f n tb ts flt A ac) := by
  unfold y_un
  cases ac with
  | zero => rw [z_ifF (fun h => h rfl)]; exact y_MM_q H (z_M_undo0 L H)
  | succ k =>
    rw [z_ifT (Nat.succ_ne_zero k), show ((k + 1 : Nat) : Int) - 1 = (k : Int) from by omega]
    exact y_MM_c (fun _ h => h) (z_M_undo1 L H W.2.2.2.1 (W.2.2.2.2 0 (Nat.succ_pos k)).1)
-- limit
noncomputable def y_li (D f : Nat → Int) (n : Nat) (tb : Nat → Int) (ts : Nat) (flt : Int) (A : Nat → (Nat → Int) × Nat) (ac : Nat) (k a b : Int) : y_Sg := z_if ((0 ≤ k ∧ k ≤ 2) ∧ (1 ≤ a ∧ a ≤ 99) ∧ (1 ≤ b ∧ b ≤ 9)) (z_lim D k a b, f, n, tb, ts, flt, A, ac) (D, f, n, tb, ts, flt, A, ac)
theorem y_li_w (W : y_wf (D, f, n, tb, ts, flt, A, ac)) (k a b : Int) : y_wf (y_li D f n tb ts flt A ac k a b) := y_ifw (fun h => y_wf_told W (z_lim_Dw W.1 h.1 h.2.1 h.2.2) rfl) W
theorem y_li_X (LX : z_XL T R t s) (W : y_wf (D, f, n, tb, ts, flt, A, ac)) (H : y_rx I t (D, f, n, tb, ts, flt, A, ac)) (k a b : Int) : y_XX c T I R J (k_X_limit 20 k a b (c, T, I, J, R)) (if (0 ≤ k ∧ k ≤ 2) ∧ (1 ≤ a ∧ a ≤ 99) ∧ (1 ≤ b ∧ b ≤ 9) then .inr (D 1) else .inl 1) (y_li D f n tb ts flt A ac k a b) := by
  unfold y_li
  by_cases h : (0 ≤ k ∧ k ≤ 2) ∧ (1 ≤ a ∧ a ≤ 99) ∧ (1 ≤ b ∧ b ≤ 9)
  · rw [if_pos h, z_ifT h]; exact y_XX_s LX (fun _ h => h) (z_X_limit1 LX H h.1 h.2.1 h.2.2)
  · rw [if_neg h, z_ifF h]; exact y_XX_q LX W.1 H (z_X_limit0 LX h)
theorem y_li_M (L : z_ML T R) (H : y_rm I (D, f, n, tb, ts, flt, A, ac)) (k a b : Int) : y_MM c T I R J (k_M_limit 379 k a b (c, T, I, J, R)) (if (0 ≤ k ∧ k ≤ 2) ∧ (1 ≤ a ∧ a ≤ 99) ∧ (1 ≤ b ∧ b ≤ 9) then 0 else 1) (D 1) (y_li D f n tb ts flt A ac k a b) := by
  refine y_MM_c (fun I' h => ?_) (z_M_limit L H k a b)
  unfold y_li
  by_cases hc : (0 ≤ k ∧ k ≤ 2) ∧ (1 ≤ a ∧ a ≤ 99) ∧ (1 ≤ b ∧ b ≤ 9)
  · rw [z_ifT hc]; dsimp only at h; rw [if_pos hc] at h; exact h
  · rw [z_ifF hc]; dsimp only at h; rw [if_neg hc] at h; exact h
-- avoid
noncomputable def y_av (D f : Nat → Int) (n : Nat) (tb : Nat → Int) (ts : Nat) (flt : Int) (A : Nat → (Nat → Int) × Nat) (ac : Nat) (p v : Int) : y_Sg := z_if (0 ≤ p ∧ p < D 5) (z_set D (194 + p.toNat) v, f, n, tb, ts, flt, A, ac) (D, f, n, tb, ts, flt, A, ac)
theorem y_av_w (W : y_wf (D, f, n, tb, ts, flt, A, ac)) (p v : Int) (hv : v = 0 ∨ v = 1) : y_wf (y_av D f n tb ts flt A ac p v) := y_ifw (fun h => y_wf_told W (z_set_Dw W.1 (by omega) hv) (z_setO (by omega))) W
theorem y_av_X (LX : z_XL T R t s) (W : y_wf (D, f, n, tb, ts, flt, A, ac)) (H : y_rx I t (D, f, n, tb, ts, flt, A, ac)) (p v : Int) (hv : v = 0 ∨ v = 1) : y_XX c T I R J (k_X_avoid 20 p v (c, T, I, J, R)) (if ¬ (0 ≤ p ∧ p < D 5) then .inl 3 else .inr (D (194 + p.toNat))) (y_av D f n tb ts flt A ac p v) := by
  unfold y_av
  by_cases h : 0 ≤ p ∧ p < D 5
  · obtain ⟨p, rfl⟩ : ∃ x : Nat, p = (x : Int) := ⟨p.toNat, by omega⟩
    rw [if_neg (not_not_intro h), z_ifT h]
    exact y_XX_s LX (fun _ h => h) (z_X_avoid1 LX W.1 H h.2 hv)
  · rw [if_pos h, z_ifF h]; exact y_XX_q LX W.1 H (z_X_avoid0 LX W.1 H h)
theorem y_av_M (L : z_ML T R) (W : y_wf (D, f, n, tb, ts, flt, A, ac)) (H : y_rm I (D, f, n, tb, ts, flt, A, ac)) (p v : Int) (hv : v = 0 ∨ v = 1) : y_MM c T I R J (k_M_avoid 379 p v (c, T, I, J, R)) (if ¬ (0 ≤ p ∧ p < D 5) then 1 else 0) (if ¬ (0 ≤ p ∧ p < D 5) then 0 else D (194 + p.toNat)) (y_av D f n tb ts flt A ac p v) := by
  unfold y_av
  by_cases h : 0 ≤ p ∧ p < D 5
  · obtain ⟨p, rfl⟩ : ∃ x : Nat, p = (x : Int) := ⟨p.toNat, by omega⟩
    rw [if_neg (not_not_intro h), if_neg (not_not_intro h), z_ifT h]
    exact y_MM_c (fun _ h => h) (z_M_avoid1 L W.1 H h.2 hv)
  · rw [if_pos h, if_pos h, z_ifF h]; exact y_MM_q H (z_M_avoid0 L W.1 H h)
-- a word drawn, an image
noncomputable def y_nt (D f : Nat → Int) (n : Nat) (tb : Nat → Int) (ts : Nat) (flt : Int) (A : Nat → (Nat → Int) × Nat) (ac : Nat) (N k : Int) : y_Sg := z_if (((1 ≤ N ∧ N ≤ 40) ∧ 0 ≤ k) ∧ z_sq D f 4 k 0 0 N.toNat (z_s0 0) < z_sen D 0 N.toNat (z_s0 0)) (D, z_nthW D f N.toNat k, N.toNat, tb, ts, flt, z_Ap A f n, min 10 (ac + 1)) (D, f, n, tb, ts, flt, A, ac)
theorem y_nt_w (W : y_wf (D, f, n, tb, ts, flt, A, ac)) (N k : Int) : y_wf (y_nt D f n tb ts flt A ac N k) := y_ifw (fun h => y_wf_word W (by omega) (y_sq_lt W.1 (z_sw0 (by omega) (by omega) (by omega)) h.2)) W
theorem y_nt_X (LX : z_XL T R t s) (W : y_wf (D, f, n, tb, ts, flt, A, ac)) (H : y_rx I t (D, f, n, tb, ts, flt, A, ac)) (N k : Int) : y_XX c T I R J (k_X_nth 20 N k (c, T, I, J, R)) (if (1 ≤ N ∧ N ≤ 40) ∧ 0 ≤ k then .inr (z_nth D f N.toNat k) else .inl 1) (y_nt D f n tb ts flt A ac N k) := by
  refine y_XX_r LX (fun I' h => ?_) (z_X_nth LX W.1 H W.2.2.2.1 W.2.1.2 N k)
  unfold y_nt
  by_cases hc : ((1 ≤ N ∧ N ≤ 40) ∧ 0 ≤ k) ∧ z_sq D f 4 k 0 0 N.toNat (z_s0 0) < z_sen D 0 N.toNat (z_s0 0)
  · rw [z_ifT hc]; dsimp only at h; rw [if_pos hc] at h; exact h
  · rw [z_ifF hc]; dsimp only at h; rw [if_neg hc] at h; exact h
theorem y_nt_M (L : z_ML T R) (W : y_wf (D, f, n, tb, ts, flt, A, ac)) (H : y_rm I (D, f, n, tb, ts, flt, A, ac)) (N k : Int) : y_MM c T I R J (k_M_nth 379 N k (c, T, I, J, R)) (if (1 ≤ N ∧ N ≤ 40) ∧ 0 ≤ k then 0 else 1) (z_nth D f N.toNat k) (y_nt D f n tb ts flt A ac N k) := by
  refine y_MM_c (fun I' h => ?_) (z_M_nth L W.1 H W.2.2.2.1 (fun k hk => (W.2.2.2.2 k hk).1) N k)
  unfold y_nt
  by_cases hc : ((1 ≤ N ∧ N ≤ 40) ∧ 0 ≤ k) ∧ z_sq D f 4 k 0 0 N.toNat (z_s0 0) < z_sen D 0 N.toNat (z_s0 0)
  · rw [z_ifT hc]; dsimp only at h; rw [if_pos hc] at h; exact h
  · rw [z_ifF hc]; dsimp only at h; rw [if_neg hc] at h; exact h
theorem y_fs_X (LX : z_XL T R t s) (W : y_wf (D, f, n, tb, ts, flt, A, ac)) (H : y_rx I t (D, f, n, tb, ts, flt, A, ac)) (N : Int) : y_XX c T I R J (k_X_first 20 N (c, T, I, J, R)) (if 1 ≤ N ∧ N ≤ 40 then .inr (z_nth D f N.toNat 0) else .inl 1) (y_nt D f n tb ts flt A ac N 0) := by
  refine y_XX_r LX (fun I' h => ?_) (z_X_first LX W.1 H W.2.2.2.1 W.2.1.2 N)
  unfold y_nt
  by_cases hc : (1 ≤ N ∧ N ≤ 40) ∧ z_sq D f 4 0 0 0 N.toNat (z_s0 0) < z_sen D 0 N.toNat (z_s0 0)
  · rw [z_ifT ⟨⟨hc.1, Int.le_refl 0⟩, hc.2⟩]; dsimp only at h; rw [if_pos hc] at h; exact h
  · rw [z_ifF (fun q => hc ⟨q.1.1, q.2⟩)]; dsimp only at h; rw [if_neg hc] at h; exact h
theorem y_fs_M (L : z_ML T R) (W : y_wf (D, f, n, tb, ts, flt, A, ac)) (H : y_rm I (D, f, n, tb, ts, flt, A, ac)) (N : Int) : y_MM c T I R J (k_M_first 379 N (c, T, I, J, R)) (if 1 ≤ N ∧ N ≤ 40 then 0 else 1) (z_nth D f N.toNat 0) (y_nt D f n tb ts flt A ac N 0) := by
  refine y_MM_c (fun I' h => ?_) (z_M_first L W.1 H W.2.2.2.1 (fun k hk => (W.2.2.2.2 k hk).1) N)
  unfold y_nt
  by_cases hc : (1 ≤ N ∧ N ≤ 40) ∧ z_sq D f 4 0 0 0 N.toNat (z_s0 0) < z_sen D 0 N.toNat (z_s0 0)
  · rw [z_ifT ⟨⟨hc.1, Int.le_refl 0⟩, hc.2⟩]; dsimp only at h; rw [if_pos hc] at h; exact h
  · rw [z_ifF (fun q => hc ⟨q.1.1, q.2⟩)]; dsimp only at h; rw [if_neg hc] at h; exact h
noncomputable def y_nx (D f : Nat → Int) (n : Nat) (tb : Nat → Int) (ts : Nat) (flt : Int) (A : Nat → (Nat → Int) × Nat) (ac : Nat) : y_Sg := z_if (n ≤ 40 ∧ n ≠ 0 ∧ z_nF D f n) (D, z_nW D f n, n, tb, ts, flt, z_Ap A f n, min 10 (ac + 1)) (D, f, n, tb, ts, flt, A, ac)
theorem y_nx_w (W : y_wf (D, f, n, tb, ts, flt, A, ac)) : y_wf (y_nx D f n tb ts flt A ac) := y_ifw (fun h => y_wf_word W (by omega) (y_sq_lt W.1 (z_nS_w W.1 W.2.1.2 (by have := h.2.1; omega) (by omega)) h.2.2)) W
theorem y_nx_X (LX : z_XL T R t s) (W : y_wf (D, f, n, tb, ts, flt, A, ac)) (H : y_rx I t (D, f, n, tb, ts, flt, A, ac)) : y_XX c T I R J (k_X_next 20 (c, T, I, J, R)) (if n ≤ 40 then .inr (z_nxA D f n) else .inl 2) (y_nx D f n tb ts flt A ac) := by
  refine y_XX_r LX (fun I' h => ?_) (z_X_next LX W.1 H W.2.2.2.1 W.2.1.2)
  unfold y_nx
  by_cases hc : n ≤ 40 ∧ n ≠ 0 ∧ z_nF D f n
  · rw [z_ifT hc]; dsimp only at h; rw [if_pos hc] at h; exact h
  · rw [z_ifF hc]; dsimp only at h; rw [if_neg hc] at h; exact h
theorem y_nx_M (L : z_ML T R) (W : y_wf (D, f, n, tb, ts, flt, A, ac)) (H : y_rm I (D, f, n, tb, ts, flt, A, ac)) : y_MM c T I R J (k_M_next 379 (c, T, I, J, R)) (if n ≤ 40 then 0 else 1) (z_nxA D f n) (y_nx D f n tb ts flt A ac) := by
  refine y_MM_c (fun I' h => ?_) (z_M_next L W.1 H W.2.2.2.1 (fun k hk => (W.2.2.2.2 k hk).1) W.2.1.2)
  unfold y_nx
  by_cases hc : n ≤ 40 ∧ n ≠ 0 ∧ z_nF D f n
  · rw [z_ifT hc]; dsimp only at h; rw [if_pos hc] at h; exact h
  · rw [z_ifF hc]; dsimp only at h; rw [if_neg hc] at h; exact h
noncomputable def y_im (D f : Nat → Int) (n : Nat) (tb : Nat → Int) (ts : Nat) (flt : Int) (A : Nat → (Nat → Int) × Nat) (ac : Nat) (m : Int) : y_Sg := z_if ((0 ≤ m ∧ m < D 4) ∧ z_ist D m.toNat f n ≤ 64) (D, z_ig D m.toNat f n, z_ist D m.toNat f n, tb, ts, flt, z_Ap A f n, min 10 (ac + 1)) (D, f, n, tb, ts, flt, A, ac)
theorem y_im_w (W : y_wf (D, f, n, tb, ts, flt, A, ac)) (m : Int) : y_wf (y_im D f n tb ts flt A ac m) := y_ifw (fun h => y_wf_word W h.2 (y_ig_lt W.1 (by omega) W.2.1.2)) W
theorem y_im_X (LX : z_XL T R t s) (W : y_wf (D, f, n, tb, ts, flt, A, ac)) (H : y_rx I t (D, f, n, tb, ts, flt, A, ac)) (m : Int) : y_XX c T I R J (k_X_image 20 m (c, T, I, J, R)) (if ¬ (0 ≤ m ∧ m < D 4) then .inl 3 else if 64 < z_ist D m.toNat f n then .inl 2 else .inr (z_ist D m.toNat f n : Int)) (y_im D f n tb ts flt A ac m) := by
  refine y_XX_s LX (fun I' h => ?_) (z_X_image LX W.1 H W.2.2.2.1 W.2.1.2 H.2.2.2.2.2 m)
  unfold y_im
  by_cases hc : (0 ≤ m ∧ m < D 4) ∧ z_ist D m.toNat f n ≤ 64
  · rw [z_ifT hc]; dsimp only at h; rw [if_pos hc] at h; exact h
  · rw [z_ifF hc]; dsimp only at h; rw [if_neg hc] at h; exact h
theorem y_im_M (L : z_ML T R) (W : y_wf (D, f, n, tb, ts, flt, A, ac)) (H : y_rm I (D, f, n, tb, ts, flt, A, ac)) (m : Int) : y_MM c T I R J (k_M_image 379 m (c, T, I, J, R)) (if ¬ (0 ≤ m ∧ m < D 4) then 1 else if 64 < z_ist D m.toNat f n then 2 else 0) (z_ist D m.toNat f n : Int) (y_im D f n tb ts flt A ac m) := by
  refine y_MM_c (fun I' h => ?_) (z_M_image L W.1 H W.2.2.2.1 (fun k hk => (W.2.2.2.2 k hk).1) W.2.1.2 m)
  unfold y_im
  by_cases hc : (0 ≤ m ∧ m < D 4) ∧ z_ist D m.toNat f n ≤ 64
  · rw [z_ifT hc]; dsimp only at h; rw [if_pos hc] at h; exact h
  · rw [z_ifF hc]; dsimp only at h; rw [if_neg hc] at h; exact h
-- fill
noncomputable def y_fi (D f : Nat → Int) (n : Nat) (tb : Nat → Int) (ts : Nat) (flt : Int) (A : Nat → (Nat → Int) × Nat) (ac : Nat) (m l k : Int) : y_Sg := z_if (z_flc D m l k = 0) (D, z_fil D m.toNat l.toNat k.toNat, k.toNat, tb, ts, flt, z_Ap A f n, min 10 (ac + 1)) (D, f, n, tb, ts, flt, A, ac)
theorem y_flc0 {m l k : Int} (h : z_flc D m l k = 0) : (0 ≤ m ∧ m < D 4) ∧ (0 ≤ l ∧ l < D 0) ∧ (1 ≤ k ∧ k ≤ 64) ∧ z_gr D m.toNat l.toNat := by
  unfold z_flc at h
  by_cases h1 : 0 ≤ m ∧ m < D 4
  · rw [if_neg (not_not_intro h1)] at h
    by_cases h2 : ¬ (0 ≤ l ∧ l < D 0) ∨ ¬ (1 ≤ k ∧ k ≤ 64)
    · rw [if_pos h2] at h; exact absurd h (by decide)
    · rw [if_neg h2] at h
      refine ⟨h1, by omega, by omega, ?_⟩
      by_cases h3 : z_b (z_gr D m.toNat l.toNat) = 0
      · rw [if_pos h3] at h; exact absurd h (by decide)
      · exact Classical.byContradiction fun q => h3 (z_b0.mpr q)
  · rw [if_pos h1] at h; exact absurd h (by decide)
theorem y_fi_w (LX : z_XL T R t s) (W : y_wf (D, f, n, tb, ts, flt, A, ac)) (H : y_rx I t (D, f, n, tb, ts, flt, A, ac)) (m l k : Int) : y_wf (y_fi D f n tb ts flt A ac m l k) := by
  refine y_ifw (fun h => ?_) W
  obtain ⟨h1, h2, h3, h4⟩ := y_flc0 h
  have wD : z_Dw D := W.1
  obtain ⟨d1, d2, d3⟩ := z_dA_eq wD
  have hm : ((m.toNat : Nat) : Int) < D 4 := by omega
  have hl : l.toNat < z_dA D := by omega
  obtain ⟨r, M', -, -, c', I', -, -, -, -, q⟩ := z_X_fill1 (c := (0, 0, 0)) (J := fun _ _ => 0) LX W.1 H W.2.2.2.1 (m := m.toNat) (l := l.toNat) (N := k.toNat) hm hl (by omega) h4
  exact y_wf_word W (by omega) q
theorem y_fi_X (LX : z_XL T R t s) (W : y_wf (D, f, n, tb, ts, flt, A, ac)) (H : y_rx I t (D, f, n, tb, ts, flt, A, ac)) (m l k : Int) : y_XX c T I R J (k_X_fill 20 m l k (c, T, I, J, R)) (if z_flc D m l k = 0 then .inr (z_fb1 D (z_fil D m.toNat l.toNat k.toNat) k.toNat) else .inl (if z_flc D m l k = 1 then 3 else if z_flc D m l k = 2 then 1 else 2)) (y_fi D f n tb ts flt A ac m l k) := by
  unfold y_fi
  by_cases h : z_flc D m l k = 0
  · rw [if_pos h, z_ifT h]
    obtain ⟨h1, h2, h3, h4⟩ := y_flc0 h
    have wD : z_Dw D := W.1
    obtain ⟨d1, d2, d3⟩ := z_dA_eq wD
    have hm : ((m.toNat : Nat) : Int) < D 4 := by omega
    have hl : l.toNat < z_dA D := by omega
    have q := z_X_fill1 (c := c) (J := J) LX W.1 H W.2.2.2.1 (m := m.toNat) (l := l.toNat) (N := k.toNat) hm hl (by omega) h4
    rw [show ((m.toNat : Nat) : Int) = m from by omega, show ((l.toNat : Nat) : Int) = l from by omega, show ((k.toNat : Nat) : Int) = k from by omega] at q
    exact y_XX_s LX (fun _ h => h.1) q
  · rw [if_neg h, z_ifF h]; exact y_XX_q LX W.1 H (z_X_fill0 LX W.1 H m l k h)
theorem y_fi_M (L : z_ML T R) (W : y_wf (D, f, n, tb, ts, flt, A, ac)) (H : y_rm I (D, f, n, tb, ts, flt, A, ac)) (m l k : Int) : y_MM c T I R J (k_M_fill 379 m l k (c, T, I, J, R)) (z_flc D m l k) (if z_flc D m l k = 0 then z_fb1 D (z_fil D m.toNat l.toNat k.toNat) k.toNat else 0) (y_fi D f n tb ts flt A ac m l k) := by
  unfold y_fi
  by_cases h : z_flc D m l k = 0
  · rw [if_pos h, z_ifT h, h]
    obtain ⟨h1, h2, h3, h4⟩ := y_flc0 h
    have wD : z_Dw D := W.1
    obtain ⟨d1, d2, d3⟩ := z_dA_eq wD
    have hm : ((m.toNat : Nat) : Int) < D 4 := by omega
    have hl : l.toNat < z_dA D := by omega
    have q := z_M_fill1 (c := c) (J := J) L W.1 H W.2.2.2.1 (fun k hk => (W.2.2.2.2 k hk).1) (m := m.toNat) (l := l.toNat) (N := k.toNat) hm hl (by omega) h4
    rw [show ((m.toNat : Nat) : Int) = m from by omega, show ((l.toNat : Nat) : Int) = l from by omega, show ((k.toNat : Nat) : Int) = k from by omega] at q
    exact y_MM_c (fun _ h => h) q
  · rw [if_neg h, z_ifF h]; exact y_MM_q H (z_M_fill0 L W.1 H m l k h)
-- the tape
def y_fe (D f : Nat → Int) (n : Nat) (tb : Nat → Int) (ts : Nat) (flt : Int) (A : Nat → (Nat → Int) × Nat) (ac : Nat) (a b c d e : Int) : y_Sg := (D, f, n, if ts + 20 ≤ 400 then z_fd tb ts a b c d e else tb, if ts + 20 ≤ 400 then ts + 20 else ts, flt, A, ac)
theorem y_fe_w (W : y_wf (D, f, n, tb, ts, flt, A, ac)) (a b c d e : Int) : y_wf (y_fe D f n tb ts flt A ac a b c d e) := by
  unfold y_fe
  by_cases h : ts + 20 ≤ 400
  · rw [if_pos h, if_pos h]; exact y_wf_tape W ⟨h, z_fd_b W.2.2.1.2⟩
  · rw [if_neg h, if_neg h]; exact W
theorem y_fe_X (LX : z_XL T R t s) (W : y_wf (D, f, n, tb, ts, flt, A, ac)) (H : y_rx I t (D, f, n, tb, ts, flt, A, ac)) (v1 v2 v3 v4 v5 : Int) : y_XX c T I R J (k_X_feed 20 v1 v2 v3 v4 v5 (c, T, I, J, R)) (if ts + 20 ≤ 400 then ((ts + 20 : Nat) : Int) else -1) (y_fe D f n tb ts flt A ac v1 v2 v3 v4 v5) :=
  y_XX_W LX (fun _ h => h) (z_X_feed LX W.1 H W.2.2.1.1 v1 v2 v3 v4 v5)
theorem y_fe_M (L : z_ML T R) (W : y_wf (D, f, n, tb, ts, flt, A, ac)) (H : y_rm I (D, f, n, tb, ts, flt, A, ac)) (v1 v2 v3 v4 v5 : Int) : y_MM c T I R J (k_M_feed 379 v1 v2 v3 v4 v5 (c, T, I, J, R)) 0 (if ts + 20 ≤ 400 then ((ts + 20 : Nat) : Int) else -1) (y_fe D f n tb ts flt A ac v1 v2 v3 v4 v5) :=
  y_MM_c (fun _ h => h) (z_M_feed L H W.2.2.1.1 v1 v2 v3 v4 v5)
def y_en (D f : Nat → Int) (n : Nat) (tb : Nat → Int) (ts : Nat) (flt : Int) (A : Nat → (Nat → Int) × Nat) (ac : Nat) (v : Int) : y_Sg := (D, f, n, tb, if 0 ≤ v ∧ v ≤ (ts : Int) then v.toNat else ts, flt, A, ac)
theorem y_en_w (W : y_wf (D, f, n, tb, ts, flt, A, ac)) (v : Int) : y_wf (y_en D f n tb ts flt A ac v) := by
  have w1 : ts ≤ 400 := W.2.2.1.1
  unfold y_en
  by_cases h : 0 ≤ v ∧ v ≤ (ts : Int)
  · rw [if_pos h]; exact y_wf_tape W ⟨by omega, fun i hi => W.2.2.1.2 i (by show i < ts; omega)⟩
  · rw [if_neg h]; exact W
theorem y_en_X (LX : z_XL T R t s) (W : y_wf (D, f, n, tb, ts, flt, A, ac)) (H : y_rx I t (D, f, n, tb, ts, flt, A, ac)) (v : Int) : y_XX c T I R J (k_X_end 20 v (c, T, I, J, R)) (if 0 ≤ v ∧ v ≤ (ts : Int) then 1 else 0) (y_en D f n tb ts flt A ac v) :=
  y_XX_W LX (fun _ h => h) (z_X_end LX W.1 H v)
theorem y_en_M (L : z_ML T R) (H : y_rm I (D, f, n, tb, ts, flt, A, ac)) (v : Int) : y_MM c T I R J (k_M_end 379 v (c, T, I, J, R)) 0 (if 0 ≤ v ∧ v ≤ (ts : Int) then 1 else 0) (y_en D f n tb ts flt A ac v) :=
  y_MM_c (fun _ h => h) (z_M_end L H v)
-- read and word
theorem y_rd_Xl {e : Nat} (h : z_pTx tb ts = .inl e) (LX : z_XL T R t s) (W : y_wf (D, f, n, tb, ts, flt, A, ac)) (H : y_rx I t (D, f, n, tb, ts, flt, A, ac)) : y_XX c T I R J (k_X_read 20 (c, T, I, J, R)) (.inl 1) (D, f, n, tb, 0, (e : Int), A, ac) := by
  obtain ⟨r, M', q, c', I', R', rfl, hc, g1, g2, g3⟩ := z_X_read (c := c) (J := J) LX W.1 H W.2.2.1.1
  rw [h] at g3
  obtain ⟨rfl, g4, g5⟩ := g3
  exact ⟨_, _, q, rfl, c', I', J, R', t, s, rfl, hc, g4, g2 379 (by omega), g1, g5⟩
theorem y_rd_Xr {w : Nat × (Nat → Int)} (h : z_pTx tb ts = .inr w) (LX : z_XL T R t s) (W : y_wf (D, f, n, tb, ts, flt, A, ac)) (H : y_rx I t (D, f, n, tb, ts, flt, A, ac)) : y_XX c T I R J (k_X_read 20 (c, T, I, J, R)) (.inr (w.2 0)) (w.2, f, 0, tb, 0, -1, A, 0) := by
  obtain ⟨r, M', q, c', I', R', rfl, hc, g1, g2, g3⟩ := z_X_read (c := c) (J := J) LX W.1 H W.2.2.1.1
  rw [h] at g3
  obtain ⟨rfl, g4, g5⟩ := g3
  exact ⟨_, _, q, rfl, c', I', J, R', s, t, rfl, hc, g4, g2 379 (by omega), g1, g5⟩
theorem y_rd_Ml {e : Nat} (h : z_pTx tb ts = .inl e) (L : z_ML T R) (W : y_wf (D, f, n, tb, ts, flt, A, ac)) (H : y_rm I (D, f, n, tb, ts, flt, A, ac)) (x : Int) : y_MM c T I R J (k_M_read 379 (c, T, I, J, R)) 1 x (D, f, n, tb, 0, (e : Int), A, ac) := by
  obtain ⟨r, I', q, g1, g3⟩ := z_M_read (c := c) (J := J) L H W.2.2.1.1 W.2.2.1.2
  rw [h] at g3
  exact ⟨_, _, q, I', J, rfl, g3.1, fun h => absurd h (by decide), g1, rfl, g3.2⟩
theorem y_rd_Mr {w : Nat × (Nat → Int)} (h : z_pTx tb ts = .inr w) (L : z_ML T R) (W : y_wf (D, f, n, tb, ts, flt, A, ac)) (H : y_rm I (D, f, n, tb, ts, flt, A, ac)) : y_MM c T I R J (k_M_read 379 (c, T, I, J, R)) 0 (w.2 0) (w.2, f, 0, tb, 0, -1, A, 0) := by
  obtain ⟨r, I', q, g1, g3⟩ := z_M_read (c := c) (J := J) L H W.2.2.1.1 W.2.2.1.2
  rw [h] at g3
  exact ⟨_, _, q, I', J, rfl, g3.1, fun _ => g3.2.1, g1, rfl, g3.2.2⟩
theorem y_wd_Xl {e : Nat} (h : z_pWd tb ts (D 0) = .inl e) (LX : z_XL T R t s) (W : y_wf (D, f, n, tb, ts, flt, A, ac)) (H : y_rx I t (D, f, n, tb, ts, flt, A, ac)) : y_XX c T I R J (k_X_word 20 (c, T, I, J, R)) (.inl 1) (D, f, n, tb, 0, (e : Int), A, ac) := by
  obtain ⟨r, M', q, c', I', rfl, hc, g1, g3⟩ := z_X_word (c := c) (J := J) LX W.1 H W.2.2.1.1 W.2.2.2.1
  rw [h] at g3
  obtain ⟨rfl, g5⟩ := g3
  exact ⟨_, _, q, rfl, c', I', J, R, t, s, rfl, hc, LX, rfl, g1, g5⟩
theorem y_wd_Xr {w : (Nat → Int) × Nat} (h : z_pWd tb ts (D 0) = .inr w) (LX : z_XL T R t s) (W : y_wf (D, f, n, tb, ts, flt, A, ac)) (H : y_rx I t (D, f, n, tb, ts, flt, A, ac)) : y_XX c T I R J (k_X_word 20 (c, T, I, J, R)) (.inr (w.2 : Int)) (D, w.1, w.2, tb, 0, -1, z_Ap A f n, min 10 (ac + 1)) := by
  obtain ⟨r, M', q, c', I', rfl, hc, g1, g3⟩ := z_X_word (c := c) (J := J) LX W.1 H W.2.2.1.1 W.2.2.2.1
  rw [h] at g3
  obtain ⟨rfl, g5⟩ := g3
  exact ⟨_, _, q, rfl, c', I', J, R, t, s, rfl, hc, LX, rfl, g1, g5⟩
theorem y_wd_Ml {e : Nat} (h : z_pWd tb ts (D 0) = .inl e) (L : z_ML T R) (W : y_wf (D, f, n, tb, ts, flt, A, ac)) (H : y_rm I (D, f, n, tb, ts, flt, A, ac)) (x : Int) : y_MM c T I R J (k_M_word 379 (c, T, I, J, R)) 1 x (D, f, n, tb, 0, (e : Int), A, ac) := by
  obtain ⟨r, I', q, g1, g3⟩ := z_M_word (c := c) (J := J) L W.1 H W.2.2.1.1 W.2.2.1.2 W.2.2.2.1 (fun k hk => (W.2.2.2.2 k hk).1)
  rw [h] at g3
  exact ⟨_, _, q, I', J, rfl, g3.1, fun h => absurd h (by decide), g1, rfl, g3.2⟩
theorem y_wd_Mr {w : (Nat → Int) × Nat} (h : z_pWd tb ts (D 0) = .inr w) (L : z_ML T R) (W : y_wf (D, f, n, tb, ts, flt, A, ac)) (H : y_rm I (D, f, n, tb, ts, flt, A, ac)) : y_MM c T I R J (k_M_word 379 (c, T, I, J, R)) 0 (w.2 : Int) (D, w.1, w.2, tb, 0, -1, z_Ap A f n, min 10 (ac + 1)) := by
  obtain ⟨r, I', q, g1, g3⟩ := z_M_word (c := c) (J := J) L W.1 H W.2.2.1.1 W.2.2.1.2 W.2.2.2.1 (fun k hk => (W.2.2.2.2 k hk).1)
  rw [h] at g3
  exact ⟨_, _, q, I', J, rfl, g3.1, fun _ => g3.2.1, g1, rfl, g3.2.2⟩
theorem y_wd_w {w : (Nat → Int) × Nat} (h : z_pWd tb ts (D 0) = .inr w) (W : y_wf (D, f, n, tb, ts, flt, A, ac)) : y_wf (D, w.1, w.2, tb, 0, -1, z_Ap A f n, min 10 (ac + 1)) := by
  have q := z_pWd_ok h
  have w1 := y_wf_word (flt' := -1) W q.1 q.2
  exact y_wf_tape w1 ⟨Nat.zero_le _, fun i hi => absurd hi (Nat.not_lt_zero i)⟩
theorem y_0_w (W : y_wf (D, f, n, tb, ts, flt, A, ac)) (e : Int) : y_wf (D, f, n, tb, 0, e, A, ac) := y_wf_tape W ⟨Nat.zero_le _, fun i hi => absurd hi (Nat.not_lt_zero i)⟩
end Moves
