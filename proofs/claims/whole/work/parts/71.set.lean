/-! calls that change a thing of the view -/
theorem kx_u1_self {M : kx_M} {o k : Nat} : kx_u1 M o k (M.1 o k) = M := by
  refine Prod.ext ?_ rfl
  funext a b
  show (if a = o ∧ b = k then M.1 o k else M.1 a b) = M.1 a b
  by_cases h : a = o ∧ b = k
  · rw [if_pos h, h.1, h.2]
  · rw [if_neg h]
theorem kx_u1_twice {M : kx_M} {o k : Nat} {v w : Int32} : kx_u1 (kx_u1 M o k v) o k w = kx_u1 M o k w := by
  refine Prod.ext ?_ rfl
  funext a b
  show (if a = o ∧ b = k then w else if a = o ∧ b = k then v else M.1 a b) = if a = o ∧ b = k then w else M.1 a b
  by_cases h : a = o ∧ b = k
  · rw [if_pos h, if_pos h]
  · rw [if_neg h, if_neg h, if_neg h]
/-- what a change of the view may touch -/
def frX (M M' : kx_M) : Prop := (∀ r, ¬ (1 ≤ r ∧ r ≤ 8) → ¬ (17 ≤ r ∧ r ≤ 24) → ¬ (44 ≤ r ∧ r ≤ 46) → M'.1 r = M.1 r) ∧ M'.2 = M.2
def frM (M M' : kx_M) : Prop := (∀ r, 8 ≤ r → r ≤ 13 → M'.1 r = M.1 r) ∧ M'.1 0 10 = M.1 0 10 ∧ M'.1 0 20 = M.1 0 20 ∧ M'.2 = M.2
theorem frX_refl (M : kx_M) : frX M M := ⟨fun _ _ _ _ => rfl, rfl⟩
theorem frM_refl (M : kx_M) : frM M M := ⟨fun _ _ _ => rfl, rfl, rfl, rfl⟩
theorem frX_trans {M M' M'' : kx_M} (h : frX M M') (h2 : frX M' M'') : frX M M'' := ⟨fun r a b c => (h2.1 r a b c).trans (h.1 r a b c), h2.2.trans h.2⟩
theorem frM_trans {M M' M'' : kx_M} (h : frM M M') (h2 : frM M' M'') : frM M M'' := ⟨fun r a b => (h2.1 r a b).trans (h.1 r a b), h2.2.1.trans h.2.1, h2.2.2.1.trans h.2.2.1, h2.2.2.2.trans h.2.2.2⟩
theorem frX_u1 {M : kx_M} {r k : Nat} {v : Int32} (h : (1 ≤ r ∧ r ≤ 8) ∨ (17 ≤ r ∧ r ≤ 24) ∨ (44 ≤ r ∧ r ≤ 46)) : frX M (kx_u1 M r k v) := ⟨fun q a b c => kx_u1_ne (by omega), rfl⟩
theorem frX_rows {M M' : kx_M} {o : Nat} (ho : o = 1 ∨ o = 17) (h : ∀ r, ¬ (o ≤ r ∧ r ≤ o + 7) → M'.1 r = M.1 r) (h2 : M'.2 = M.2) : frX M M' := ⟨fun q a b c => h q (by omega), h2⟩
theorem frM_u1 {M : kx_M} {r k : Nat} {v : Int32} (h : (1 ≤ r ∧ r ≤ 7) ∨ (14 ≤ r ∧ r ≤ 18)) : frM M (kx_u1 M r k v) := ⟨fun q a b => kx_u1_ne (by omega), kv_u1_no (by omega), kv_u1_no (by omega), rfl⟩
theorem frM_0 {M : kx_M} {k : Nat} {v : Int32} (h : ¬ k = 10 ∧ ¬ k = 20) : frM M (kx_u1 M 0 k v) := ⟨fun q a b => kx_u1_ne (by omega), kv_u1_no (by omega), kv_u1_no (by omega), rfl⟩
theorem kv_Inv_of {Mx Mx' Mm Mm' : kx_M} {v : Nat} {V' : kv_V} (hok : kv_ok V') (hX : kv_X Mx' 1 V') (hM : kv_M Mm' V') (fx : frX Mx Mx') (fm : frM Mm Mm') (hv : v ≤ V'.1 5 3) (hR : kv_rest Mx Mm v) : kv_Inv Mx' Mm' :=
  ⟨V', hok, hX, hM, kv_rest_of hv ⟨⟨by rw [fx.1 0 (by omega) (by omega) (by omega)], fun o h1 h2 => fx.1 o (by omega) (by omega) (by omega), fun o h1 h2 => fx.1 o (by omega) (by omega) (by omega), fx.1 47 (by omega) (by omega) (by omega), fun o h1 h2 => by rw [fx.2]⟩, fm.2.2.1, fm.2.1, fm.1 8 (by omega) (by omega), fm.1 9 (by omega) (by omega), fm.1 10 (by omega) (by omega), fm.1 12 (by omega) (by omega), fm.1 13 (by omega) (by omega), by rw [fm.2.2.2]⟩ hR⟩
theorem kv_s_wants {Mx Mm : kx_M} (h : kv_Inv Mx Mm) (a b : Int32) : kv_Sim (f_X4_wants a b Mx) (f_X5_wants a b Mm) := by
  obtain ⟨V, hok, hX, hM, hR⟩ := id h
  have hv := hok.2.2.2.1
  unfold f_X4_wants f_X5_wants f_X4_isLevel
  rw [e_X0_V hX, e_X5_V hM, kv_within]
  refine kv_Sim_if (fun h1 => kv_Sim_if (fun h2 => ?_) (fun _ => kv_Sim_no h)) (fun _ => kv_Sim_no h)
  obtain ⟨x, hx, rfl⟩ := g_V_el hok h1
  obtain ⟨w, hw, rfl⟩ := z_in (n := 20) (by omega) h2
  simp only [z_ck (show x < 8 by omega) (by decide : (8 : Nat) ≤ 4096), nI_clamp (show x < 2 ^ 31 by omega), (x1_k hX (show x < 8 by omega)).2.2.1, (hM.2.2 x (show x < 8 by omega)).2.2.1]
  exact kv_Sim_eq rfl rfl (kv_Inv_of (kv_ok_want hok hw) (kv_X_want hX) (kv_M_want hM) (frX_u1 (by omega)) (frM_u1 (by omega)) (Nat.le_refl _) hR)
theorem kv_s_tell {Mx Mm : kx_M} (h : kv_Inv Mx Mm) (a b : Int32) : kv_Sim (f_X4_tell a b Mx) (f_X5_tell a b Mm) := by
  obtain ⟨V, hok, hX, hM, hR⟩ := id h
  unfold f_X4_tell f_X5_tell
  rw [e_two]
  refine kv_Sim_if (fun h1 => ?_) (fun _ => kv_Sim_no h)
  rcases e_two_el h1 with rfl | rfl
  · rw [if_pos rfl, if_pos rfl]
    unfold f_X4_tell_21 f_X5_tell_23 f_X4_tell_55
    rw [kv_within]
    refine kv_Sim_if (fun h2 => ?_) (fun _ => kv_Sim_no h)
    obtain ⟨w, hw, rfl⟩ := z_in (n := 20) (by omega) h2
    rw [if_pos rfl, if_pos rfl, z_ck2a, z_ck2a, z_c0, hX.1.2.1, hM.1.2.1]
    exact kv_Sim_eq rfl rfl (kv_Inv_of (kv_ok_veil hok hw) (kv_X_veil hX) (kv_M_veil hM) (frX_u1 (by omega)) (frM_u1 (by omega)) (Nat.le_refl _) hR)
  · rw [if_neg (by decide), if_neg (by decide)]
    unfold f_X4_tell_21 f_X5_tell_23 f_X4_tell_55
    rw [kv_within]
    refine kv_Sim_if (fun h2 => ?_) (fun _ => kv_Sim_no h)
    obtain ⟨w, hw, rfl⟩ := z_in (n := 999) (by omega) h2
    rw [if_neg (by decide), if_neg (by decide), z_ck2b, z_ck2b, z_c1, hX.1.2.2.1, hM.1.2.2.1]
    exact kv_Sim_eq rfl rfl (kv_Inv_of (kv_ok_day hok hw) (kv_X_day hX) (kv_M_day hM) (frX_u1 (by omega)) (frM_u1 (by omega)) (Nat.le_refl _) hR)
/-- all of a Land but the row of what is shown -/
def kv_Y (M : kx_M) (o : Nat) (V : kv_V) : Prop := (M.1 o 7 = nI (V.1 5 0) ∧ M.1 o 8 = nI (V.1 5 1) ∧ M.1 o 9 = nI (V.1 5 2) ∧ M.1 o 10 = V.2.2 ∧ M.1 o 11 = nI (V.1 5 3)) ∧ (∀ k, k < 24 → M.1 (o + 1) k = nI (V.1 0 k) ∧ M.1 (o + 2) k = nI (V.1 1 k)) ∧ (∀ k, k < 8 → M.1 (o + 4) k = nI (V.1 2 k) ∧ M.1 (o + 5) k = nI (V.1 3 k) ∧ M.1 (o + 6) k = nI (V.1 4 k) ∧ M.1 (o + 7) k = V.2.1 k) ∧ M.1 o 12 = z_mask (kv_asks V) (V.1 5 3) ∧ M.1 o 13 = z_mask (kv_kid V) (V.1 5 3)
theorem kv_X_sum {M : kx_M} {o : Nat} {V : kv_V} (hok : kv_ok V) (h : kv_Y M o V) : ∃ M', f_X0_sumUpShown o M = some M' ∧ kv_X M' o V ∧ (∀ r, ¬ r = o + 3 → M'.1 r = M.1 r) ∧ M'.2 = M.2 := by
  obtain ⟨⟨x1, x2, x3, x4, x5⟩, x6, x7, x8, x9⟩ := h
  obtain ⟨f, h1, h2⟩ := z_sumUp (o := o) (M := M) (S := V.1 0) hok.1.2 x1 (fun c hc => ⟨(x6 c (by have := hok.1.2; omega)).1, (hok.2.2.2.2.1 c (by have := hok.1.2; omega)).1⟩)
  refine ⟨_, h1, ?_, fun r hr => kz_set_ne hr, rfl⟩
  have r : ∀ j, ¬ j = 3 → (kz_set M (o + 3) f).1 (o + j) = M.1 (o + j) := fun j hj => kz_set_ne (by omega)
  have r0 : (kz_set M (o + 3) f).1 o = M.1 o := kz_set_ne (by omega)
  refine ⟨⟨?_, ?_, ?_, ?_, ?_⟩, ?_, ?_, ?_, ?_, ?_⟩
  · rw [r0]; exact x1
  · rw [r0]; exact x2
  · rw [r0]; exact x3
  · rw [r0]; exact x4
  · rw [r0]; exact x5
  · intro k hk; rw [r 1 (by decide), r 2 (by decide)]; exact x6 k hk
  · intro k hk; rw [r 4 (by decide), r 5 (by decide), r 6 (by decide), r 7 (by decide)]; exact x7 k hk
  · rw [r0]; exact x8
  · rw [r0]; exact x9
  · intro k hk; rw [kz_set_at]; exact h2 k hk
theorem kv_X_shy {M : kx_M} {o : Nat} {V : kv_V} {c s : Nat} (hok : kv_ok V) (hX : kv_X M o V) (hc : c < 24) (hs : s ≤ 20) : ∃ M', f_X0_makeShy o (nI c) (nI s) M = some M' ∧ kv_X M' o (kv_put V 0 c s) ∧ (∀ r, ¬ (o ≤ r ∧ r ≤ o + 7) → M'.1 r = M.1 r) ∧ M'.2 = M.2 := by
  obtain ⟨⟨x1, x2, x3, x4, x5⟩, x6, x7, x8, x9, x10⟩ := hX
  have r : ∀ j, ¬ j = 1 → (kx_u1 M (o + 1) c (nI s)).1 (o + j) = M.1 (o + j) := fun j hj => kx_u1_ne (by omega)
  have r0 : (kx_u1 M (o + 1) c (nI s)).1 o = M.1 o := kx_u1_ne (by omega)
  obtain ⟨M', h1, h2, h3, h4⟩ := kv_X_sum (M := kx_u1 M (o + 1) c (nI s)) (o := o) (kv_ok_shy (x := c) hok hs) (by
    refine ⟨⟨?_, ?_, ?_, ?_, ?_⟩, ?_, ?_, ?_, ?_⟩
    · rw [r0]; exact x1
    · rw [r0]; exact x2
    · rw [r0]; exact x3
    · rw [r0]; exact x4
    · rw [r0]; exact x5
    · intro k hk
      obtain ⟨y0, y1⟩ := x6 k hk
      refine ⟨?_, by rw [r 2 (by decide)]; exact y1⟩
      show (if o + 1 = o + 1 ∧ k = c then nI s else M.1 (o + 1) k) = nI (if k = c then s else V.1 0 k)
      by_cases q : k = c
      · rw [if_pos ⟨rfl, q⟩, if_pos q]
      · rw [if_neg (fun z => q z.2), if_neg q]; exact y0
    · intro k hk; rw [r 4 (by decide), r 5 (by decide), r 6 (by decide), r 7 (by decide)]; exact x7 k hk
    · rw [r0]; exact x8
    · rw [r0]; exact x9)
  refine ⟨M', ?_, h2, fun q hq => ?_, h4⟩
  · unfold f_X0_makeShy
    rw [z_ck hc (by decide), nI_clamp (by omega), h1]
    rfl
  · rw [h3 q (by omega), kx_u1_ne (by omega)]
theorem kv_X_pave {M : kx_M} {o : Nat} {V : kv_V} {w : Nat} (hok : kv_ok V) (hX : kv_X M o V) (h4 : 4 ≤ w) (hw : w ≤ 24) : ∃ M', f_X0_paveTo o (nI w) M = some M' ∧ kv_X M' o (kv_put V 5 0 w) ∧ (∀ r, ¬ (o ≤ r ∧ r ≤ o + 7) → M'.1 r = M.1 r) ∧ M'.2 = M.2 := by
  obtain ⟨⟨x1, x2, x3, x4, x5⟩, x6, x7, x8, x9, x10⟩ := hX
  have r : ∀ j, ¬ j = 0 → (kx_u1 M o 7 (nI w)).1 (o + j) = M.1 (o + j) := fun j hj => kx_u1_ne (by omega)
  have s : ∀ k, ¬ k = 7 → (kx_u1 M o 7 (nI w)).1 o k = M.1 o k := fun k hk => kv_u1_no (fun z => hk z.2)
  obtain ⟨M', h1, h2, h3, h4⟩ := kv_X_sum (M := kx_u1 M o 7 (nI w)) (o := o) (kv_ok_n hok h4 hw) (by
    refine ⟨⟨kv_u1_at, ?_, ?_, ?_, ?_⟩, ?_, ?_, ?_, ?_⟩
    · rw [s 8 (by decide)]; exact x2
    · rw [s 9 (by decide)]; exact x3
    · rw [s 10 (by decide)]; exact x4
    · rw [s 11 (by decide)]; exact x5
    · intro k hk; rw [r 1 (by decide), r 2 (by decide)]; exact x6 k hk
    · intro k hk; rw [r 4 (by decide), r 5 (by decide), r 6 (by decide), r 7 (by decide)]; exact x7 k hk
    · rw [s 12 (by decide)]; exact x8
    · rw [s 13 (by decide)]; exact x9)
  refine ⟨M', ?_, h2, fun q hq => ?_, h4⟩
  · unfold f_X0_paveTo
    rw [h1]
    rfl
  · rw [h3 q (by omega), kx_u1_ne (by omega)]
theorem kv_s_mark {Mx Mm : kx_M} (h : kv_Inv Mx Mm) (a b c : Int32) : kv_Sim (f_X4_mark a b c Mx) (f_X5_mark a b c Mm) := by
  obtain ⟨V, hok, hX, hM, hR⟩ := id h
  have hn := hok.1.2
  unfold f_X4_mark f_X5_mark
  rw [e_X0_C hX, e_X5_C hM, e_two]
  refine kv_Sim_if (fun h0 => kv_Sim_if (fun h1 => ?_) (fun _ => kv_Sim_no h)) (fun _ => kv_Sim_no h)
  obtain ⟨x, hx, rfl⟩ := g_C_el hok h0
  unfold f_X4_mark_31 f_X5_mark_30 f_X4_mark_69 f_X5_mark_62
  rcases e_two_el h1 with rfl | rfl
  · rw [if_pos rfl, if_pos rfl, kv_within]
    refine kv_Sim_if (fun h2 => ?_) (fun _ => kv_Sim_no h)
    obtain ⟨w, hw, rfl⟩ := z_in (n := 20) (by omega) h2
    obtain ⟨M', g1, g2, g3, g4⟩ := kv_X_shy hok hX (show x < 24 by omega) hw
    simp only [z_ck (show x < 24 by omega) (by decide : (24 : Nat) ≤ 4096), nI_clamp (show x < 2 ^ 31 by omega), (x1_c hX (show x < 24 by omega)).1, (hM.2.1 x (show x < 24 by omega)).1, if_true, g1, Option.bind_some]
    exact kv_Sim_eq rfl rfl (kv_Inv_of (kv_ok_shy hok hw) g2 (kv_M_shy hM) (frX_rows (Or.inl rfl) g3 g4) (frM_u1 (by omega)) (Nat.le_refl _) hR)
  · simp only [if_neg (show ¬ (1 : Int32) = 0 by decide)]
    rw [kv_within]
    refine kv_Sim_if (fun h2 => ?_) (fun _ => kv_Sim_no h)
    obtain ⟨w, hw, rfl⟩ := z_in (n := 9) (by omega) h2
    simp only [z_ck (show x < 24 by omega) (by decide : (24 : Nat) ≤ 4096), nI_clamp (show x < 2 ^ 31 by omega), (x1_c hX (show x < 24 by omega)).2, (hM.2.1 x (show x < 24 by omega)).2]
    exact kv_Sim_eq rfl rfl (kv_Inv_of (kv_ok_thing hok hw) (kv_X_thing hX) (kv_M_thing hM) (frX_u1 (by omega)) (frM_u1 (by omega)) (Nat.le_refl _) hR)
theorem kv_s_paves {Mx Mm : kx_M} (h : kv_Inv Mx Mm) (a : Int32) : kv_Sim (f_X4_paves a Mx) (f_X5_paves a Mm) := by
  obtain ⟨V, hok, hX, hM, hR⟩ := id h
  have hn := hok.1
  have em : (if (4 : Int32) < nI (V.1 5 0) then nI (V.1 5 0) else (4 : Int32)) = nI (V.1 5 0) := by
    by_cases q : (4 : Int32) < nI (V.1 5 0)
    · rw [if_pos q]
    · rw [if_neg q]
      have q2 : ¬ 4 < V.1 5 0 := fun z => q (nI_lt (a := 4) z (by omega))
      have : V.1 5 0 = 4 := by omega
      rw [this]
      rfl
  unfold f_X4_paves f_X5_paves
  rw [hX.1.1, hM.1.1, em, kv_within]
  refine kv_Sim_if (fun h1 => ?_) (fun _ => kv_Sim_no h)
  have h0 : f_X4_isWithin a 0 (nI 24) = true := by
    rw [z_within, decide_eq_true_eq] at h1 ⊢
    exact ⟨Int32.le_trans (nI_pos' (by omega)) h1.1, h1.2⟩
  obtain ⟨w, hw, rfl⟩ := z_in (n := 24) (by omega) h0
  rw [z_within, decide_eq_true_eq] at h1
  have hw4 := (nI_leI (by omega) (by omega)).mp h1.1
  obtain ⟨M', g1, g2, g3, g4⟩ := kv_X_pave hok hX (show 4 ≤ w by omega) hw
  rw [g1]
  exact kv_Sim_eq rfl rfl (kv_Inv_of (kv_ok_n hok (by omega) hw) g2 (kv_M_n hM) (frX_rows (Or.inl rfl) g3 g4) (frM_0 (by omega)) (Nat.le_refl _) hR)
