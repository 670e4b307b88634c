/-! a new visitor; the tape -/
theorem kx_u1_same {M : kx_M} {o k : Nat} {v : Int32} (h : M.1 o k = v) : kx_u1 M o k v = M := by
  rw [← h]
  exact kx_u1_self
theorem kv_X_kind {M : kx_M} {o : Nat} {V : kv_V} {x w : Nat} (hX : kv_X M o V) (hx : V.1 5 3 ≤ x) : kv_X (kx_u1 M (o + 4) x (nI w)) o (kv_put V 2 x w) := by
  obtain ⟨⟨x1, x2, x3, x4, x5⟩, x6, x7, x8, x9, x10⟩ := hX
  have r : ∀ j, ¬ j = 4 → (kx_u1 M (o + 4) x (nI w)).1 (o + j) = M.1 (o + j) := fun j hj => kx_u1_ne (by omega)
  have r0 : (kx_u1 M (o + 4) x (nI w)).1 o = M.1 o := kx_u1_ne (by omega)
  refine ⟨⟨?_, ?_, ?_, ?_, ?_⟩, ?_, ?_, ?_, ?_, ?_⟩
  · rw [r0]; exact x1
  · rw [r0]; exact x2
  · rw [r0]; exact x3
  · rw [r0]; exact x4
  · rw [r0]; exact x5
  · intro k hk; rw [r 1 (by decide), r 2 (by decide)]; exact x6 k hk
  · intro k hk
    obtain ⟨y0, y1, y2, y3⟩ := x7 k hk
    refine ⟨?_, ?_, ?_, ?_⟩
    · show (if o + 4 = o + 4 ∧ k = x then nI w else M.1 (o + 4) k) = nI (if k = x then w else V.1 2 k)
      by_cases q : k = x
      · rw [if_pos ⟨rfl, q⟩, if_pos q]
      · rw [if_neg (fun z => q z.2), if_neg q]; exact y0
    · rw [r 5 (by decide)]; exact y1
    · rw [r 6 (by decide)]; exact y2
    · rw [r 7 (by decide)]; exact y3
  · rw [r0, x8]
    exact z_mask_congr (fun i hi => by
      unfold kv_asks
      rw [kv_put_ni (by omega)])
  · rw [r0, x9]
    exact z_mask_congr (fun i hi => by
      unfold kv_kid
      rw [kv_put_ni (by omega)])
  · rw [r 3 (by decide)]; exact x10
theorem kv_X_grow {M : kx_M} {o : Nat} {V : kv_V} (hX : kv_X M o V) : kv_X (kx_u1 (kx_u1 (kx_u1 M o 12 (z_mask (kv_asks V) (V.1 5 3 + 1))) o 13 (z_mask (kv_kid V) (V.1 5 3 + 1))) o 11 (nI (V.1 5 3 + 1))) o (kv_put V 5 3 (V.1 5 3 + 1)) := by
  obtain ⟨⟨x1, x2, x3, x4, x5⟩, x6, x7, x8, x9, x10⟩ := hX
  have r : ∀ j, ¬ j = 0 → (kx_u1 (kx_u1 (kx_u1 M o 12 (z_mask (kv_asks V) (V.1 5 3 + 1))) o 13 (z_mask (kv_kid V) (V.1 5 3 + 1))) o 11 (nI (V.1 5 3 + 1))).1 (o + j) = M.1 (o + j) := fun j hj => by
    rw [kx_u1_ne (by omega), kx_u1_ne (by omega), kx_u1_ne (by omega)]
  have s : ∀ k, ¬ k = 11 → ¬ k = 12 → ¬ k = 13 → (kx_u1 (kx_u1 (kx_u1 M o 12 (z_mask (kv_asks V) (V.1 5 3 + 1))) o 13 (z_mask (kv_kid V) (V.1 5 3 + 1))) o 11 (nI (V.1 5 3 + 1))).1 o k = M.1 o k := fun k h1 h2 h3 => by
    rw [kv_u1_no (fun z => h1 z.2), kv_u1_no (fun z => h3 z.2), kv_u1_no (fun z => h2 z.2)]
  refine ⟨⟨?_, ?_, ?_, ?_, ?_⟩, ?_, ?_, ?_, ?_, ?_⟩
  · rw [s 7 (by decide) (by decide) (by decide)]; exact x1
  · rw [s 8 (by decide) (by decide) (by decide)]; exact x2
  · rw [s 9 (by decide) (by decide) (by decide)]; exact x3
  · rw [s 10 (by decide) (by decide) (by decide)]; exact x4
  · exact kv_u1_at
  · intro k hk; rw [r 1 (by decide), r 2 (by decide)]; exact x6 k hk
  · intro k hk; rw [r 4 (by decide), r 5 (by decide), r 6 (by decide), r 7 (by decide)]; exact x7 k hk
  · rw [kv_u1_no (by omega), kv_u1_no (by omega)]
    exact kv_u1_at
  · rw [kv_u1_no (by omega)]
    exact kv_u1_at
  · rw [r 3 (by decide)]; exact x10
def kv_new (V : kv_V) (k a w : Nat) : kv_V := kv_put (kv_see (kv_put (kv_put (kv_put V 2 (V.1 5 3) k) 3 (V.1 5 3) a) 4 (V.1 5 3) w) (upd V.2.1 (V.1 5 3) 0)) 5 3 (V.1 5 3 + 1)
theorem kv_ok_new {V : kv_V} {k a w : Nat} (hok : kv_ok V) (hv : V.1 5 3 < 8) (hk : k ≤ 5) (ha : a ≤ 9) (hw : w ≤ 20) : kv_ok (kv_new V k a w) := by
  have h1 : kv_ok (kv_put (kv_put V 2 (V.1 5 3) k) 3 (V.1 5 3) a) := kv_ok_put (kv_ok_kind hok hk) (fun q => absurd q (by decide)) (fun q => absurd q (by decide)) (fun q => absurd q (by decide)) (fun q => absurd q (by decide)) (fun _ => ha) (fun q => absurd q (by decide))
  exact kv_ok_put (kv_ok_see (kv_ok_want h1 hw) _) (fun _ => ⟨fun q => absurd q (by decide), fun q => absurd q (by decide), fun q => absurd q (by decide), fun _ => by omega⟩) (fun q => absurd q (by decide)) (fun q => absurd q (by decide)) (fun q => absurd q (by decide)) (fun q => absurd q (by decide)) (fun q => absurd q (by decide))
set_option maxRecDepth 100000 in
theorem kv_X_let {M : kx_M} {o : Nat} {V : kv_V} {k a w : Nat} (hX : kv_X M o V) (hv : V.1 5 3 < 8) (hk : k ≤ 5) : ∃ M', f_X0_let o (nI k) (nI a) (nI w) M = some M' ∧ kv_X M' o (kv_new V k a w) ∧ (∀ r, ¬ (o ≤ r ∧ r ≤ o + 7) → M'.1 r = M.1 r) ∧ M'.2 = M.2 := by
  have X1 := kv_X_kind (w := k) hX (Nat.le_refl _)
  have X2 := kv_X_own (x := V.1 5 3) (w := a) X1
  have X3 := kv_X_want (x := V.1 5 3) (w := w) X2
  have X4 := kv_X_seen (x := V.1 5 3) (v := 0) X3
  have X5 := kv_X_grow X4
  have y1 : (kx_u1 M (o + 4) (V.1 5 3) (nI k)).1 o 11 = nI (V.1 5 3) := X1.1.2.2.2.2
  have y2 : (kx_u1 (kx_u1 M (o + 4) (V.1 5 3) (nI k)) (o + 5) (V.1 5 3) (nI a)).1 o 11 = nI (V.1 5 3) := X2.1.2.2.2.2
  have y3 : (kx_u1 (kx_u1 (kx_u1 M (o + 4) (V.1 5 3) (nI k)) (o + 5) (V.1 5 3) (nI a)) (o + 6) (V.1 5 3) (nI w)).1 o 11 = nI (V.1 5 3) := X3.1.2.2.2.2
  generalize e4 : kx_u1 (kx_u1 (kx_u1 (kx_u1 M (o + 4) (V.1 5 3) (nI k)) (o + 5) (V.1 5 3) (nI a)) (o + 6) (V.1 5 3) (nI w)) (o + 7) (V.1 5 3) 0 = M4 at X4 X5
  have y4 : M4.1 o 11 = nI (V.1 5 3) := X4.1.2.2.2.2
  generalize eV : kv_see (kv_put (kv_put (kv_put V 2 (V.1 5 3) k) 3 (V.1 5 3) a) 4 (V.1 5 3) w) (upd (kv_put (kv_put (kv_put V 2 (V.1 5 3) k) 3 (V.1 5 3) a) 4 (V.1 5 3) w).2.1 (V.1 5 3) 0) = V4 at X4 X5
  have v4 : V4.1 5 3 = V.1 5 3 := by rw [← eV]; rfl
  have k4 : V4.1 2 (V.1 5 3) = k := by
    rw [← eV]
    show (kv_put V 2 (V.1 5 3) k).1 2 (V.1 5 3) = k
    exact kv_put_at
  have y12 : M4.1 o 12 = z_mask (kv_asks V4) (V.1 5 3) := by rw [← v4]; exact X4.2.2.2.1
  have y13 : M4.1 o 13 = z_mask (kv_kid V4) (V.1 5 3) := by rw [← v4]; exact X4.2.2.2.2.1
  have hlet : f_X0_let o (nI k) (nI a) (nI w) M = (if nI k = (1 : Int32) then f_X0_let_50 o (nI k) M4 else (if nI k = (3 : Int32) then f_X0_let_50 o (nI k) M4 else f_X0_let_65 o (nI k) M4)) := by
    unfold f_X0_let
    simp only [kx_lt, hX.1.2.2.2.2, nI_clamp (show V.1 5 3 < 2 ^ 31 by omega), y1, y2, y3, z_ck hv (by decide : (8 : Nat) ≤ 4096), e4]
  refine ⟨kx_u1 (kx_u1 (kx_u1 M4 o 12 (z_mask (kv_asks V4) (V.1 5 3 + 1))) o 13 (z_mask (kv_kid V4) (V.1 5 3 + 1))) o 11 (nI (V.1 5 3 + 1)), hlet.trans ?_, ?_, ?_, ?_⟩
  · rw [z_mask_succ, z_mask_succ]
    have hs12 : ∀ v : Int32, (kx_u1 M4 o 12 v).1 o 11 = nI (V.1 5 3) := fun v => (kv_u1_no (by omega)).trans y4
    have hs13 : ∀ v : Int32, (kx_u1 M4 o 13 v).1 o 11 = nI (V.1 5 3) := fun v => (kv_u1_no (by omega)).trans y4
    have hd : ∀ v : Int32, (kx_u1 M4 o 12 v).1 o 13 = z_mask (kv_kid V4) (V.1 5 3) := fun v => (kv_u1_no (by omega)).trans y13
    have hA : kv_asks V4 (V.1 5 3) = (k == 1 || k == 3) := by unfold kv_asks; rw [k4]
    have hC : kv_kid V4 (V.1 5 3) = (k == 5) := by unfold kv_kid; rw [k4]
    unfold f_X0_let_50 f_X0_let_65 kx_lt
    rw [hA, hC, y4, y12, y13]
    have hkk : k = 0 ∨ k = 1 ∨ k = 2 ∨ k = 3 ∨ k = 4 ∨ k = 5 := by omega
    rcases hkk with rfl | rfl | rfl | rfl | rfl | rfl
    · rw [if_neg (by decide), if_neg (by decide), if_neg (by decide), if_neg (by decide), if_neg (by decide), kx_u1_same y12, kx_u1_same y13, nI_1]
    · rw [if_pos (by decide), if_neg (by decide), if_pos (by decide), if_neg (by decide), hs12, kx_u1_same (hd _), nI_1]
    · rw [if_neg (by decide), if_neg (by decide), if_neg (by decide), if_neg (by decide), if_neg (by decide), kx_u1_same y12, kx_u1_same y13, nI_1]
    · rw [if_neg (by decide), if_pos (by decide), if_neg (by decide), if_pos (by decide), if_neg (by decide), hs12, kx_u1_same (hd _), nI_1]
    · rw [if_neg (by decide), if_neg (by decide), if_neg (by decide), if_neg (by decide), if_neg (by decide), kx_u1_same y12, kx_u1_same y13, nI_1]
    · rw [if_neg (by decide), if_neg (by decide), if_pos (by decide), if_neg (by decide), if_pos (by decide), kx_u1_same y12, hs13, nI_1]
  · rw [v4] at X5
    subst eV
    exact X5
  · intro r hr
    rw [kx_u1_ne (by omega), kx_u1_ne (by omega), kx_u1_ne (by omega), ← e4, kx_u1_ne (by omega), kx_u1_ne (by omega), kx_u1_ne (by omega), kx_u1_ne (by omega)]
  · rw [← e4]
    rfl
theorem kv_M_let {M : kx_M} {V : kv_V} {k a w : Nat} (hM : kv_M M V) (hv : V.1 5 3 < 8) : ∃ M', f_X5_newOne (nI k) (nI a) (nI w) M = some (nI (V.1 5 3), M') ∧ kv_M M' (kv_new V k a w) ∧ (∀ r, ¬ r = 0 → ¬ (4 ≤ r ∧ r ≤ 7) → M'.1 r = M.1 r) ∧ (∀ s, ¬ s = 4 → M'.1 0 s = M.1 0 s) ∧ M'.2 = M.2 := by
  have X1 := kv_M_kind (x := V.1 5 3) (w := k) hM
  have X2 := kv_M_own (x := V.1 5 3) (w := a) X1
  have X3 := kv_M_want (x := V.1 5 3) (w := w) X2
  have X4 := kv_M_seen (x := V.1 5 3) (v := 0) X3
  have X5 := kv_M_v (w := V.1 5 3 + 1) X4
  have y1 : (kx_u1 M 4 (V.1 5 3) (nI k)).1 0 4 = nI (V.1 5 3) := X1.1.2.2.2.2
  have y2 : (kx_u1 (kx_u1 M 4 (V.1 5 3) (nI k)) 5 (V.1 5 3) (nI a)).1 0 4 = nI (V.1 5 3) := X2.1.2.2.2.2
  have y3 : (kx_u1 (kx_u1 (kx_u1 M 4 (V.1 5 3) (nI k)) 5 (V.1 5 3) (nI a)) 6 (V.1 5 3) (nI w)).1 0 4 = nI (V.1 5 3) := X3.1.2.2.2.2
  have y4 : (kx_u1 (kx_u1 (kx_u1 (kx_u1 M 4 (V.1 5 3) (nI k)) 5 (V.1 5 3) (nI a)) 6 (V.1 5 3) (nI w)) 7 (V.1 5 3) 0).1 0 4 = nI (V.1 5 3) := X4.1.2.2.2.2
  refine ⟨kx_u1 (kx_u1 (kx_u1 (kx_u1 (kx_u1 M 4 (V.1 5 3) (nI k)) 5 (V.1 5 3) (nI a)) 6 (V.1 5 3) (nI w)) 7 (V.1 5 3) 0) 0 4 (nI (V.1 5 3 + 1)), ?_, X5, ?_, ?_, rfl⟩
  · unfold f_X5_newOne
    simp only [kx_lt, hM.1.2.2.2.2, nI_clamp (show V.1 5 3 < 2 ^ 31 by omega), y1, y2, y3, y4, z_ck hv (by decide : (8 : Nat) ≤ 4096), nI_1]
  · intro r h0 hr
    rw [kx_u1_ne (by omega), kx_u1_ne (by omega), kx_u1_ne (by omega), kx_u1_ne (by omega), kx_u1_ne (by omega)]
  · intro s hs
    rw [kv_u1_no (by omega), kv_u1_no (by omega), kv_u1_no (by omega), kv_u1_no (by omega), kv_u1_no (by omega)]
theorem kv_s_visitor {Mx Mm : kx_M} (h : kv_Inv Mx Mm) (a b c : Int32) : kv_Sim (f_X4_visitor a b c Mx) (f_X5_visitor a b c Mm) := by
  obtain ⟨V, hok, hX, hM, hR⟩ := id h
  have hv := hok.2.2.2.1
  unfold f_X4_visitor f_X5_visitor f_X4_isKind f_X4_isLevel
  rw [kv_within, kv_within, kv_within]
  refine kv_Sim_if (fun h1 => kv_Sim_if (fun h2 => kv_Sim_if (fun h3 => ?_) (fun _ => kv_Sim_no h)) (fun _ => kv_Sim_no h)) (fun _ => kv_Sim_no h)
  obtain ⟨k, hk, rfl⟩ := z_in (n := 5) (by omega) h1
  obtain ⟨w1, hw1, rfl⟩ := z_in (n := 9) (by omega) h2
  obtain ⟨w, hw, rfl⟩ := z_in (n := 20) (by omega) h3
  unfold f_X0_hasRoom
  rw [hX.1.2.2.2.2, hM.1.2.2.2.2]
  by_cases e : V.1 5 3 = 8
  · rw [e]
    exact kv_Sim_full h
  · rw [if_neg (show ¬ (8 : Int32) ≤ nI (V.1 5 3) from nI_ge (a := V.1 5 3) (b := 8) (by omega) (by omega)), if_pos rfl, if_neg (show ¬ nI (V.1 5 3) = (8 : Int32) from fun q => e ((nI_eq (b := 8) (by omega) (by omega)).mp q))]
    obtain ⟨M', g1, g2, g3, g4⟩ := kv_X_let (k := k) (a := w1) (w := w) hX (by omega) hk
    obtain ⟨N', q1, q2, q3, q4, q5⟩ := kv_M_let (k := k) (a := w1) (w := w) hM (by omega)
    rw [g1, q1]
    refine kv_Sim_eq (r := nI (V.1 5 3)) (Mx := M') (Mm := N') ?_ rfl (kv_Inv_of (kv_ok_new hok (by omega) hk hw1 hw) g2 q2 (frX_rows (Or.inl rfl) g3 g4) ⟨fun r h1 h2 => q3 r (by omega) (by omega), q4 10 (by decide), q4 20 (by decide), q5⟩ ?_ hR)
    · have : M'.1 1 11 = nI (V.1 5 3 + 1) := g2.1.2.2.2.2
      show some (M'.1 1 11 - 1, M') = _
      rw [this, nI_pred]
    · exact Nat.le_succ _
/-- the tape alone is another -/
theorem kv_Inv_tape {Mx Mx' Mm Mm' : kx_M} (h : kv_Inv Mx Mm) (hx : ∀ r, ¬ r = 42 → ¬ r = 43 → Mx'.1 r = Mx.1 r) (hx2 : Mx'.2 = Mx.2) (hm0 : ∀ k, k = 0 ∨ k = 4 ∨ k = 9 ∨ k = 20 → Mm'.1 0 k = Mm.1 0 k) (hm : ∀ r, ¬ r = 0 → ¬ r = 8 → ¬ (14 ≤ r) → Mm'.1 r = Mm.1 r) (hm2 : Mm'.2 = Mm.2) (hT : kv_tape Mx' Mm') : kv_Inv Mx' Mm' := by
  obtain ⟨V, hok, hX, hM, hK, hS, _, hR⟩ := h
  refine ⟨V, hok, kv_X_of (fun j hj => hx _ (by omega) (by omega)) hX, kv_M_of (hm0 0 (by omega)) (hm0 4 (by omega)) (hm0 9 (by omega)) (fun j h1 h2 => hm j (by omega) (by omega) (by omega)) hM, ?_, ?_, hT, ?_⟩
  · rw [hx 0 (by omega) (by omega), hm0 20 (by omega)]
    rcases hK with hK | ⟨h1, h2, V', h3, h4, h5⟩
    · exact Or.inl hK
    · exact Or.inr ⟨h1, h2, V', h3, kv_X_of (fun j hj => hx _ (by omega) (by omega)) h4, kv_O_of (hm 13 (by omega) (by omega) (by omega)) h5⟩
  · intro s hs
    have h1 := hS s hs
    unfold kv_shelf at h1 ⊢
    rw [hx (26 + 2 * s) (by omega) (by omega), hm 9 (by omega) (by omega) (by omega), hm 10 (by omega) (by omega) (by omega), hx2, hm2]
    exact h1
  · intro k hk
    rw [hx 47 (by omega) (by omega), hm 12 (by omega) (by omega) (by omega)]
    exact hR k hk
theorem z_char : ∀ k, k < 256 → vp_nar .char ((nI k).toUInt32 % 65536).toInt32 = nI k := by
  intro k hk
  rw [vp_nar_char]
  exact (by decide +kernel : ∀ k, k < 256 → (((nI k).toUInt32 % 65536).toInt32).toUInt32.toUInt16.toUInt32.toInt32 = nI k) k hk
theorem kv_s_feed {Mx Mm : kx_M} (h : kv_Inv Mx Mm) (a : Int32) : kv_Sim (f_X4_feed a Mx) (f_X5_feed a Mm) := by
  obtain ⟨V, hok, hX, hM, hK, hS, ⟨z, hz, t1, t2, t3⟩, hR⟩ := id h
  unfold f_X4_feed f_X5_feed f_X3_hasRoom
  rw [kv_within, t1, t2]
  refine kv_Sim_if (fun h1 => ?_) (fun _ => kv_Sim_no h)
  obtain ⟨k, hk, rfl⟩ := z_in (n := 255) (by omega) h1
  by_cases e : z = 250
  · rw [e]
    exact kv_Sim_full h
  · rw [if_neg (show ¬ (250 : Int32) ≤ nI z from nI_ge (a := z) (b := 250) (by omega) (by omega)), if_pos rfl, if_neg (show ¬ nI z = (250 : Int32) from fun q => e ((nI_eq (b := 250) (by omega) (by omega)).mp q))]
    unfold f_X3_add kx_lt
    rw [t1, z_char k (by omega), z_ck (show z < 250 by omega) (by decide), z_ck (show z < 250 by omega) (by decide), nI_clamp (by omega), nI_1]
    have e1 : (kx_u1 Mx 43 z (nI k)).1 42 1 = nI z := (kv_u1_no (by omega)).trans t1
    have e2 : (kx_u1 (kx_u1 Mm 0 10 (nI (z + 1))) 8 z (nI k)).1 0 10 = nI (z + 1) := (kv_u1_no (by omega)).trans kv_u1_at
    rw [e1, e2, nI_1]
    refine kv_Sim_eq (r := nI (z + 1)) (Mx := kx_u1 (kx_u1 Mx 43 z (nI k)) 42 1 (nI (z + 1))) (Mm := kx_u1 (kx_u1 Mm 0 10 (nI (z + 1))) 8 z (nI k)) ?_ rfl (kv_Inv_tape h ?_ rfl ?_ ?_ rfl ?_)
    · show some (_, _) = _
      rw [kv_u1_at]
    · intro r h1 h2
      rw [kx_u1_ne h1, kx_u1_ne h2]
    · intro s hs
      rw [kv_u1_no (by omega), kv_u1_no (by omega)]
    · intro r h1 h2 _
      rw [kx_u1_ne h2, kx_u1_ne h1]
    · refine ⟨z + 1, by omega, kv_u1_at, e2, fun j hj => ?_⟩
      rw [kx_u1_ne (show ¬ 43 = 42 by decide)]
      by_cases q : j = z
      · rw [q, kv_u1_at, kv_u1_at]
      · rw [kv_u1_no (fun w => q w.2), kv_u1_no (fun w => q w.2), kx_u1_ne (show ¬ 8 = 0 by decide)]
        exact t3 j (by omega)
