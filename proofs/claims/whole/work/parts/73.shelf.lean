/-! comparing longs; the shelves -/
theorem l_lt (x y : Int64) : (lg_cmp x y < 0) = (x < y) := by
  unfold lg_cmp
  rcases Classical.em (y < x) with h | h
  · rw [if_pos h]
    exact propext ⟨fun q => absurd q (by decide), fun q => absurd q (Int64.lt_asymm h)⟩
  · rw [if_neg h]
    rcases Classical.em (x = y) with e | e
    · rw [if_pos e, e]
      exact propext ⟨fun q => absurd q (by decide), fun q => absurd q Int64.lt_irrefl⟩
    · rw [if_neg e]
      exact propext ⟨fun _ => (Int64.lt_or_lt_of_ne e).resolve_right h, fun _ => by decide⟩
theorem l_gt (x y : Int64) : (0 < lg_cmp x y) = (y < x) := by
  unfold lg_cmp
  rcases Classical.em (y < x) with h | h
  · rw [if_pos h]
    exact propext ⟨fun _ => h, fun _ => by decide⟩
  · rw [if_neg h]
    rcases Classical.em (x = y) with e | e
    · rw [if_pos e]
      exact propext ⟨fun q => absurd q (by decide), fun q => absurd q h⟩
    · rw [if_neg e]
      exact propext ⟨fun q => absurd q (by decide), fun q => absurd q h⟩
theorem l_le (x y : Int64) : (lg_cmp x y ≤ 0) = (x ≤ y) := by
  have := l_gt x y
  rw [← Int32.not_lt, this, Int64.not_lt]
theorem l_ge (x y : Int64) : (0 ≤ lg_cmp x y) = (y ≤ x) := by
  have := l_lt x y
  rw [← Int32.not_lt, this, Int64.not_lt]
theorem l_eq (x y : Int64) : (lg_cmp x y = 0) = (x = y) := by
  unfold lg_cmp
  rcases Classical.em (y < x) with h | h
  · rw [if_pos h]
    exact propext ⟨fun q => absurd q (by decide), fun q => absurd (q ▸ h) Int64.lt_irrefl⟩
  · rw [if_neg h]
    rcases Classical.em (x = y) with e | e
    · rw [if_pos e]
      exact propext ⟨fun _ => e, fun _ => rfl⟩
    · rw [if_neg e]
      exact propext ⟨fun q => absurd q (by decide), fun q => absurd q e⟩
theorem l_N {m : Nat} (h : m < 2 ^ 63) : (lN m).toInt = (m : Int) := Int64.toInt_ofNat_of_lt h
theorem l_Nlt {a b : Nat} (ha : a < 2 ^ 63) (hb : b < 2 ^ 63) : (lN a < lN b) = (a < b) := by
  rw [Int64.lt_iff_toInt_lt, l_N ha, l_N hb]
  exact propext ⟨fun h => by omega, fun h => by omega⟩
/-- what a shelf holds is another; the view is as it was -/
theorem kv_Inv_shelf {Mx Mx' Mm Mm' : kx_M} {V : kv_V} (hok : kv_ok V) (hX : kv_X Mx 1 V) (hM : kv_M Mm V) (hR : kv_rest Mx Mm (V.1 5 3)) (hx : ∀ r, ¬ (26 ≤ r ∧ r ≤ 41) → Mx'.1 r = Mx.1 r) (hm : ∀ r, ¬ r = 9 → ¬ r = 10 → Mm'.1 r = Mm.1 r) (hS : ∀ s, s < 8 → kv_shelf Mx' Mm' s (V.1 5 3)) : kv_Inv Mx' Mm' := by
  obtain ⟨hK, _, hT, hR⟩ := hR
  refine ⟨V, hok, kv_X_of (fun j hj => hx _ (by omega)) hX, kv_M_of (by rw [hm 0 (by omega) (by omega)]) (by rw [hm 0 (by omega) (by omega)]) (by rw [hm 0 (by omega) (by omega)]) (fun j h1 h2 => hm j (by omega) (by omega)) hM, ?_, hS, ?_, ?_⟩
  · rw [hx 0 (by omega), hm 0 (by omega) (by omega)]
    rcases hK with hK | ⟨h1, h2, V', h3, h4, h5⟩
    · exact Or.inl hK
    · exact Or.inr ⟨h1, h2, V', h3, kv_X_of (fun j hj => hx _ (by omega)) h4, kv_O_of (hm 13 (by omega) (by omega)) h5⟩
  · unfold kv_tape at hT ⊢
    rw [hx 42 (by omega), hx 43 (by omega), hm 0 (by omega) (by omega), hm 8 (by omega) (by omega)]
    exact hT
  · intro k hk
    rw [hx 47 (by omega), hm 12 (by omega) (by omega)]
    exact hR k hk
theorem sh_none {Mx Mm : kx_M} {s v : Nat} (hS : kv_shelf Mx Mm s v) (hs : s < 8) (e : Mm.1 9 s = -1) : f_X2_holdsVisitor (26 + 2 * s) Mx = false ∧ f_X2_holdsRow (26 + 2 * s) Mx = false ∧ f_X5_isRow Mm (nI s) = some false ∧ f_X5_noRow Mm (nI s) = some (-4) := by
  unfold f_X2_holdsVisitor f_X2_holdsRow f_X5_isRow f_X5_noRow
  simp only [hS.1, z_ck hs (by decide : (8 : Nat) ≤ 4096), nI_clamp (show s < 2 ^ 31 by omega), e]
  exact ⟨rfl, rfl, rfl, rfl⟩
theorem z_ten : ∀ x, x < 8 → ¬ nI (10 + x) < (10 : Int32) ∧ f_X4_isWithin (nI (10 + x)) 0 4 = false ∧ (0 : Int32) ≤ nI (10 + x) ∧ ¬ nI (10 + x) = (-1 : Int32) ∧ nI (10 + x) - (10 : Int32) = nI x := by decide +kernel
theorem z_sort : ∀ t, t < 5 → nI t < (10 : Int32) ∧ f_X4_isWithin (nI t) 0 4 = true ∧ (0 : Int32) ≤ nI t ∧ ¬ nI t = (-1 : Int32) := by decide +kernel
theorem sh_visitor {Mx Mm : kx_M} {s v x : Nat} (hS : kv_shelf Mx Mm s v) (hs : s < 8) (hx : x < 8) (e : Mm.1 9 s = nI (10 + x)) : f_X2_holdsVisitor (26 + 2 * s) Mx = true ∧ f_X2_holdsRow (26 + 2 * s) Mx = false ∧ f_X5_isRow Mm (nI s) = some false ∧ f_X5_noRow Mm (nI s) = some (-3) := by
  obtain ⟨h1, h2, h3, h4, h5⟩ := z_ten x hx
  unfold f_X2_holdsVisitor f_X2_holdsRow f_X5_isRow f_X5_noRow
  simp only [hS.1, z_ck hs (by decide : (8 : Nat) ≤ 4096), nI_clamp (show s < 2 ^ 31 by omega), e, kv_within, h2, if_neg h1]
  exact ⟨trivial, trivial, trivial, trivial⟩
theorem sh_row {Mx Mm : kx_M} {s v t : Nat} (hS : kv_shelf Mx Mm s v) (hs : s < 8) (ht : t < 5) (e : Mm.1 9 s = nI t) : f_X2_holdsVisitor (26 + 2 * s) Mx = false ∧ f_X2_holdsRow (26 + 2 * s) Mx = true ∧ f_X5_isRow Mm (nI s) = some true := by
  obtain ⟨h1, h2, h3, h4⟩ := z_sort t ht
  unfold f_X2_holdsVisitor f_X2_holdsRow f_X5_isRow
  rw [hS.1, z_ck hs (by decide), nI_clamp (by omega), e, kv_within, h2, if_pos h1]
  exact ⟨rfl, rfl, rfl⟩
/-- the first thing against the first elements of a row -/
def s_fault (Mm : kx_M) (s : Nat) (n : Int32) : Int32 := if f_X4_isWithin (Mm.1 9 s) 0 4 = true then (if n ≤ Mm.1 10 s then 0 else -2) else if Mm.1 9 s < 10 then -4 else -3
theorem e_X4_fault {Mx Mm : kx_M} {s v : Nat} (hS : kv_shelf Mx Mm s v) (hv : v ≤ 8) (hs : s < 8) (n : Int32) : f_X4_rowFault Mx (nI s) true n = some (s_fault Mm s n) := by
  unfold f_X4_rowFault s_fault f_X4_isShelf
  rw [if_pos (show f_X4_isWithin (nI s) 0 7 = true from z_inT (n := 7) (by omega) (by omega)), if_pos rfl]
  simp only [z_ck hs (by decide : (8 : Nat) ≤ 4096), nI_clamp (show s < 2 ^ 31 by omega)]
  rcases hS.2 with e | ⟨x, hx, e⟩ | ⟨t, z, ht, hz, e, e2, e3, _⟩
  · obtain ⟨g1, g2, _, _⟩ := sh_none hS hs e
    rw [g1, g2, e]
    rfl
  · obtain ⟨g1, g2, _, _⟩ := sh_visitor hS hs (by omega) e
    rw [g1, e, (z_ten x (by omega)).2.1, if_neg (show ¬ false = true by decide), if_neg (z_ten x (by omega)).1]
    rfl
  · obtain ⟨g1, g2, _⟩ := sh_row hS hs ht e
    rw [g1, g2, e, (z_sort t ht).2.1, e2, e3]
    simp only [if_true, Bool.false_eq_true, if_false]
    split <;> rfl
theorem e_X5_told {Mx Mm : kx_M} {s v : Nat} (hS : kv_shelf Mx Mm s v) (hv : v ≤ 8) (hs : s < 8) (n : Int32) : f_X5_noTold Mm (nI s) n = some (s_fault Mm s n) := by
  unfold f_X5_noTold s_fault
  rcases hS.2 with e | ⟨x, hx, e⟩ | ⟨t, z, ht, hz, e, e2, e3, _⟩
  · obtain ⟨_, _, g3, g4⟩ := sh_none hS hs e
    rw [g3, g4, e]
    rfl
  · obtain ⟨_, _, g3, g4⟩ := sh_visitor hS hs (by omega) e
    rw [g3, g4, e, (z_ten x (by omega)).2.1, if_neg (show ¬ false = true by decide), if_neg (z_ten x (by omega)).1]
    rfl
  · obtain ⟨_, _, g3⟩ := sh_row hS hs ht e
    rw [g3, e, (z_sort t ht).2.1, e2, Option.bind_some, if_pos rfl, if_pos rfl, z_ck hs (by decide), nI_clamp (by omega), e2]
    split <;> rfl
theorem s_fault_or (Mm : kx_M) (s : Nat) (n : Int32) : s_fault Mm s n = 0 ∨ s_fault Mm s n = -2 ∨ s_fault Mm s n = -3 ∨ s_fault Mm s n = -4 := by
  unfold s_fault
  split
  · split
    · exact Or.inl rfl
    · exact Or.inr (Or.inl rfl)
  · split
    · exact Or.inr (Or.inr (Or.inr rfl))
    · exact Or.inr (Or.inr (Or.inl rfl))
theorem s_fault_el {Mx Mm : kx_M} {s v : Nat} {n : Int32} (hS : kv_shelf Mx Mm s v) (hv : v ≤ 8) (h : s_fault Mm s n = 0) : ∃ t z, t < 5 ∧ z ≤ 40 ∧ Mm.1 9 s = nI t ∧ Mm.1 10 s = nI z ∧ Mx.1 (26 + 2 * s) 1 = nI z ∧ (∀ k, k < 40 → Mx.2 (27 + 2 * s) k = Mm.2 11 (40 * s + k)) ∧ n ≤ nI z := by
  unfold s_fault at h
  rcases hS.2 with e | ⟨x, hx, e⟩ | ⟨t, z, ht, hz, e, e2, e3, e4⟩
  · rw [e] at h
    exact absurd h (show ¬ (-4 : Int32) = 0 by decide)
  · rw [e, (z_ten x (by omega)).2.1, if_neg (show ¬ false = true by decide), if_neg (z_ten x (by omega)).1] at h
    exact absurd h (by decide)
  · rw [e, (z_sort t ht).2.1, if_pos rfl, e2] at h
    refine ⟨t, z, ht, hz, e, e2, e3, e4, ?_⟩
    by_cases q : n ≤ nI z
    · exact q
    · rw [if_neg q] at h
      exact absurd h (by decide)
/-- a call that reads a row: both refuse alike -/
theorem kv_Sim_fault {Mx Mm : kx_M} (h : kv_Inv Mx Mm) {s : Nat} {n : Int32} (hf : ¬ s_fault Mm s n = 0) : kv_Sim (kx_bd (f_X4_refuse (s_fault Mm s n) Mx) fun v M => some (v, M)) (kx_bd (f_X5_no (s_fault Mm s n) Mm) fun v M => some (v, M)) := by
  rcases s_fault_or Mm s n with e | e | e | e
  · exact absurd e hf
  · rw [e]; exact kv_Sim_no h
  · rw [e]; exact kv_Sim_other h
  · rw [e]; exact kv_Sim_nothing h
theorem s_fault_neg {Mm : kx_M} {s : Nat} {n : Int32} (hf : ¬ s_fault Mm s n = 0) : ¬ (0 : Int32) ≤ s_fault Mm s n := by
  rcases s_fault_or Mm s n with e | e | e | e
  · exact absurd e hf
  · rw [e]; decide
  · rw [e]; decide
  · rw [e]; decide
theorem g_S_el {a : Int32} (h : f_X4_isWithin a 0 7 = true) : ∃ s, s < 8 ∧ a = nI s := by
  obtain ⟨k, hk, e⟩ := z_in (n := 7) (by omega) h
  exact ⟨k, by omega, e⟩
theorem kv_s_show {Mx Mm : kx_M} (h : kv_Inv Mx Mm) (a b : Int32) : kv_Sim (f_X4_show a b Mx) (f_X5_show a b Mm) := by
  obtain ⟨V, hok, hX, hM, hR⟩ := id h
  have hv := hok.2.2.2.1
  unfold f_X4_show f_X5_show f_X4_isShelf f_X5_isShelf
  rw [kv_within, e_X0_V hX, e_X5_V hM]
  refine kv_Sim_if (fun h1 => ?_) (fun _ => kv_Sim_no h)
  obtain ⟨s, hs, rfl⟩ := g_S_el h1
  have key : ∀ w : Int32, (w = -1 ∨ ∃ x, x < V.1 5 3 ∧ w = nI (10 + x)) → kv_Inv (kx_u1 Mx (26 + 2 * s) 2 w) (kx_u1 Mm 9 s w) := by
    intro w hw
    refine kv_Inv_shelf hok hX hM hR (fun r hr => kx_u1_ne (by omega)) (fun r h1 h2 => kx_u1_ne h1) (fun s' hs' => ?_)
    by_cases e : s' = s
    · subst e
      refine ⟨by rw [kv_u1_at, kv_u1_at], ?_⟩
      rw [kv_u1_at]
      rcases hw with hw | hw
      · exact Or.inl hw
      · exact Or.inr (Or.inl hw)
    · have q := hR.2.1 s' hs'
      unfold kv_shelf at q ⊢
      rw [kx_u1_ne (show ¬ 26 + 2 * s' = 26 + 2 * s by omega), kv_u1_no (show ¬ (9 = 9 ∧ s' = s) from fun z => e z.2), kx_u1_ne (show ¬ 10 = 9 by decide)]
      exact q
  unfold f_X4_show_30 f_X5_show_27
  simp only [z_ck hs (by decide : (8 : Nat) ≤ 4096), nI_clamp (show s < 2 ^ 31 by omega)]
  by_cases hb : b = -1
  · simp only [if_pos hb]
    exact kv_Sim_eq rfl rfl (key _ (Or.inl rfl))
  · simp only [if_neg hb]
    refine kv_Sim_if (fun h2 => ?_) (fun _ => kv_Sim_no h)
    obtain ⟨x, hx, rfl⟩ := g_V_el hok h2
    exact kv_Sim_eq rfl rfl (key _ (Or.inr ⟨x, hx, nI_add 10 x⟩))
theorem kv_s_says {Mx Mm : kx_M} (h : kv_Inv Mx Mm) (a b : Int32) : kv_Sim (f_X4_says a b Mx) (f_X5_says a b Mm) := by
  obtain ⟨V, hok, hX, hM, hR⟩ := id h
  have hv := hok.2.2.2.1
  have eu : ∀ x y : Int32, f_X5_isUnder x y = f_X4_isUnder x y := by
    intro x y
    unfold f_X5_isUnder f_X4_isUnder
    by_cases h1 : x = y
    · rw [if_pos h1, if_pos h1]
      split <;> rfl
    · rw [if_neg h1, if_neg h1]
      split
      · rfl
      · rfl
  unfold f_X4_says f_X5_says f_X4_isShelf f_X5_isShelf f_X4_isKind
  rw [kv_within, kv_within]
  refine kv_Sim_if (fun h1 => kv_Sim_if (fun h2 => ?_) (fun _ => kv_Sim_no h)) (fun _ => kv_Sim_no h)
  obtain ⟨s, hs, rfl⟩ := g_S_el h1
  have hS := hR.2.1 s hs
  simp only [z_ck hs (by decide : (8 : Nat) ≤ 4096), nI_clamp (show s < 2 ^ 31 by omega)]
  rcases hS.2 with e | ⟨x, hx, e⟩ | ⟨t, z, ht, hz, e, e2, e3, _⟩
  · obtain ⟨g1, g2, g3, g4⟩ := sh_none hS hs e
    rw [g1, g2, g3, e]
    exact kv_Sim_nothing h
  · obtain ⟨g1, g2, g3, g4⟩ := sh_visitor hS hs (by omega) e
    obtain ⟨c1, c2, c3, c4, c5⟩ := z_ten x (by omega)
    rw [g1, g2, g3, hS.1, e, c5, e_X0_V hX]
    simp only [Option.bind_some, Bool.false_eq_true, if_false, if_true, if_pos c3]
    have gv : g_V V (nI x) = true := z_in1T (by omega) hx
    simp only [gv, if_true, z_ck (show x < 8 by omega) (by decide : (8 : Nat) ≤ 4096), nI_clamp (show x < 2 ^ 31 by omega), (x1_k hX (show x < 8 by omega)).1, (x1_k hX (show x < 8 by omega)).2.2.1, (hM.2.2 x (show x < 8 by omega)).1, (hM.2.2 x (show x < 8 by omega)).2.2.1, eu]
    refine kv_Sim_if (fun _ => kv_Sim_if (fun _ => kv_Sim_ret h _) (fun _ => ?_)) (fun _ => kv_Sim_other h)
    exact kv_Sim_b (s_X0_open hok hX hx _ _ (by rw [bt_one (by omega) (by omega), decide_eq_true rfl])) (by rw [s_X5_open hok hM hx, hX.1.2.1]) h
  · obtain ⟨g1, g2, g3⟩ := sh_row hS hs ht e
    rw [g2, g3]
    exact kv_Sim_other h
def kv_SimL (p q : Option Int64) : Prop := ∃ r, p = some r ∧ q = some r
theorem z_40 : ∀ s, s < 8 → (40 : Int32) * nI s = nI (40 * s) := by decide +kernel
theorem kv_s_element {Mx Mm : kx_M} (h : kv_Inv Mx Mm) (a b : Int32) : kv_SimL (f_X4_element Mx a b) (f_X5_element Mm a b) := by
  obtain ⟨V, hok, hX, hM, hR⟩ := id h
  have hv := hok.2.2.2.1
  unfold f_X4_element f_X5_element f_X4_isShelf f_X5_isShelf
  rw [kv_within]
  by_cases h1 : f_X4_isWithin a 0 7 = true
  · rw [if_pos h1, if_pos h1]
    obtain ⟨s, hs, rfl⟩ := g_S_el h1
    have hS := hR.2.1 s hs
    simp only [z_ck hs (by decide : (8 : Nat) ≤ 4096), nI_clamp (show s < 2 ^ 31 by omega)]
    rcases hS.2 with e | ⟨x, hx, e⟩ | ⟨t, z, ht, hz, e, e2, e3, e4⟩
    · obtain ⟨g1, g2, g3, g4⟩ := sh_none hS hs e
      rw [g2, g3]
      exact ⟨_, rfl, rfl⟩
    · obtain ⟨g1, g2, g3, g4⟩ := sh_visitor hS hs (by omega) e
      rw [g2, g3]
      exact ⟨_, rfl, rfl⟩
    · obtain ⟨g1, g2, g3⟩ := sh_row hS hs ht e
      rw [g2, g3, e2, e3, if_pos rfl, Option.bind_some, if_pos rfl, kv_within]
      by_cases h2 : f_X4_isWithin b 0 (nI z - 1) = true
      · rw [if_pos h2, if_pos h2]
        obtain ⟨i, hi, rfl⟩ := z_in1 (by omega) h2
        rw [z_40 s hs, nI_add, z_ck (show i < 40 by omega) (by decide), z_ck (show 40 * s + i < 320 by omega) (by decide), nI_clamp (by omega), nI_clamp (by omega)]
        refine ⟨_, rfl, congrArg some ?_⟩
        rw [← e4 i (by omega), show 27 + 2 * s = 26 + 2 * s + 1 by omega]
      · rw [if_neg h2, if_neg h2]
        exact ⟨_, rfl, rfl⟩
  · rw [if_neg h1, if_neg h1]
    exact ⟨_, rfl, rfl⟩
/-- a shelf's row is another: its sort, its size and its elements -/
theorem kv_shelf_row {Mx Mx' Mm Mm' : kx_M} {V : kv_V} {s : Nat} (hok : kv_ok V) (hX : kv_X Mx 1 V) (hM : kv_M Mm V) (hR : kv_rest Mx Mm (V.1 5 3)) (hs : s < 8) (hx : ∀ r, ¬ r = 26 + 2 * s → Mx'.1 r = Mx.1 r) (hx2 : ∀ r, ¬ r = 27 + 2 * s → Mx'.2 r = Mx.2 r) (hm : ∀ r, ¬ r = 9 → ¬ r = 10 → Mm'.1 r = Mm.1 r) (hm9 : ∀ q, ¬ q = s → Mm'.1 9 q = Mm.1 9 q ∧ Mm'.1 10 q = Mm.1 10 q) (hm2 : ∀ j, ¬ (40 * s ≤ j ∧ j < 40 * s + 40) → Mm'.2 11 j = Mm.2 11 j) (hS : kv_shelf Mx' Mm' s (V.1 5 3)) : kv_Inv Mx' Mm' := by
  refine kv_Inv_shelf hok hX hM hR (fun r hr => hx r (by omega)) hm (fun q hq => ?_)
  by_cases e : q = s
  · rw [e]
    exact hS
  · have z := hR.2.1 q hq
    unfold kv_shelf at z ⊢
    rw [hx (26 + 2 * q) (by omega), (hm9 q e).1, (hm9 q e).2, hx2 (27 + 2 * q) (by omega)]
    obtain ⟨z1, z2⟩ := z
    refine ⟨z1, ?_⟩
    rcases z2 with z2 | z2 | ⟨t, l, a1, a2, a3, a4, a5, a6⟩
    · exact Or.inl z2
    · exact Or.inr (Or.inl z2)
    · exact Or.inr (Or.inr ⟨t, l, a1, a2, a3, a4, a5, fun k hk => by rw [hm2 _ (by omega)]; exact a6 k hk⟩)
theorem z_fill2 {wn w : Nat} {v : Int64} {M : kx_M} (h : wn ≤ 4000) : ∃ M', f_J7_fill_d0a16 wn w v M = some M' ∧ M'.1 = M.1 ∧ (∀ k, k < wn → M'.2 w k = v) ∧ (∀ o, ¬ o = w → M'.2 o = M.2 o) := by
  have := kz_loop (F := fun n i N => f_J7_fill_d0a16_6 wn w n v i (Int32.ofNat wn) N) (N := wn) (st := fun i N => kx_u2 N w i v) (k := fun N => some N) (fun i N => N.1 = M.1 ∧ (∀ k, k < i → N.2 w k = v) ∧ (∀ o, ¬ o = w → N.2 o = M.2 o))
    (fun n N _ => by
      rw [f_J7_fill_d0a16_6.eq_2]
      exact if_pos (Int32.le_refl _))
    (fun n i N hi _ => by
      rw [f_J7_fill_d0a16_6.eq_2]
      rw [if_neg (show ¬ Int32.ofNat wn ≤ nI i from nI_ge (b := wn) hi (by omega)), z_ck hi (by omega), nI_clamp (by omega), nI_1])
    (fun i N hi hP => by
      obtain ⟨p1, p2, p3⟩ := hP
      refine ⟨p1, fun k hk => ?_, fun o ho => by rw [kx_u2_ne ho]; exact p3 o ho⟩
      show (if w = w ∧ k = i then v else N.2 w k) = v
      by_cases q : k = i
      · rw [if_pos ⟨rfl, q⟩]
      · rw [if_neg (fun z => q z.2)]
        exact p2 k (by omega)) wn 0 M kx_fuel (by omega) (kz_f _ (by omega)) ⟨rfl, fun k hk => absurd hk (Nat.not_lt_zero k), fun _ _ => rfl⟩
  exact ⟨_, this.1, this.2⟩
theorem z_row0 {s : Nat} {M : kx_M} (hs : s < 8) : ∃ M', f_X5_row_50 kx_fuel (nI s) 0 M = some (1, M') ∧ M'.1 = M.1 ∧ (∀ k, k < 40 → M'.2 11 (40 * s + k) = 0) ∧ (∀ j, ¬ (40 * s ≤ j ∧ j < 40 * s + 40) → M'.2 11 j = M.2 11 j) := by
  have := kz_loop (F := fun n i N => f_X5_row_50 n (nI s) i N) (N := 40) (st := fun i N => kx_u2 N 11 (40 * s + i) 0) (k := fun N => some ((1 : Int32), N)) (fun i N => N.1 = M.1 ∧ (∀ k, k < i → N.2 11 (40 * s + k) = 0) ∧ (∀ j, ¬ (40 * s ≤ j ∧ j < 40 * s + 40) → N.2 11 j = M.2 11 j))
    (fun n N _ => by
      rw [f_X5_row_50.eq_2]
      exact if_pos (by decide))
    (fun n i N hi _ => by
      rw [f_X5_row_50.eq_2]
      rw [if_neg (show ¬ (40 : Int32) ≤ nI i from nI_ge (b := 40) hi (by omega)), z_40 s hs, nI_add, z_ck (show 40 * s + i < 320 by omega) (by decide), nI_clamp (by omega), nI_1])
    (fun i N hi hP => by
      obtain ⟨p1, p2, p3⟩ := hP
      refine ⟨p1, fun k hk => ?_, fun j hj => ?_⟩
      · show (if 11 = 11 ∧ 40 * s + k = 40 * s + i then (0 : Int64) else N.2 11 (40 * s + k)) = 0
        by_cases q : k = i
        · rw [if_pos ⟨rfl, by omega⟩]
        · rw [if_neg (by omega)]
          exact p2 k (by omega)
      · show (if 11 = 11 ∧ j = 40 * s + i then (0 : Int64) else N.2 11 j) = _
        rw [if_neg (by omega)]
        exact p3 j hj) 40 0 M kx_fuel (by omega) (kz_f _ (by omega)) ⟨rfl, fun k hk => absurd hk (Nat.not_lt_zero k), fun _ _ => rfl⟩
  exact ⟨_, this.1, this.2⟩
theorem kv_s_row {Mx Mm : kx_M} (h : kv_Inv Mx Mm) (a b c : Int32) : kv_Sim (f_X4_row a b c Mx) (f_X5_row a b c Mm) := by
  obtain ⟨V, hok, hX, hM, hR⟩ := id h
  unfold f_X4_row f_X5_row f_X4_isShelf f_X5_isShelf
  rw [kv_within, kv_within, kv_within]
  refine kv_Sim_if (fun h1 => kv_Sim_if (fun h2 => kv_Sim_if (fun h3 => ?_) (fun _ => kv_Sim_no h)) (fun _ => kv_Sim_no h)) (fun _ => kv_Sim_no h)
  obtain ⟨s, hs, rfl⟩ := g_S_el h1
  obtain ⟨t, ht, rfl⟩ := z_in (n := 4) (by omega) h2
  obtain ⟨l, hl, rfl⟩ := z_in (n := 40) (by omega) h3
  obtain ⟨M', g1, g2, g3, g4⟩ := z_fill2 (wn := 40) (w := 26 + 2 * s + 1) (v := 0) (M := kx_u1 (kx_u1 Mx (26 + 2 * s) 2 (nI t)) (26 + 2 * s) 1 (nI l)) (by omega)
  obtain ⟨N', q1, q2, q3, q4⟩ := z_row0 (M := kx_u1 (kx_u1 Mm 9 s (nI t)) 10 s (nI l)) hs
  unfold f_X2_holdRow
  simp only [z_ck hs (by decide : (8 : Nat) ≤ 4096), nI_clamp (show s < 2 ^ 31 by omega), g1, q1, Option.bind_some]
  refine kv_Sim_eq rfl rfl (kv_shelf_row hok hX hM hR hs (fun r hr => ?_) (fun r hr => ?_) (fun r r1 r2 => ?_) (fun q hq => ⟨?_, ?_⟩) (fun j hj => ?_) ?_)
  · rw [g2, kx_u1_ne hr, kx_u1_ne hr]
  · rw [g4 r (by omega)]
    rfl
  · rw [q2, kx_u1_ne r2, kx_u1_ne r1]
  · rw [q2, kx_u1_ne (by decide), kv_u1_no (fun z => hq z.2)]
  · rw [q2, kv_u1_no (fun z => hq z.2), kx_u1_ne (by decide)]
  · rw [q4 j hj]
    rfl
  · refine ⟨?_, Or.inr (Or.inr ⟨t, l, by omega, hl, ?_, ?_, ?_, fun k hk => ?_⟩)⟩
    · rw [g2, q2, kv_u1_no (by omega), kv_u1_at, kx_u1_ne (by decide), kv_u1_at]
    · rw [q2, kx_u1_ne (by decide), kv_u1_at]
    · rw [q2, kv_u1_at]
    · rw [g2, kv_u1_at]
    · rw [q3 k hk, show 27 + 2 * s = 26 + 2 * s + 1 by omega]
      exact g3 k hk
theorem z_kept : f_X5_kept = f_X2_asKept := rfl
theorem kv_s_set {Mx Mm : kx_M} (h : kv_Inv Mx Mm) (a b : Int32) (c : Int64) : kv_Sim (f_X4_set a b c Mx) (f_X5_set a b c Mm) := by
  obtain ⟨V, hok, hX, hM, hR⟩ := id h
  have hv := hok.2.2.2.1
  unfold f_X4_set f_X5_set f_X5_isShelf f_X4_set_37
  rw [kv_within]
  by_cases h1 : f_X4_isWithin a 0 7 = true
  · rw [if_pos h1]
    obtain ⟨s, hs, rfl⟩ := g_S_el h1
    have hS := hR.2.1 s hs
    rw [e_X4_fault hS hv hs, Option.bind_some]
    simp only [z_ck hs (by decide : (8 : Nat) ≤ 4096), nI_clamp (show s < 2 ^ 31 by omega)]
    rcases hS.2 with e | ⟨x, hx, e⟩ | ⟨t, z, ht, hz, e, e2, e3, e4⟩
    · obtain ⟨g1, g2, g3, g4⟩ := sh_none hS hs e
      have ef : s_fault Mm s 0 = -4 := by unfold s_fault; rw [e]; rfl
      rw [g3, g4, ef]
      exact kv_Sim_nothing h
    · obtain ⟨g1, g2, g3, g4⟩ := sh_visitor hS hs (by omega) e
      have ef : s_fault Mm s 0 = -3 := by
        unfold s_fault
        rw [e, (z_ten x (by omega)).2.1, if_neg (show ¬ false = true by decide), if_neg (z_ten x (by omega)).1]
      rw [g3, g4, ef]
      exact kv_Sim_other h
    · obtain ⟨g1, g2, g3⟩ := sh_row hS hs ht e
      have ef : s_fault Mm s 0 = 0 := by
        unfold s_fault
        rw [e, (z_sort t ht).2.1, if_pos rfl, e2, if_pos (nI_pos' (by omega))]
      rw [g3, ef, Option.bind_some, if_pos rfl, if_pos rfl, if_pos rfl, e2, e3, kv_within]
      refine kv_Sim_if (fun h2 => ?_) (fun _ => kv_Sim_no h)
      obtain ⟨i, hi, rfl⟩ := z_in1 (by omega) h2
      unfold f_X2_put
      rw [z_40 s hs, nI_add, z_ck (show i < 40 by omega) (by decide), z_ck (show 40 * s + i < 320 by omega) (by decide), nI_clamp (by omega), nI_clamp (by omega), Option.bind_some, hS.1, z_kept, e]
      refine kv_Sim_eq rfl rfl (kv_shelf_row hok hX hM hR hs (fun r hr => rfl) (fun r hr => kx_u2_ne (by omega)) (fun r r1 r2 => rfl) (fun q hq => ⟨rfl, rfl⟩) (fun j hj => ?_) ?_)
      · show (if 11 = 11 ∧ j = 40 * s + i then _ else Mm.2 11 j) = _
        rw [if_neg (by omega)]
      · refine ⟨hS.1, Or.inr (Or.inr ⟨t, z, ht, hz, e, e2, e3, fun k hk => ?_⟩)⟩
        show (if 27 + 2 * s = 26 + 2 * s + 1 ∧ k = i then _ else Mx.2 (27 + 2 * s) k) = (if 11 = 11 ∧ 40 * s + k = 40 * s + i then _ else Mm.2 11 (40 * s + k))
        by_cases q : k = i
        · rw [if_pos ⟨by omega, q⟩, if_pos ⟨rfl, by omega⟩]
        · rw [if_neg (by omega), if_neg (by omega)]
          exact e4 k hk
  · rw [if_neg h1]
    have ef : f_X4_rowFault Mx a true 0 = some (-2) := by
      unfold f_X4_rowFault f_X4_isShelf
      rw [if_neg h1]
    rw [ef]
    exact kv_Sim_no h
