/-! what both ask before they do a thing; calls that only look, side by side -/
def kv_Sim (p q : Option (Int32 × kx_M)) : Prop := ∃ r Mx' Mm', p = some (r, Mx') ∧ q = some (r, Mm') ∧ kv_Inv Mx' Mm'
def kv_SimR (p q : Option Int32) : Prop := ∃ r, p = some r ∧ q = some r
theorem kv_Sim_ret {Mx Mm : kx_M} (h : kv_Inv Mx Mm) (r : Int32) : kv_Sim (some (r, Mx)) (some (r, Mm)) := ⟨r, Mx, Mm, rfl, rfl, h⟩
theorem kv_Sim_eq {p q : Option (Int32 × kx_M)} {Mx Mm : kx_M} {r : Int32} (hp : p = some (r, Mx)) (hq : q = some (r, Mm)) (h : kv_Inv Mx Mm) : kv_Sim p q := ⟨r, Mx, Mm, hp, hq, h⟩
theorem kv_Sim_b {p q : Option Int32} {Mx Mm : kx_M} {r : Int32} (hp : p = some r) (hq : q = some r) (h : kv_Inv Mx Mm) : kv_Sim (p.bind fun v => some (v, Mx)) (q.bind fun v => some (v, Mm)) := by
  rw [hp, hq]
  exact kv_Sim_ret h r
theorem kv_Sim_ref {Mx Mm : kx_M} (h : kv_Inv Mx Mm) {r : Int32} (hr : r = -2 ∨ r = -3 ∨ r = -4 ∨ r = -5 ∨ r = -6) : kv_Sim (kx_bd (f_X4_refuse r Mx) fun v M => some (v, M)) (kx_bd (f_X5_no r Mm) fun v M => some (v, M)) := by
  obtain ⟨Nx, Nm, n1, n2, n3⟩ := kv_refuse h hr
  rw [n1, n2]
  exact ⟨_, _, _, rfl, rfl, n3⟩
theorem kv_Sim_no {Mx Mm : kx_M} (h : kv_Inv Mx Mm) : kv_Sim (kx_bd (f_X4_refuse (-2 : Int32) Mx) fun v M => some (v, M)) (kx_bd (f_X5_no (-2 : Int32) Mm) fun v M => some (v, M)) := kv_Sim_ref h (Or.inl rfl)
theorem kv_Sim_stuck {Mx Mm : kx_M} (h : kv_Inv Mx Mm) : kv_Sim (kx_bd (f_X4_refuse (-5 : Int32) Mx) fun v M => some (v, M)) (kx_bd (f_X5_no (-5 : Int32) Mm) fun v M => some (v, M)) := kv_Sim_ref h (Or.inr (Or.inr (Or.inr (Or.inl rfl))))
theorem kv_Sim_other {Mx Mm : kx_M} (h : kv_Inv Mx Mm) : kv_Sim (kx_bd (f_X4_refuse (-3 : Int32) Mx) fun v M => some (v, M)) (kx_bd (f_X5_no (-3 : Int32) Mm) fun v M => some (v, M)) := kv_Sim_ref h (Or.inr (Or.inl rfl))
theorem kv_Sim_nothing {Mx Mm : kx_M} (h : kv_Inv Mx Mm) : kv_Sim (kx_bd (f_X4_refuse (-4 : Int32) Mx) fun v M => some (v, M)) (kx_bd (f_X5_no (-4 : Int32) Mm) fun v M => some (v, M)) := kv_Sim_ref h (Or.inr (Or.inr (Or.inl rfl)))
theorem kv_Sim_full {Mx Mm : kx_M} (h : kv_Inv Mx Mm) : kv_Sim (kx_bd (f_X4_refuse (-6 : Int32) Mx) fun v M => some (v, M)) (kx_bd (f_X5_no (-6 : Int32) Mm) fun v M => some (v, M)) := kv_Sim_ref h (Or.inr (Or.inr (Or.inr (Or.inr rfl))))
/-- a visitor, a cell, a group, cells -/
def g_V (V : kv_V) (a : Int32) : Bool := f_X4_isWithin a (0 : Int32) (nI (V.1 5 3) - (1 : Int32))
def g_C (V : kv_V) (a : Int32) : Bool := f_X4_isWithin a (0 : Int32) (nI (V.1 5 0) - (1 : Int32))
def g_G (V : kv_V) (a : Int32) : Bool := f_X4_isWithin a (0 : Int32) (s_all V)
def s_cells (V : kv_V) : Int32 := ((1 : Int32) <<< (nI (V.1 5 0) &&& 31)) - (1 : Int32)
def g_B (V : kv_V) (a : Int32) : Bool := f_X4_isWithin a (0 : Int32) (s_cells V)
theorem e_X0_V {M : kx_M} {o : Nat} {V : kv_V} (hX : kv_X M o V) (a : Int32) : f_X0_hasVisitor o M a = g_V V a := by
  unfold f_X0_hasVisitor g_V
  rw [hX.1.2.2.2.2]
theorem e_X5_V {M : kx_M} {V : kv_V} (hM : kv_M M V) (a : Int32) : f_X5_isOne M a = g_V V a := by
  unfold f_X5_isOne g_V
  rw [hM.1.2.2.2.2, kv_within]
theorem e_X0_C {M : kx_M} {o : Nat} {V : kv_V} (hX : kv_X M o V) (a : Int32) : f_X0_hasCell o M a = g_C V a := by
  unfold f_X0_hasCell g_C
  rw [hX.1.1]
theorem e_X5_C {M : kx_M} {V : kv_V} (hM : kv_M M V) (a : Int32) : f_X5_isCell M a = g_C V a := by
  unfold f_X5_isCell g_C
  rw [hM.1.1, kv_within]
theorem e_X0_G {M : kx_M} {o : Nat} {V : kv_V} (hX : kv_X M o V) (a : Int32) : f_X0_hasGroup o M a = g_G V a := by
  unfold f_X0_hasGroup g_G
  rw [s_X0_all hX]
theorem e_X5_G {M : kx_M} {V : kv_V} (hM : kv_M M V) (a : Int32) : f_X5_isGroup M a = g_G V a := by
  unfold f_X5_isGroup g_G s_all
  rw [hM.1.2.2.2.2, kv_within]
theorem e_X0_cells {M : kx_M} {o : Nat} {V : kv_V} (hX : kv_X M o V) : f_X0_allCells o M = s_cells V := by
  unfold f_X0_allCells s_cells
  rw [hX.1.1]
theorem e_X0_B {M : kx_M} {o : Nat} {V : kv_V} (hX : kv_X M o V) (a : Int32) : f_X0_hasCells o M a = g_B V a := by
  unfold f_X0_hasCells g_B
  rw [e_X0_cells hX]
theorem e_X5_B {M : kx_M} {V : kv_V} (hM : kv_M M V) (a : Int32) : f_X5_areCells M a = g_B V a := by
  unfold f_X5_areCells g_B s_cells
  rw [hM.1.1, kv_within]
theorem g_V_el {V : kv_V} (hok : kv_ok V) {a : Int32} (h : g_V V a = true) : ∃ x, x < V.1 5 3 ∧ a = nI x := z_in1 (by have := hok.2.2.2.1; omega) h
theorem g_C_el {V : kv_V} (hok : kv_ok V) {a : Int32} (h : g_C V a = true) : ∃ x, x < V.1 5 0 ∧ a = nI x := z_in1 (by have := hok.1.2; omega) h
theorem s_all_n {V : kv_V} (hok : kv_ok V) : s_all V = nI (2 ^ V.1 5 3 - 1) := z_pm (by have := hok.2.2.2.1; omega)
theorem s_cells_n {V : kv_V} (hok : kv_ok V) : s_cells V = nI (2 ^ V.1 5 0 - 1) := z_pm (by have := hok.1.2; omega)
theorem s_pv {V : kv_V} (hok : kv_ok V) : 0 < 2 ^ V.1 5 3 ∧ 2 ^ V.1 5 3 ≤ 256 := ⟨Nat.two_pow_pos _, z_p8 _ hok.2.2.2.1⟩
theorem z_p24 : ∀ v, v ≤ 24 → 2 ^ v ≤ 16777216 := by decide
theorem g_G_el {V : kv_V} (hok : kv_ok V) {a : Int32} (h : g_G V a = true) : ∃ k, k < 2 ^ V.1 5 3 ∧ a = nI k := by
  unfold g_G at h
  rw [s_all_n hok] at h
  have hp := s_pv hok
  obtain ⟨k, hk, e⟩ := z_in (by omega) h
  exact ⟨k, by omega, e⟩
theorem g_B_el {V : kv_V} (hok : kv_ok V) {a : Int32} (h : g_B V a = true) : ∃ k, k < 2 ^ V.1 5 0 ∧ a = nI k := by
  unfold g_B at h
  rw [s_cells_n hok] at h
  have hp := z_p24 _ hok.1.2
  have hq := Nat.two_pow_pos (V.1 5 0)
  obtain ⟨k, hk, e⟩ := z_in (by omega) h
  exact ⟨k, by omega, e⟩
theorem bt_nI (k : Nat) {i : Nat} (hi : i < 32) : bt (nI k) i = k.testBit i := by
  unfold bt
  show (BitVec.ofNat 32 k).getLsbD i = _
  rw [BitVec.getLsbD_ofNat, decide_eq_true hi, Bool.true_and]
theorem e_two (a : Int32) : f_X5_within a (0 : Int32) (1 : Int32) = f_X4_isOneOfTwo a := by
  rw [kv_within]
  unfold f_X4_isOneOfTwo
  by_cases h0 : a = 0
  · subst h0
    rfl
  · by_cases h1 : a = 1
    · subst h1
      rfl
    · rw [if_neg h0, if_neg h1]
      cases hb : f_X4_isWithin a 0 1 with
      | false => rfl
      | true =>
        obtain ⟨k, hk, rfl⟩ := z_in (n := 1) (by omega) hb
        have : k = 0 ∨ k = 1 := by omega
        rcases this with rfl | rfl
        · exact absurd rfl h0
        · exact absurd rfl h1
theorem e_two_el {a : Int32} (h : f_X4_isOneOfTwo a = true) : a = 0 ∨ a = 1 := by
  unfold f_X4_isOneOfTwo at h
  by_cases h0 : a = 0
  · exact Or.inl h0
  · by_cases h1 : a = 1
    · exact Or.inr h1
    · rw [if_neg h0, if_neg h1] at h
      cases h
theorem z_flip {α : Type} {x y : Int32} {A B : α} : (if x < y then A else B) = (if y ≤ x then B else A) := by
  by_cases h : x < y
  · rw [if_pos h, if_neg (Int32.not_le.mpr h)]
  · rw [if_neg h, if_pos (Int32.not_lt.mp h)]
theorem x1_k {M : kx_M} {V : kv_V} (hX : kv_X M 1 V) {k : Nat} (hk : k < 8) : M.1 5 k = nI (V.1 2 k) ∧ M.1 6 k = nI (V.1 3 k) ∧ M.1 7 k = nI (V.1 4 k) ∧ M.1 8 k = V.2.1 k := hX.2.2.1 k hk
theorem x1_c {M : kx_M} {V : kv_V} (hX : kv_X M 1 V) {k : Nat} (hk : k < 24) : M.1 2 k = nI (V.1 0 k) ∧ M.1 3 k = nI (V.1 1 k) := hX.2.1 k hk
/-! open, shown, known, fresh, veilThen, both, alike -/
theorem kv_s_open {Mx Mm : kx_M} (h : kv_Inv Mx Mm) (a b : Int32) : kv_Sim (f_X4_open a b Mx) (f_X5_open a b Mm) := by
  obtain ⟨V, hok, hX, hM, hR⟩ := id h
  have hv := hok.2.2.2.1
  unfold f_X4_open f_X5_open f_X0_hasInGroup
  rw [e_X0_V hX, e_X5_V hM, e_X0_G hX, e_X5_G hM]
  cases h1 : g_V V a with
  | false => exact kv_Sim_no h
  | true =>
    cases h2 : g_G V b with
    | false => exact kv_Sim_no h
    | true =>
      obtain ⟨x, hx, rfl⟩ := g_V_el hok h1
      rw [z_isIn b (by omega), z_has b (by omega)]
      cases h3 : bt b x with
      | false => exact kv_Sim_no h
      | true => exact kv_Sim_b (s_X0_open hok hX hx b _ h3) (by rw [s_X5_open hok hM hx, hX.1.2.1]) h
theorem kv_s_shown {Mx Mm : kx_M} (h : kv_Inv Mx Mm) (a b : Int32) : kv_Sim (f_X4_shown a b Mx) (f_X5_shown a b Mm) := by
  obtain ⟨V, hok, hX, hM, hR⟩ := id h
  have hv := hok.2.2.2.1
  unfold f_X4_shown f_X5_shown f_X0_hasInGroup
  rw [e_X0_V hX, e_X5_V hM, e_X0_G hX, e_X5_G hM]
  cases h1 : g_V V a with
  | false => exact kv_Sim_no h
  | true =>
    cases h2 : g_G V b with
    | false => exact kv_Sim_no h
    | true =>
      obtain ⟨x, hx, rfl⟩ := g_V_el hok h1
      rw [z_isIn b (by omega), z_has b (by omega)]
      cases h3 : bt b x with
      | false => exact kv_Sim_no h
      | true => exact kv_Sim_b (s_X0_shown hok hX hx b _ h3) (by rw [s_X5_shown hok hM hx, hX.1.2.1]) h
theorem kv_s_known {Mx Mm : kx_M} (h : kv_Inv Mx Mm) (a : Int32) : kv_Sim (f_X4_known a Mx) (f_X5_known a Mm) := by
  obtain ⟨V, hok, hX, hM, hR⟩ := id h
  unfold f_X4_known f_X5_known
  rw [e_X0_G hX, e_X5_G hM]
  cases h1 : g_G V a with
  | false => exact kv_Sim_no h
  | true => exact kv_Sim_b (s_X0_known hok hX a) (s_X5_known hok hM a) h
theorem kv_s_fresh {Mx Mm : kx_M} (h : kv_Inv Mx Mm) (a : Int32) : kv_Sim (f_X4_fresh a Mx) (f_X5_fresh a Mm) := by
  obtain ⟨V, hok, hX, hM, hR⟩ := id h
  unfold f_X4_fresh f_X5_fresh
  rw [e_X0_G hX, e_X5_G hM]
  cases h1 : g_G V a with
  | false => exact kv_Sim_no h
  | true => exact kv_Sim_b (s_X0_new hok hX a) (s_X5_new hok hM a) h
/-- a group of somebody -/
theorem e_X0_visit {M : kx_M} {o : Nat} {V : kv_V} (hok : kv_ok V) (hX : kv_X M o V) (a : Int32) : f_X0_canVisit o M a = (g_G V a && !decide (a = 0)) := by
  unfold f_X0_canVisit g_G
  rw [s_X0_all hX, z_within, z_within, Bool.eq_iff_iff]
  simp only [Bool.and_eq_true, decide_eq_true_eq, Bool.not_eq_true', decide_eq_false_iff_not]
  have e0 : (0 : Int32).toInt = 0 := by decide
  have e1 : (1 : Int32).toInt = 1 := by decide
  rw [Int32.le_iff_toInt_le, Int32.le_iff_toInt_le, Int32.le_iff_toInt_le, ← Int32.toInt_inj, e0, e1]
  omega
theorem kv_s_veilThen {Mx Mm : kx_M} (h : kv_Inv Mx Mm) (a : Int32) : kv_Sim (f_X4_veilThen a Mx) (f_X5_veilThen a Mm) := by
  obtain ⟨V, hok, hX, hM, hR⟩ := id h
  unfold f_X4_veilThen f_X5_veilThen
  rw [e_X0_visit hok hX, e_X5_G hM]
  cases h1 : g_G V a with
  | false => exact kv_Sim_no h
  | true =>
    obtain ⟨k, hk, rfl⟩ := g_G_el hok h1
    have hp := s_pv hok
    by_cases h0 : nI k = (0 : Int32)
    · rw [decide_eq_true h0, h0]
      exact kv_Sim_no h
    · rw [decide_eq_false h0, if_neg (show ¬ nI k ≤ (0 : Int32) from fun q => h0 (Int32.le_antisymm q (nI_pos' (by omega))))]
      rw [s_X5_behind hok hM, s_X0_behind hok hX, hX.1.2.1]
      exact kv_Sim_ret h _
theorem kv_s_both {Mx Mm : kx_M} (h : kv_Inv Mx Mm) (a b : Int32) : kv_Sim (f_X4_both a b Mx) (f_X5_both a b Mm) := by
  obtain ⟨V, hok, hX, hM, hR⟩ := id h
  have hv := hok.2.2.2.1
  unfold f_X4_both f_X5_both
  rw [e_X0_V hX, e_X5_V hM, e_X0_V hX, e_X5_V hM]
  cases h1 : g_V V a with
  | false => exact kv_Sim_no h
  | true =>
    cases h2 : g_V V b with
    | false => exact kv_Sim_no h
    | true =>
      rw [if_pos rfl, if_pos rfl, if_pos rfl, if_pos rfl]
      by_cases e : a = b
      · rw [if_pos e, if_pos e]
        exact kv_Sim_no h
      · rw [if_neg e, if_neg e]
        obtain ⟨x, hx, rfl⟩ := g_V_el hok h1
        obtain ⟨y, hy, rfl⟩ := g_V_el hok h2
        simp only [z_ck (show x < 8 by omega) (by decide : (8 : Nat) ≤ 4096), z_ck (show y < 8 by omega) (by decide : (8 : Nat) ≤ 4096), nI_clamp (show x < 2 ^ 31 by omega), nI_clamp (show y < 2 ^ 31 by omega), (hM.2.2 x (by omega)).2.2.2, (hM.2.2 y (by omega)).2.2.2, (x1_k hX (show x < 8 by omega)).2.2.2, (x1_k hX (show y < 8 by omega)).2.2.2]
        exact kv_Sim_ret h _
theorem kv_s_alike {Mx Mm : kx_M} (h : kv_Inv Mx Mm) (a b : Int32) : kv_Sim (f_X4_alike a b Mx) (f_X5_alike a b Mm) := by
  obtain ⟨V, hok, hX, hM, hR⟩ := id h
  unfold f_X4_alike f_X5_alike
  rw [e_X0_V hX, e_X5_V hM, e_X0_V hX, e_X5_V hM]
  cases h1 : g_V V a with
  | false => exact kv_Sim_no h
  | true =>
    cases h2 : g_V V b with
    | false => exact kv_Sim_no h
    | true =>
      obtain ⟨x, hx, rfl⟩ := g_V_el hok h1
      obtain ⟨y, hy, rfl⟩ := g_V_el hok h2
      rw [s_X0_alone hok hX hx, s_X0_alone hok hX hy, s_X5_alone hok hM hx, s_X5_alone hok hM hy, hX.1.2.1]
      simp only [if_true, Option.bind_some]
      split <;> exact kv_Sim_ret h _
