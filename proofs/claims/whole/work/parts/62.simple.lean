/-! the first cases: seed, tell, wipe, feed, holds -/
/-- what stays of both memories when only the view changes -/
def kv_stay (Mx Mx' Mm Mm' : kx_M) : Prop := (Mx'.1 0 7 = Mx.1 0 7 ∧ (∀ o, 9 ≤ o → o ≤ 16 → Mx'.1 o = Mx.1 o) ∧ (∀ o, 26 ≤ o → o ≤ 43 → Mx'.1 o = Mx.1 o) ∧ Mx'.1 47 = Mx.1 47 ∧ (∀ o, 26 ≤ o → o ≤ 41 → Mx'.2 o = Mx.2 o)) ∧ (Mm'.1 0 20 = Mm.1 0 20 ∧ Mm'.1 0 10 = Mm.1 0 10 ∧ Mm'.1 8 = Mm.1 8 ∧ Mm'.1 9 = Mm.1 9 ∧ Mm'.1 10 = Mm.1 10 ∧ Mm'.1 12 = Mm.1 12 ∧ Mm'.1 13 = Mm.1 13 ∧ Mm'.2 11 = Mm.2 11)
def kv_rest (Mx Mm : kx_M) (v : Nat) : Prop := ((Mx.1 0 7 = 0 ∧ Mm.1 0 20 = 0) ∨ (Mx.1 0 7 = 1 ∧ Mm.1 0 20 = 1 ∧ ∃ V', kv_ok V' ∧ kv_X Mx 9 V' ∧ kv_O Mm V')) ∧ (∀ s, s < 8 → kv_shelf Mx Mm s v) ∧ kv_tape Mx Mm ∧ (∀ k, k < 5 → Mx.1 47 k = Mm.1 12 (k + 2))
theorem kv_rest_of {Mx Mx' Mm Mm' : kx_M} {v v' : Nat} (hv : v ≤ v') (hs : kv_stay Mx Mx' Mm Mm') (h : kv_rest Mx Mm v) : kv_rest Mx' Mm' v' := by
  obtain ⟨⟨a1, a2, a3, a4, a5⟩, b1, b2, b3, b4, b5, b6, b7, b8⟩ := hs
  obtain ⟨hK, hS, hT, hR⟩ := h
  refine ⟨?_, ?_, ?_, ?_⟩
  · rw [a1, b1]
    rcases hK with hK | ⟨h1, h2, V', h3, h4, h5⟩
    · exact Or.inl hK
    · exact Or.inr ⟨h1, h2, V', h3, kv_X_of (fun j hj => a2 _ (by omega) (by omega)) h4, kv_O_of b7 h5⟩
  · intro s hs
    have h1 := hS s hs
    unfold kv_shelf at h1 ⊢
    rw [a3 (26 + 2 * s) (by omega) (by omega), b4, b5, b8, a5 (27 + 2 * s) (by omega) (by omega)]
    obtain ⟨h2, h3⟩ := h1
    refine ⟨h2, ?_⟩
    rcases h3 with h3 | ⟨x, h4, h5⟩ | h3
    · exact Or.inl h3
    · exact Or.inr (Or.inl ⟨x, by omega, h5⟩)
    · exact Or.inr (Or.inr h3)
  · unfold kv_tape at hT ⊢
    rw [a3 42 (by omega) (by omega), a3 43 (by omega) (by omega), b2, b3]
    exact hT
  · intro k hk
    rw [a4, b6]
    exact hR k hk
theorem kv_s_seed {Mx Mm : kx_M} (h : kv_Inv Mx Mm) (a : Int32) : ∃ r Mx' Mm', f_X4_seed a Mx = some (r, Mx') ∧ f_X5_seed a Mm = some (r, Mm') ∧ kv_Inv Mx' Mm' := by
  obtain ⟨V, hok, hX, hM, hR⟩ := h
  refine ⟨V.2.2, kx_u1 Mx 1 10 a, kx_u1 Mm 0 9 a, ?_, ?_, (V.1, V.2.1, a), hok, ?_, ?_, ?_⟩
  · unfold f_X4_seed
    rw [hX.1.2.2.2.1]
  · unfold f_X5_seed
    rw [hM.1.2.2.2.1]
  · obtain ⟨⟨x1, x2, x3, x4, x5⟩, x6, x7, x8, x9, x10⟩ := hX
    refine ⟨⟨?_, ?_, ?_, kv_u1_at, ?_⟩, ?_, ?_, ?_, ?_, ?_⟩
    · rw [kv_u1_no (by omega)]; exact x1
    · rw [kv_u1_no (by omega)]; exact x2
    · rw [kv_u1_no (by omega)]; exact x3
    · rw [kv_u1_no (by omega)]; exact x5
    · rw [kx_u1_ne (by omega), kx_u1_ne (by omega)]; exact x6
    · rw [kx_u1_ne (by omega), kx_u1_ne (by omega), kx_u1_ne (by omega), kx_u1_ne (by omega)]; exact x7
    · rw [kv_u1_no (by omega)]; exact x8
    · rw [kv_u1_no (by omega)]; exact x9
    · rw [kx_u1_ne (by omega)]; exact x10
  · obtain ⟨⟨x1, x2, x3, x4, x5⟩, x6, x7⟩ := hM
    refine ⟨⟨?_, ?_, ?_, kv_u1_at, ?_⟩, ?_, ?_⟩
    · rw [kv_u1_no (by omega)]; exact x1
    · rw [kx_u1_ne (by omega)]; exact x2
    · rw [kx_u1_ne (by omega)]; exact x3
    · rw [kv_u1_no (by omega)]; exact x5
    · rw [kx_u1_ne (by omega), kx_u1_ne (by omega)]; exact x6
    · rw [kx_u1_ne (by omega), kx_u1_ne (by omega), kx_u1_ne (by omega), kx_u1_ne (by omega)]; exact x7
  · exact kv_rest_of (Nat.le_refl _) ⟨⟨kv_u1_no (by omega), fun o h1 h2 => kx_u1_ne (by omega), fun o h1 h2 => kx_u1_ne (by omega), kx_u1_ne (by omega), fun o _ _ => rfl⟩, kv_u1_no (by omega), kv_u1_no (by omega), kx_u1_ne (by omega), kx_u1_ne (by omega), kx_u1_ne (by omega), kx_u1_ne (by omega), kx_u1_ne (by omega), rfl⟩ hR
theorem kv_s_wipe {Mx Mm : kx_M} (h : kv_Inv Mx Mm) : ∃ r Mx' Mm', f_X4_wipe Mx = some (r, Mx') ∧ f_X5_wipe Mm = some (r, Mm') ∧ kv_Inv Mx' Mm' := by
  obtain ⟨V, hok, hX, hM, hK, hS, ⟨z, hz, t1, t2, t3⟩, hR⟩ := h
  refine ⟨nI z, kx_u1 Mx 42 1 0, kx_u1 Mm 0 10 0, by unfold f_X4_wipe; rw [t1], by unfold f_X5_wipe; rw [t2], V, hok, kv_X_of (fun j hj => kx_u1_ne (by omega)) hX, kv_M_of (kv_u1_no (by omega)) (kv_u1_no (by omega)) (kv_u1_no (by omega)) (fun j h1 h2 => kx_u1_ne (by omega)) hM, ?_, ?_, ⟨0, by omega, kv_u1_at, kv_u1_at, fun k hk => absurd hk (Nat.not_lt_zero k)⟩, ?_⟩
  · rw [kv_u1_no (by omega), kv_u1_no (by omega)]
    rcases hK with hK | ⟨h1, h2, V', h3, h4, h5⟩
    · exact Or.inl hK
    · exact Or.inr ⟨h1, h2, V', h3, kv_X_of (fun j hj => kx_u1_ne (by omega)) h4, kv_O_of (kx_u1_ne (by omega)) h5⟩
  · intro s hs
    have h1 := hS s hs
    unfold kv_shelf at h1 ⊢
    rw [show (kx_u1 Mx 42 1 0).1 (26 + 2 * s) = Mx.1 (26 + 2 * s) from kx_u1_ne (by omega), show (kx_u1 Mm 0 10 0).1 9 = Mm.1 9 from kx_u1_ne (by omega), show (kx_u1 Mm 0 10 0).1 10 = Mm.1 10 from kx_u1_ne (by omega)]
    exact h1
  · intro k hk
    rw [kx_u1_ne (by omega), kx_u1_ne (by omega)]
    exact hR k hk
theorem kv_s_holds {Mx Mm : kx_M} (h : kv_Inv Mx Mm) (a : Int32) : ∃ r, f_X4_holds Mx a = some r ∧ f_X5_holds Mm a = some r := by
  obtain ⟨V, hok, hX, hM, hK, hS, hT, hR⟩ := h
  unfold f_X4_holds f_X5_holds
  show ∃ r, (if f_X4_isWithin a 0 7 = true then _ else _) = _ ∧ (if f_X4_isWithin a 0 7 = true then _ else _) = _
  by_cases ha : f_X4_isWithin a 0 7 = true
  · rw [if_pos ha, if_pos ha]
    rw [z_within, decide_eq_true_eq] at ha
    obtain ⟨k, hk, rfl⟩ : ∃ k, k < 8 ∧ a = nI k := by
      refine ⟨a.toInt.toNat, ?_, ?_⟩
      · have h1 := Int32.le_iff_toInt_le.mp ha.2
        have h2 := Int32.le_iff_toInt_le.mp ha.1
        have e7 : (7 : Int32).toInt = 7 := by decide
        have e0 : (0 : Int32).toInt = 0 := by decide
        omega
      · apply Int32.toInt_inj.mp
        have h1 := Int32.le_iff_toInt_le.mp ha.2
        have h2 := Int32.le_iff_toInt_le.mp ha.1
        have e7 : (7 : Int32).toInt = 7 := by decide
        have e0 : (0 : Int32).toInt = 0 := by decide
        rw [nI_toInt (by omega)]
        omega
    rw [z_ck hk (by omega), z_ck hk (by omega), z_clamp (by omega)]
    exact ⟨_, rfl, congrArg some (hS k hk).1.symm⟩
  · rw [if_neg ha, if_neg ha]
    exact ⟨_, rfl, rfl⟩
