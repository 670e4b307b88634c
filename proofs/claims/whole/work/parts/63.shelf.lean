/-! numbers within bounds; tell, feed; the shelves -/
theorem z_in {a : Int32} {n : Nat} (hn : n < 2 ^ 31) (h : f_X4_isWithin a 0 (nI n) = true) : ∃ k, k ≤ n ∧ a = nI k := by
  rw [z_within, decide_eq_true_eq] at h
  have h1 := Int32.le_iff_toInt_le.mp h.2
  have h2 := Int32.le_iff_toInt_le.mp h.1
  rw [nI_toInt hn] at h1
  have e0 : (0 : Int32).toInt = 0 := by decide
  refine ⟨a.toInt.toNat, by omega, Int32.toInt_inj.mp ?_⟩
  rw [nI_toInt (by omega)]
  omega
theorem z_inT {k n : Nat} (hn : n < 2 ^ 31) (hk : k ≤ n) : f_X4_isWithin (nI k) 0 (nI n) = true := by
  rw [z_within, decide_eq_true_eq]
  exact ⟨(nI_leI (a := 0) (b := k) (by omega) (by omega)).mpr (by omega), (nI_leI (a := k) (b := n) (by omega) (by omega)).mpr hk⟩
theorem z_pred {n : Nat} : nI (n + 1) - 1 = nI n := nI_pred n
theorem z_in1 {a : Int32} {n : Nat} (hn : n < 2 ^ 31) (h : f_X4_isWithin a 0 (nI n - 1) = true) : ∃ k, k < n ∧ a = nI k := by
  cases n with
  | zero =>
    rw [z_within, decide_eq_true_eq] at h
    exact absurd (Int32.le_trans h.1 h.2) (by decide)
  | succ n =>
    rw [z_pred] at h
    obtain ⟨k, hk, e⟩ := z_in (by omega) h
    exact ⟨k, by omega, e⟩
theorem z_in1T {k n : Nat} (hn : n < 2 ^ 31) (hk : k < n) : f_X4_isWithin (nI k) 0 (nI n - 1) = true := by
  cases n with
  | zero => omega
  | succ n =>
    rw [z_pred]
    exact z_inT (by omega) (by omega)
theorem kv_s_tell {Mx Mm : kx_M} (h : kv_Inv Mx Mm) (a b : Int32) : ∃ r Mx' Mm', f_X4_tell a b Mx = some (r, Mx') ∧ f_X5_tell a b Mm = some (r, Mm') ∧ kv_Inv Mx' Mm' := by
  obtain ⟨Nx, Nm, n1, n2, n3⟩ := kv_refuse h (r := -2) (Or.inl rfl)
  obtain ⟨V, hok, hX, hM, hR⟩ := h
  have e2 : f_X5_within a 0 1 = f_X4_isOneOfTwo a := by
    rw [kv_within]
    unfold f_X4_isOneOfTwo
    by_cases h0 : a = 0
    · subst h0
      rfl
    · by_cases h1 : a = 1
      · subst h1
        rfl
      · rw [if_neg h0, if_neg h1]
        cases hb : f_X4_isWithin a 0 1 with
        | false => rfl
        | true =>
          obtain ⟨k, hk, rfl⟩ := z_in (n := 1) (by omega) hb
          have : k = 0 ∨ k = 1 := by omega
          rcases this with rfl | rfl
          · exact absurd rfl h0
          · exact absurd rfl h1
  unfold f_X4_tell f_X5_tell
  rw [e2]
  cases hb : f_X4_isOneOfTwo a with
  | false =>
    rw [if_neg (by decide), if_neg (by decide), n1, n2]
    exact ⟨_, _, _, rfl, rfl, n3⟩
  | true =>
    rw [if_pos rfl, if_pos rfl]
    have ha : a = 0 ∨ a = 1 := by
      unfold f_X4_isOneOfTwo at hb
      by_cases h0 : a = 0
      · exact Or.inl h0
      · by_cases h1 : a = 1
        · exact Or.inr h1
        · rw [if_neg h0, if_neg h1] at hb
          cases hb
    obtain ⟨⟨x1, x2, x3, x4, x5⟩, x6, x7, x8, x9, x10⟩ := hX
    obtain ⟨⟨y1, y2, y3, y4, y5⟩, y6, y7⟩ := hM
    rcases ha with rfl | rfl
    · rw [if_pos rfl, if_pos rfl]
      unfold f_X4_tell_21 f_X5_tell_23
      show ∃ r Mx' Mm', (if f_X4_isWithin b 0 (nI 20) = true then _ else _) = _ ∧ (if f_X4_isWithin b 0 (nI 20) = true then _ else _) = _ ∧ _
      by_cases hw : f_X4_isWithin b 0 (nI 20) = true
      · rw [if_pos hw, if_pos hw]
        obtain ⟨k, hk, rfl⟩ := z_in (by omega) hw
        refine ⟨nI (V.1 5 1), kx_u1 Mx 1 8 (nI k), kx_u1 Mm 3 0 (nI k), ?_, ?_, (fun r i => if r = 5 ∧ i = 1 then k else V.1 r i, V.2), hok, ?_, ?_, ?_⟩
        all_goals sorry
      · rw [if_neg hw, if_neg hw, n1, n2]
        exact ⟨_, _, _, rfl, rfl, n3⟩
    · sorry
