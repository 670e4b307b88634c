/-! what does not touch a cell leaves what it shows -/
theorem kv_X_of {M M' : kx_M} {o o' : Nat} {V : kv_V} (h : ∀ j, j ≤ 7 → M'.1 (o' + j) = M.1 (o + j)) (hX : kv_X M o V) : kv_X M' o' V := by
  have h0 : M'.1 o' = M.1 o := h 0 (by omega)
  have h1 := h 1 (by omega)
  have h2 := h 2 (by omega)
  have h3 := h 3 (by omega)
  have h4 := h 4 (by omega)
  have h5 := h 5 (by omega)
  have h6 := h 6 (by omega)
  have h7 := h 7 (by omega)
  unfold kv_X at hX ⊢
  rw [h0, h1, h2, h3, h4, h5, h6, h7]
  exact hX
theorem kv_M_of {M M' : kx_M} {V : kv_V} (h0 : M'.1 0 0 = M.1 0 0) (h4 : M'.1 0 4 = M.1 0 4) (h9 : M'.1 0 9 = M.1 0 9) (h : ∀ j, 1 ≤ j → j ≤ 7 → M'.1 j = M.1 j) (hM : kv_M M V) : kv_M M' V := by
  unfold kv_M at hM ⊢
  rw [h0, h4, h9, h 1 (by omega) (by omega), h 2 (by omega) (by omega), h 3 (by omega) (by omega), h 4 (by omega) (by omega), h 5 (by omega) (by omega), h 6 (by omega) (by omega), h 7 (by omega) (by omega)]
  exact hM
theorem kv_O_of {M M' : kx_M} {V : kv_V} (h : M'.1 13 = M.1 13) (hM : kv_O M V) : kv_O M' V := by
  unfold kv_O at hM ⊢
  rw [h]
  exact hM
theorem kv_u1_at {M : kx_M} {o k : Nat} {v : Int32} : (kx_u1 M o k v).1 o k = v := if_pos ⟨rfl, rfl⟩
theorem kv_u1_no {M : kx_M} {o k a b : Nat} {v : Int32} (h : ¬ (a = o ∧ b = k)) : (kx_u1 M o k v).1 a b = M.1 a b := if_neg h
theorem kv_within (a lo hi : Int32) : f_X5_within a lo hi = f_X4_isWithin a lo hi := rfl
/-- a refusal is counted by both -/
theorem kv_refuse {Mx Mm : kx_M} (h : kv_Inv Mx Mm) {r : Int32} (hr : r = -2 ∨ r = -3 ∨ r = -4 ∨ r = -5 ∨ r = -6) : ∃ Mx' Mm', f_X4_refuse r Mx = some (r, Mx') ∧ f_X5_no r Mm = some (r, Mm') ∧ kv_Inv Mx' Mm' := by
  have key : ∀ k : Nat, k < 5 → kv_Inv (kx_u1 Mx 47 k (Mx.1 47 k + 1)) (kx_u1 Mm 12 (k + 2) (Mm.1 12 (k + 2) + 1)) := by
    intro k hk
    obtain ⟨V, hok, hX, hM, hK, hS, hT, hR⟩ := h
    refine ⟨V, hok, kv_X_of (fun j hj => kx_u1_ne (by omega)) hX, kv_M_of (kv_u1_no (by omega)) (kv_u1_no (by omega)) (kv_u1_no (by omega)) (fun j h1 h2 => kx_u1_ne (by omega)) hM, ?_, ?_, ?_, ?_⟩
    · rw [kv_u1_no (by omega), kv_u1_no (by omega)]
      rcases hK with hK | ⟨h1, h2, V', h3, h4, h5⟩
      · exact Or.inl hK
      · exact Or.inr ⟨h1, h2, V', h3, kv_X_of (fun j hj => kx_u1_ne (by omega)) h4, kv_O_of (kx_u1_ne (by omega)) h5⟩
    · intro s hs
      have h1 := hS s hs
      unfold kv_shelf at h1 ⊢
      rw [show (kx_u1 Mx 47 k (Mx.1 47 k + 1)).1 (26 + 2 * s) = Mx.1 (26 + 2 * s) from kx_u1_ne (by omega), show (kx_u1 Mm 12 (k + 2) (Mm.1 12 (k + 2) + 1)).1 9 = Mm.1 9 from kx_u1_ne (by omega), show (kx_u1 Mm 12 (k + 2) (Mm.1 12 (k + 2) + 1)).1 10 = Mm.1 10 from kx_u1_ne (by omega)]
      exact h1
    · unfold kv_tape at hT ⊢
      rw [show (kx_u1 Mx 47 k (Mx.1 47 k + 1)).1 42 = Mx.1 42 from kx_u1_ne (by omega), show (kx_u1 Mx 47 k (Mx.1 47 k + 1)).1 43 = Mx.1 43 from kx_u1_ne (by omega), show (kx_u1 Mm 12 (k + 2) (Mm.1 12 (k + 2) + 1)).1 0 = Mm.1 0 from kx_u1_ne (by omega), show (kx_u1 Mm 12 (k + 2) (Mm.1 12 (k + 2) + 1)).1 8 = Mm.1 8 from kx_u1_ne (by omega)]
      exact hT
    · intro j hj
      by_cases hjk : j = k
      · subst hjk
        rw [kv_u1_at, kv_u1_at, hR j hj]
      · rw [kv_u1_no (by omega), kv_u1_no (by omega), hR j hj]
  rcases hr with rfl | rfl | rfl | rfl | rfl
  · exact ⟨_, _, rfl, rfl, key 0 (by omega)⟩
  · exact ⟨_, _, rfl, rfl, key 1 (by omega)⟩
  · exact ⟨_, _, rfl, rfl, key 2 (by omega)⟩
  · exact ⟨_, _, rfl, rfl, key 3 (by omega)⟩
  · exact ⟨_, _, rfl, rfl, key 4 (by omega)⟩
