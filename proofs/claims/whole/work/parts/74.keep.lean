/-! images: kept, and taken again -/
theorem z_ck80 {α : Type} {k : Option α} : kx_ck 85 (80 : Int32) k = k := rfl
theorem z_ck81 {α : Type} {k : Option α} : kx_ck 85 (81 : Int32) k = k := rfl
theorem z_ck82 {α : Type} {k : Option α} : kx_ck 85 (82 : Int32) k = k := rfl
theorem z_ck83 {α : Type} {k : Option α} : kx_ck 85 (83 : Int32) k = k := rfl
theorem z_ck84 {α : Type} {k : Option α} : kx_ck 85 (84 : Int32) k = k := rfl
theorem z_c80 : (80 : Int32).toNatClampNeg = 80 := rfl
theorem z_c81 : (81 : Int32).toNatClampNeg = 81 := rfl
theorem z_c82 : (82 : Int32).toNatClampNeg = 82 := rfl
theorem z_c83 : (83 : Int32).toNatClampNeg = 83 := rfl
theorem z_c84 : (84 : Int32).toNatClampNeg = 84 := rfl
theorem kv_keep {M : kx_M} {V : kv_V} {w : Nat} (hw : 13 ≤ w) (hM : kv_M M V) : ∃ f, f_X5_keep w M = some (kz_set M w f) ∧ kv_Of f V := by
  have r : ∀ j f, j < 8 → (kz_set M w f).1 j = M.1 j := fun j f hj => kz_set_ne (by omega)
  have fin : ∃ fin : (Nat → Int32) → (Nat → Int32), fin = fun f => upd (upd (upd (upd (upd f 80 (nI (V.1 5 0))) 81 (nI (V.1 5 1))) 82 (nI (V.1 5 2))) 83 (nI (V.1 5 3))) 84 V.2.2 := ⟨_, rfl⟩
  obtain ⟨fin, hfin⟩ := fin
  have l2 := fun f => kz_loop (F := fun n i f => f_X5_keep_37 w n i (kz_set M w f)) (N := 8) (st := fun i f => upd (upd (upd (upd f (48 + i) (nI (V.1 2 i))) (56 + i) (nI (V.1 3 i))) (64 + i) (nI (V.1 4 i))) (72 + i) (V.2.1 i)) (k := fun f => some (kz_set M w (fin f))) (fun i f => (∀ k, k < 24 → f k = nI (V.1 0 k) ∧ f (24 + k) = nI (V.1 1 k)) ∧ (∀ k, k < i → f (48 + k) = nI (V.1 2 k) ∧ f (56 + k) = nI (V.1 3 k) ∧ f (64 + k) = nI (V.1 4 k) ∧ f (72 + k) = V.2.1 k))
    (fun n f _ => by
      rw [f_X5_keep_37.eq_2, if_pos (show (8 : Int32) ≤ nI 8 by decide)]
      simp only [kx_lt, z_ck80, z_ck81, z_ck82, z_ck83, z_ck84, z_ck2a, z_ck2b, z_c80, z_c81, z_c82, z_c83, z_c84, z_c0, z_c1, kz_set_u1, r _ _ (show 0 < 8 by decide), r _ _ (show 3 < 8 by decide), hM.1.1, hM.1.2.1, hM.1.2.2.1, hM.1.2.2.2.1, hM.1.2.2.2.2, hfin])
    (fun n i f hi _ => by
      obtain ⟨q1, q2, q3, q4⟩ := hM.2.2 i hi
      have e48 : (48 : Int32) + nI i = nI (48 + i) := nI_add 48 i
      have e56 : (56 : Int32) + nI i = nI (56 + i) := nI_add 56 i
      have e64 : (64 : Int32) + nI i = nI (64 + i) := nI_add 64 i
      have e72 : (72 : Int32) + nI i = nI (72 + i) := nI_add 72 i
      rw [f_X5_keep_37.eq_2, if_neg (show ¬ (8 : Int32) ≤ nI i from nI_ge (b := 8) hi (by omega)), e48, e56, e64, e72]
      simp only [kx_lt, z_ck hi (by decide : (8 : Nat) ≤ 4096), z_ck (show 48 + i < 85 by omega) (by decide : (85 : Nat) ≤ 4096), z_ck (show 56 + i < 85 by omega) (by decide : (85 : Nat) ≤ 4096), z_ck (show 64 + i < 85 by omega) (by decide : (85 : Nat) ≤ 4096), z_ck (show 72 + i < 85 by omega) (by decide : (85 : Nat) ≤ 4096), nI_clamp (show i < 2 ^ 31 by omega), nI_clamp (show 48 + i < 2 ^ 31 by omega), nI_clamp (show 56 + i < 2 ^ 31 by omega), nI_clamp (show 64 + i < 2 ^ 31 by omega), nI_clamp (show 72 + i < 2 ^ 31 by omega), kz_set_u1, r _ _ (show 4 < 8 by decide), r _ _ (show 5 < 8 by decide), r _ _ (show 6 < 8 by decide), r _ _ (show 7 < 8 by decide), q1, q2, q3, q4, nI_1])
    (fun i f hi hP => by
      obtain ⟨p1, p2⟩ := hP
      refine ⟨fun k hk => ?_, fun k hk => ?_⟩
      · rw [kz_upd_ne (by omega), kz_upd_ne (by omega), kz_upd_ne (by omega), kz_upd_ne (by omega), kz_upd_ne (by omega), kz_upd_ne (by omega), kz_upd_ne (by omega), kz_upd_ne (by omega)]
        exact p1 k hk
      · by_cases e : k = i
        · subst e
          refine ⟨?_, ?_, ?_, ?_⟩
          · rw [kz_upd_ne (by omega), kz_upd_ne (by omega), kz_upd_ne (by omega), kz_upd_eq rfl]
          · rw [kz_upd_ne (by omega), kz_upd_ne (by omega), kz_upd_eq rfl]
          · rw [kz_upd_ne (by omega), kz_upd_eq rfl]
          · rw [kz_upd_eq rfl]
        · have := p2 k (by omega)
          rw [kz_upd_ne (by omega), kz_upd_ne (by omega), kz_upd_ne (by omega), kz_upd_ne (by omega), kz_upd_ne (by omega), kz_upd_ne (by omega), kz_upd_ne (by omega), kz_upd_ne (by omega), kz_upd_ne (by omega), kz_upd_ne (by omega), kz_upd_ne (by omega), kz_upd_ne (by omega), kz_upd_ne (by omega), kz_upd_ne (by omega), kz_upd_ne (by omega), kz_upd_ne (by omega)]
          exact this) 8 0 f kx_fuel (by omega) (kz_f _ (by omega))
  have l1 := kz_loop (F := fun n i f => f_X5_keep_2 w n i (kz_set M w f)) (N := 24) (st := fun i f => upd (upd f i (nI (V.1 0 i))) (24 + i) (nI (V.1 1 i))) (k := fun f => f_X5_keep_37 w kx_fuel (nI 0) (kz_set M w f)) (fun i f => ∀ k, k < i → f k = nI (V.1 0 k) ∧ f (24 + k) = nI (V.1 1 k))
    (fun n f _ => by
      rw [f_X5_keep_2.eq_2]
      exact if_pos (by decide))
    (fun n i f hi _ => by
      obtain ⟨q1, q2⟩ := hM.2.1 i hi
      have e24 : (24 : Int32) + nI i = nI (24 + i) := nI_add 24 i
      rw [f_X5_keep_2.eq_2, if_neg (show ¬ (24 : Int32) ≤ nI i from nI_ge (b := 24) hi (by omega)), e24]
      simp only [kx_lt, z_ck hi (by decide : (24 : Nat) ≤ 4096), z_ck (show i < 85 by omega) (by decide : (85 : Nat) ≤ 4096), z_ck (show 24 + i < 85 by omega) (by decide : (85 : Nat) ≤ 4096), nI_clamp (show i < 2 ^ 31 by omega), nI_clamp (show 24 + i < 2 ^ 31 by omega), kz_set_u1, r _ _ (show 1 < 8 by decide), r _ _ (show 2 < 8 by decide), q1, q2, nI_1])
    (fun i f hi hP k hk => by
      by_cases e : k = i
      · subst e
        rw [kz_upd_ne (by omega), kz_upd_eq rfl, kz_upd_eq rfl]
        exact ⟨rfl, rfl⟩
      · have := hP k (by omega)
        rw [kz_upd_ne (by omega), kz_upd_ne (by omega), kz_upd_ne (by omega), kz_upd_ne (by omega)]
        exact this) 24 0 (M.1 w) kx_fuel (by omega) (kz_f _ (by omega)) (fun k hk => absurd hk (Nat.not_lt_zero k))
  obtain ⟨a1, a2⟩ := l1
  obtain ⟨b1, b2⟩ := l2 _ ⟨a2, fun k hk => absurd hk (Nat.not_lt_zero k)⟩
  rw [kz_set_self] at a1
  refine ⟨_, Eq.trans a1 b1, ?_⟩
  obtain ⟨c1, c2⟩ := b2
  generalize kz_up _ 8 0 _ = g at c1 c2
  rw [hfin]
  refine ⟨fun k hk => ?_, fun k hk => ?_, rfl, rfl, rfl, rfl, rfl⟩
  · have := c1 k hk
    dsimp only
    rw [kz_upd_ne (by omega), kz_upd_ne (by omega), kz_upd_ne (by omega), kz_upd_ne (by omega), kz_upd_ne (by omega), kz_upd_ne (by omega), kz_upd_ne (by omega), kz_upd_ne (by omega), kz_upd_ne (by omega), kz_upd_ne (by omega)]
    exact this
  · have := c2 k hk
    dsimp only
    refine ⟨?_, ?_, ?_, ?_⟩
    · rw [kz_upd_ne (by omega), kz_upd_ne (by omega), kz_upd_ne (by omega), kz_upd_ne (by omega), kz_upd_ne (by omega)]
      exact this.1
    · rw [kz_upd_ne (by omega), kz_upd_ne (by omega), kz_upd_ne (by omega), kz_upd_ne (by omega), kz_upd_ne (by omega)]
      exact this.2.1
    · rw [kz_upd_ne (by omega), kz_upd_ne (by omega), kz_upd_ne (by omega), kz_upd_ne (by omega), kz_upd_ne (by omega)]
      exact this.2.2.1
    · rw [kz_upd_ne (by omega), kz_upd_ne (by omega), kz_upd_ne (by omega), kz_upd_ne (by omega), kz_upd_ne (by omega)]
      exact this.2.2.2
theorem kv_again {M : kx_M} {V : kv_V} {w : Nat} (hw : 13 ≤ w) (hO : kv_Of (M.1 w) V) : ∃ M', f_X5_again w M = some M' ∧ kv_M M' V ∧ (∀ r, 8 ≤ r → M'.1 r = M.1 r) ∧ (∀ s, ¬ s = 0 → ¬ s = 4 → ¬ s = 9 → M'.1 0 s = M.1 0 s) ∧ M'.2 = M.2 := by
  have fin : ∃ fin : kx_M → kx_M, fin = fun N => kx_u1 (kx_u1 (kx_u1 (kx_u1 (kx_u1 N 0 0 (nI (V.1 5 0))) 3 0 (nI (V.1 5 1))) 3 1 (nI (V.1 5 2))) 0 4 (nI (V.1 5 3))) 0 9 V.2.2 := ⟨_, rfl⟩
  obtain ⟨fin, hfin⟩ := fin
  obtain ⟨o1, o2, o3, o4, o5, o6, o7⟩ := hO
  have l2 := fun N0 => kz_loop (F := fun n i N => f_X5_again_37 w n i N) (N := 8) (st := fun i N => kx_u1 (kx_u1 (kx_u1 (kx_u1 N 4 i (nI (V.1 2 i))) 5 i (nI (V.1 3 i))) 6 i (nI (V.1 4 i))) 7 i (V.2.1 i)) (k := fun N => some (fin N)) (fun i N => (∀ k, k < 24 → N.1 1 k = nI (V.1 0 k) ∧ N.1 2 k = nI (V.1 1 k)) ∧ (∀ k, k < i → N.1 4 k = nI (V.1 2 k) ∧ N.1 5 k = nI (V.1 3 k) ∧ N.1 6 k = nI (V.1 4 k) ∧ N.1 7 k = V.2.1 k) ∧ (∀ r, r = 0 ∨ 8 ≤ r → N.1 r = M.1 r) ∧ N.2 = M.2)
    (fun n N hP => by
      obtain ⟨_, _, p3, _⟩ := hP
      have ew : N.1 w = M.1 w := p3 w (by omega)
      rw [f_X5_again_37.eq_2, if_pos (show (8 : Int32) ≤ nI 8 by decide)]
      have r0 : ∀ (j k : Nat) (v : Int32) (N' : kx_M), j < 8 → (kx_u1 N' j k v).1 w = N'.1 w := fun j k v N' hj => kx_u1_ne (by omega)
      simp only [kx_lt, z_ck80, z_ck81, z_ck82, z_ck83, z_ck84, z_ck2a, z_ck2b, z_c80, z_c81, z_c82, z_c83, z_c84, z_c0, z_c1, r0 _ _ _ _ (show 0 < 8 by decide), r0 _ _ _ _ (show 3 < 8 by decide), ew, o3, o4, o5, o6, o7, hfin])
    (fun n i N hi hP => by
      obtain ⟨_, _, p3, _⟩ := hP
      have ew : N.1 w = M.1 w := p3 w (by omega)
      obtain ⟨q1, q2, q3, q4⟩ := o2 i hi
      have e48 : (48 : Int32) + nI i = nI (48 + i) := nI_add 48 i
      have e56 : (56 : Int32) + nI i = nI (56 + i) := nI_add 56 i
      have e64 : (64 : Int32) + nI i = nI (64 + i) := nI_add 64 i
      have e72 : (72 : Int32) + nI i = nI (72 + i) := nI_add 72 i
      have r0 : ∀ (j k : Nat) (v : Int32) (N' : kx_M), j < 8 → (kx_u1 N' j k v).1 w = N'.1 w := fun j k v N' hj => kx_u1_ne (by omega)
      rw [f_X5_again_37.eq_2, if_neg (show ¬ (8 : Int32) ≤ nI i from nI_ge (b := 8) hi (by omega)), e48, e56, e64, e72]
      simp only [kx_lt, z_ck hi (by decide : (8 : Nat) ≤ 4096), z_ck (show 48 + i < 85 by omega) (by decide : (85 : Nat) ≤ 4096), z_ck (show 56 + i < 85 by omega) (by decide : (85 : Nat) ≤ 4096), z_ck (show 64 + i < 85 by omega) (by decide : (85 : Nat) ≤ 4096), z_ck (show 72 + i < 85 by omega) (by decide : (85 : Nat) ≤ 4096), nI_clamp (show i < 2 ^ 31 by omega), nI_clamp (show 48 + i < 2 ^ 31 by omega), nI_clamp (show 56 + i < 2 ^ 31 by omega), nI_clamp (show 64 + i < 2 ^ 31 by omega), nI_clamp (show 72 + i < 2 ^ 31 by omega), r0 _ _ _ _ (show 4 < 8 by decide), r0 _ _ _ _ (show 5 < 8 by decide), r0 _ _ _ _ (show 6 < 8 by decide), r0 _ _ _ _ (show 7 < 8 by decide), ew, q1, q2, q3, q4, nI_1])
    (fun i N hi hP => by
      obtain ⟨p1, p2, p3, p4⟩ := hP
      refine ⟨fun k hk => ?_, fun k hk => ?_, fun r hr => ?_, p4⟩
      · rw [kx_u1_ne (show ¬ 1 = 7 by decide), kx_u1_ne (show ¬ 1 = 6 by decide), kx_u1_ne (show ¬ 1 = 5 by decide), kx_u1_ne (show ¬ 1 = 4 by decide), kx_u1_ne (show ¬ 2 = 7 by decide), kx_u1_ne (show ¬ 2 = 6 by decide), kx_u1_ne (show ¬ 2 = 5 by decide), kx_u1_ne (show ¬ 2 = 4 by decide)]
        exact p1 k hk
      · rw [kx_u1_ne (show ¬ 4 = 7 by decide), kx_u1_ne (show ¬ 4 = 6 by decide), kx_u1_ne (show ¬ 4 = 5 by decide), kx_u1_ne (show ¬ 5 = 7 by decide), kx_u1_ne (show ¬ 5 = 6 by decide), kx_u1_ne (show ¬ 6 = 7 by decide)]
        by_cases e : k = i
        · subst e
          rw [kv_u1_at, kv_u1_at, kv_u1_at, kv_u1_at]
          exact ⟨rfl, rfl, rfl, rfl⟩
        · have := p2 k (by omega)
          repeat rw [kv_u1_no (fun z => e z.2)]
          exact this
      · rw [kx_u1_ne (by omega), kx_u1_ne (by omega), kx_u1_ne (by omega), kx_u1_ne (by omega)]
        exact p3 r hr) 8 0 N0 kx_fuel (by omega) (kz_f _ (by omega))
  have l1 := kz_loop (F := fun n i N => f_X5_again_2 w n i N) (N := 24) (st := fun i N => kx_u1 (kx_u1 N 1 i (nI (V.1 0 i))) 2 i (nI (V.1 1 i))) (k := fun N => f_X5_again_37 w kx_fuel (nI 0) N) (fun i N => (∀ k, k < i → N.1 1 k = nI (V.1 0 k) ∧ N.1 2 k = nI (V.1 1 k)) ∧ (∀ r, ¬ r = 1 → ¬ r = 2 → N.1 r = M.1 r) ∧ N.2 = M.2)
    (fun n N _ => by
      rw [f_X5_again_2.eq_2]
      exact if_pos (by decide))
    (fun n i N hi hP => by
      obtain ⟨_, p3, _⟩ := hP
      have ew : N.1 w = M.1 w := p3 w (by omega) (by omega)
      obtain ⟨q1, q2⟩ := o1 i hi
      have e24 : (24 : Int32) + nI i = nI (24 + i) := nI_add 24 i
      have r0 : ∀ (j k : Nat) (v : Int32) (N' : kx_M), j < 8 → (kx_u1 N' j k v).1 w = N'.1 w := fun j k v N' hj => kx_u1_ne (by omega)
      rw [f_X5_again_2.eq_2, if_neg (show ¬ (24 : Int32) ≤ nI i from nI_ge (b := 24) hi (by omega)), e24]
      simp only [kx_lt, z_ck hi (by decide : (24 : Nat) ≤ 4096), z_ck (show i < 85 by omega) (by decide : (85 : Nat) ≤ 4096), z_ck (show 24 + i < 85 by omega) (by decide : (85 : Nat) ≤ 4096), nI_clamp (show i < 2 ^ 31 by omega), nI_clamp (show 24 + i < 2 ^ 31 by omega), r0 _ _ _ _ (show 1 < 8 by decide), r0 _ _ _ _ (show 2 < 8 by decide), ew, q1, q2, nI_1])
    (fun i N hi hP => by
      obtain ⟨p1, p3, p4⟩ := hP
      refine ⟨fun k hk => ?_, fun r h1 h2 => ?_, p4⟩
      · rw [kx_u1_ne (show ¬ 1 = 2 by decide)]
        by_cases e : k = i
        · subst e
          rw [kv_u1_at, kv_u1_at]
          exact ⟨rfl, rfl⟩
        · have := p1 k (by omega)
          rw [kv_u1_no (fun z => e z.2), kv_u1_no (fun z => e z.2), kx_u1_ne (show ¬ 2 = 1 by decide)]
          exact this
      · rw [kx_u1_ne h2, kx_u1_ne h1]
        exact p3 r h1 h2) 24 0 M kx_fuel (by omega) (kz_f _ (by omega)) ⟨fun k hk => absurd hk (Nat.not_lt_zero k), fun _ _ _ => rfl, rfl⟩
  obtain ⟨a1, a2, a3, a4⟩ := l1
  obtain ⟨b1, b2, b3, b4, b5⟩ := l2 _ ⟨a2, fun k hk => absurd hk (Nat.not_lt_zero k), fun r hr => a3 r (by omega) (by omega), a4⟩
  refine ⟨_, Eq.trans a1 b1, ?_⟩
  generalize kz_up _ 8 0 _ = N at b2 b3 b4 b5
  rw [hfin]
  dsimp only
  refine ⟨⟨⟨?_, ?_, ?_, ?_, ?_⟩, fun k hk => ?_, fun k hk => ?_⟩, fun r hr => ?_, fun s h1 h2 h3 => ?_, b5⟩
  · rw [kv_u1_no (by omega), kv_u1_no (by omega), kx_u1_ne (show ¬ 0 = 3 by decide), kx_u1_ne (show ¬ 0 = 3 by decide), kv_u1_at]
  · rw [kx_u1_ne (show ¬ 3 = 0 by decide), kx_u1_ne (show ¬ 3 = 0 by decide), kv_u1_no (by omega), kv_u1_at]
  · rw [kx_u1_ne (show ¬ 3 = 0 by decide), kx_u1_ne (show ¬ 3 = 0 by decide), kv_u1_at]
  · exact kv_u1_at
  · rw [kv_u1_no (by omega), kv_u1_at]
  · have := b2 k hk
    rw [kx_u1_ne (show ¬ 1 = 0 by decide), kx_u1_ne (show ¬ 1 = 0 by decide), kx_u1_ne (show ¬ 1 = 3 by decide), kx_u1_ne (show ¬ 1 = 3 by decide), kx_u1_ne (show ¬ 1 = 0 by decide), kx_u1_ne (show ¬ 2 = 0 by decide), kx_u1_ne (show ¬ 2 = 0 by decide), kx_u1_ne (show ¬ 2 = 3 by decide), kx_u1_ne (show ¬ 2 = 3 by decide), kx_u1_ne (show ¬ 2 = 0 by decide)]
    exact this
  · have := b3 k hk
    have rr : ∀ j, 4 ≤ j → (kx_u1 (kx_u1 (kx_u1 (kx_u1 (kx_u1 N 0 0 (nI (V.1 5 0))) 3 0 (nI (V.1 5 1))) 3 1 (nI (V.1 5 2))) 0 4 (nI (V.1 5 3))) 0 9 V.2.2).1 j = N.1 j := fun j hj => by
      rw [kx_u1_ne (by omega), kx_u1_ne (by omega), kx_u1_ne (by omega), kx_u1_ne (by omega), kx_u1_ne (by omega)]
    rw [rr 4 (by decide), rr 5 (by decide), rr 6 (by decide), rr 7 (by decide)]
    exact this
  · rw [kx_u1_ne (by omega), kx_u1_ne (by omega), kx_u1_ne (by omega), kx_u1_ne (by omega), kx_u1_ne (by omega)]
    exact b4 r (by omega)
  · rw [kv_u1_no (by omega), kv_u1_no (by omega), kx_u1_ne (show ¬ 0 = 3 by decide), kx_u1_ne (show ¬ 0 = 3 by decide), kv_u1_no (by omega), b4 0 (by omega)]
theorem kx_lt_of {α β : Type} {a : α} {f : α → β} (P : β → Prop) (h : ∀ x, x = a → P (f x)) : P (kx_lt a f) := h a rfl
theorem z_cg24 {α : Type} {k : Option α} : kx_cg 24 24 (0 : Int32) (0 : Int32) (24 : Int32) k = k := if_pos (by decide)
theorem z_cg21 {α : Type} {k : Option α} : kx_cg 21 21 (0 : Int32) (0 : Int32) (21 : Int32) k = k := if_pos (by decide)
theorem z_cg8 {α : Type} {k : Option α} : kx_cg 8 8 (0 : Int32) (0 : Int32) (8 : Int32) k = k := if_pos (by decide)
theorem z_c1at {M : kx_M} {a b n k : Nat} {x : Int32} (hx : x.toNatClampNeg = n) (hk : k < n) : (kx_c1 M a b (0 : Int32).toNatClampNeg (0 : Int32).toNatClampNeg x.toNatClampNeg).1 b k = M.1 a k := by
  rw [hx, z_c0]
  show (if b = b then va_cpy (M.1 a) (M.1 b) 0 0 n k else M.1 b k) = _
  rw [if_pos rfl]
  unfold va_cpy
  rw [if_pos (by omega), Nat.zero_add, Nat.sub_zero]
theorem z_c1ne {M : kx_M} {a b r p q n : Nat} (h : ¬ r = b) : (kx_c1 M a b p q n).1 r = M.1 r := by
  funext k
  exact if_neg h
set_option maxRecDepth 100000 in
theorem kv_take {M : kx_M} {V : kv_V} {o o2 : Nat} (ho : o + 8 ≤ o2 ∨ o2 + 8 ≤ o) (hX : kv_X M o2 V) : ∃ M', f_X0_takeFrom o o2 M = some M' ∧ kv_X M' o V ∧ (∀ r, ¬ (o ≤ r ∧ r ≤ o + 7) → M'.1 r = M.1 r) ∧ M'.2 = M.2 := by
  obtain ⟨⟨x1, x2, x3, x4, x5⟩, x6, x7, x8, x9, x10⟩ := hX
  unfold f_X0_takeFrom
  rw [z_cg24]
  refine kx_lt_of (fun z => ∃ M', z = some M' ∧ kv_X M' o V ∧ (∀ r, ¬ (o ≤ r ∧ r ≤ o + 7) → M'.1 r = M.1 r) ∧ M'.2 = M.2) (fun M1 e1 => ?_)
  have d1 : ∀ r, ¬ r = o + 1 → M1.1 r = M.1 r := fun r h => by rw [e1, z_c1ne h]
  have c1 : ∀ k, k < 24 → M1.1 (o + 1) k = M.1 (o2 + 1) k := fun k hk => by rw [e1, z_c1at rfl hk]
  have f1 : M1.2 = M.2 := by rw [e1]; rfl
  rw [z_cg24]
  refine kx_lt_of (fun z => ∃ M', z = some M' ∧ kv_X M' o V ∧ (∀ r, ¬ (o ≤ r ∧ r ≤ o + 7) → M'.1 r = M.1 r) ∧ M'.2 = M.2) (fun M2 e2 => ?_)
  have d2 : ∀ r, ¬ r = o + 2 → M2.1 r = M1.1 r := fun r h => by rw [e2, z_c1ne h]
  have c2 : ∀ k, k < 24 → M2.1 (o + 2) k = M1.1 (o2 + 2) k := fun k hk => by rw [e2, z_c1at rfl hk]
  have f2 : M2.2 = M1.2 := by rw [e2]; rfl
  rw [z_cg21]
  refine kx_lt_of (fun z => ∃ M', z = some M' ∧ kv_X M' o V ∧ (∀ r, ¬ (o ≤ r ∧ r ≤ o + 7) → M'.1 r = M.1 r) ∧ M'.2 = M.2) (fun M3 e3 => ?_)
  have d3 : ∀ r, ¬ r = o + 3 → M3.1 r = M2.1 r := fun r h => by rw [e3, z_c1ne h]
  have c3 : ∀ k, k < 21 → M3.1 (o + 3) k = M2.1 (o2 + 3) k := fun k hk => by rw [e3, z_c1at rfl hk]
  have f3 : M3.2 = M2.2 := by rw [e3]; rfl
  rw [z_cg8]
  refine kx_lt_of (fun z => ∃ M', z = some M' ∧ kv_X M' o V ∧ (∀ r, ¬ (o ≤ r ∧ r ≤ o + 7) → M'.1 r = M.1 r) ∧ M'.2 = M.2) (fun M4 e4 => ?_)
  have d4 : ∀ r, ¬ r = o + 4 → M4.1 r = M3.1 r := fun r h => by rw [e4, z_c1ne h]
  have c4 : ∀ k, k < 8 → M4.1 (o + 4) k = M3.1 (o2 + 4) k := fun k hk => by rw [e4, z_c1at rfl hk]
  have f4 : M4.2 = M3.2 := by rw [e4]; rfl
  rw [z_cg8]
  refine kx_lt_of (fun z => ∃ M', z = some M' ∧ kv_X M' o V ∧ (∀ r, ¬ (o ≤ r ∧ r ≤ o + 7) → M'.1 r = M.1 r) ∧ M'.2 = M.2) (fun M5 e5 => ?_)
  have d5 : ∀ r, ¬ r = o + 5 → M5.1 r = M4.1 r := fun r h => by rw [e5, z_c1ne h]
  have c5 : ∀ k, k < 8 → M5.1 (o + 5) k = M4.1 (o2 + 5) k := fun k hk => by rw [e5, z_c1at rfl hk]
  have f5 : M5.2 = M4.2 := by rw [e5]; rfl
  rw [z_cg8]
  refine kx_lt_of (fun z => ∃ M', z = some M' ∧ kv_X M' o V ∧ (∀ r, ¬ (o ≤ r ∧ r ≤ o + 7) → M'.1 r = M.1 r) ∧ M'.2 = M.2) (fun M6 e6 => ?_)
  have d6 : ∀ r, ¬ r = o + 6 → M6.1 r = M5.1 r := fun r h => by rw [e6, z_c1ne h]
  have c6 : ∀ k, k < 8 → M6.1 (o + 6) k = M5.1 (o2 + 6) k := fun k hk => by rw [e6, z_c1at rfl hk]
  have f6 : M6.2 = M5.2 := by rw [e6]; rfl
  rw [z_cg8]
  refine kx_lt_of (fun z => ∃ M', z = some M' ∧ kv_X M' o V ∧ (∀ r, ¬ (o ≤ r ∧ r ≤ o + 7) → M'.1 r = M.1 r) ∧ M'.2 = M.2) (fun M7 e7 => ?_)
  have d7 : ∀ r, ¬ r = o + 7 → M7.1 r = M6.1 r := fun r h => by rw [e7, z_c1ne h]
  have c7 : ∀ k, k < 8 → M7.1 (o + 7) k = M6.1 (o2 + 7) k := fun k hk => by rw [e7, z_c1at rfl hk]
  have f7 : M7.2 = M6.2 := by rw [e7]; rfl
  have fr : ∀ r, ¬ (o + 1 ≤ r ∧ r ≤ o + 7) → M7.1 r = M.1 r := fun r h => by
    rw [d7 r (by omega), d6 r (by omega), d5 r (by omega), d4 r (by omega), d3 r (by omega), d2 r (by omega), d1 r (by omega)]
  have fo : M7.1 o2 = M.1 o2 := fr o2 (by omega)
  have g0 : ∀ (N : kx_M) (k : Nat) (v : Int32), (kx_u1 N o k v).1 o2 = N.1 o2 := fun N k v => kx_u1_ne (by omega)
  refine kx_lt_of (fun z => ∃ M', z = some M' ∧ kv_X M' o V ∧ (∀ r, ¬ (o ≤ r ∧ r ≤ o + 7) → M'.1 r = M.1 r) ∧ M'.2 = M.2) (fun M8 e8 => ?_)
  rw [g0, g0, g0, fo, x1, x2, x3] at e8
  have h8 : M8.1 o2 = M.1 o2 := by rw [e8, g0, g0, g0, fo]
  refine kx_lt_of (fun z => ∃ M', z = some M' ∧ kv_X M' o V ∧ (∀ r, ¬ (o ≤ r ∧ r ≤ o + 7) → M'.1 r = M.1 r) ∧ M'.2 = M.2) (fun M9 e9 => ?_)
  rw [g0, g0, g0, h8, x4, x5, x8] at e9
  have h9 : M9.1 o2 = M.1 o2 := by rw [e9, g0, g0, g0, h8]
  rw [h9, x9]
  have rr : ∀ r, ¬ r = o → (kx_u1 M9 o 13 (z_mask (kv_kid V) (V.1 5 3))).1 r = M7.1 r := fun r h => by
    rw [kx_u1_ne h, e9, kx_u1_ne h, kx_u1_ne h, kx_u1_ne h, e8, kx_u1_ne h, kx_u1_ne h, kx_u1_ne h]
  refine ⟨_, rfl, ⟨⟨?_, ?_, ?_, ?_, ?_⟩, fun k hk => ?_, fun k hk => ?_, ?_, ?_, fun k hk => ?_⟩, fun r hr => ?_, ?_⟩
  · rw [kv_u1_no (by omega), e9, kv_u1_no (by omega), kv_u1_no (by omega), kv_u1_no (by omega), e8, kv_u1_no (by omega), kv_u1_no (by omega), kv_u1_at]
  · rw [kv_u1_no (by omega), e9, kv_u1_no (by omega), kv_u1_no (by omega), kv_u1_no (by omega), e8, kv_u1_no (by omega), kv_u1_at]
  · rw [kv_u1_no (by omega), e9, kv_u1_no (by omega), kv_u1_no (by omega), kv_u1_no (by omega), e8, kv_u1_at]
  · rw [kv_u1_no (by omega), e9, kv_u1_no (by omega), kv_u1_no (by omega), kv_u1_at]
  · rw [kv_u1_no (by omega), e9, kv_u1_no (by omega), kv_u1_at]
  · rw [rr _ (by omega), rr _ (by omega), d7 _ (by omega), d7 _ (by omega), d6 _ (by omega), d6 _ (by omega), d5 _ (by omega), d5 _ (by omega), d4 _ (by omega), d4 _ (by omega), d3 _ (by omega), d3 _ (by omega), d2 (o + 1) (by omega), c1 k hk, c2 k hk, d1 _ (by omega)]
    exact x6 k hk
  · rw [rr _ (by omega), rr _ (by omega), rr _ (by omega), rr _ (by omega), d7 (o + 4) (by omega), d6 (o + 4) (by omega), d5 (o + 4) (by omega), c4 k hk, d7 (o + 5) (by omega), d6 (o + 5) (by omega), c5 k hk, d7 (o + 6) (by omega), c6 k hk, c7 k hk]
    rw [d3 (o2 + 4) (by omega), d2 (o2 + 4) (by omega), d1 (o2 + 4) (by omega), d4 (o2 + 5) (by omega), d3 (o2 + 5) (by omega), d2 (o2 + 5) (by omega), d1 (o2 + 5) (by omega), d5 (o2 + 6) (by omega), d4 (o2 + 6) (by omega), d3 (o2 + 6) (by omega), d2 (o2 + 6) (by omega), d1 (o2 + 6) (by omega), d6 (o2 + 7) (by omega), d5 (o2 + 7) (by omega), d4 (o2 + 7) (by omega), d3 (o2 + 7) (by omega), d2 (o2 + 7) (by omega), d1 (o2 + 7) (by omega)]
    exact x7 k hk
  · rw [kv_u1_no (by omega), e9, kv_u1_at]
  · exact kv_u1_at
  · rw [rr _ (by omega), d7 _ (by omega), d6 _ (by omega), d5 _ (by omega), d4 _ (by omega), c3 k (by omega), d2 _ (by omega), d1 _ (by omega)]
    exact x10 k hk
  · rw [rr r (by omega)]
    exact fr r (by omega)
  · show M9.2 = _
    rw [e9]
    show M8.2 = _
    rw [e8]
    show M7.2 = _
    rw [f7, f6, f5, f4, f3, f2, f1]
theorem kv_s_image {Mx Mm : kx_M} (h : kv_Inv Mx Mm) : kv_Sim (f_X4_image Mx) (f_X5_image Mm) := by
  obtain ⟨V, hok, hX, hM, hK, hS, hT, hR⟩ := id h
  obtain ⟨M', g1, g2, g3, g4⟩ := kv_take (o := 9) (o2 := 1) (by omega) hX
  have hM1 : kv_M (kx_u1 Mm 0 20 1) V := kv_M_of (kv_u1_no (by omega)) (kv_u1_no (by omega)) (kv_u1_no (by omega)) (fun j h1 h2 => kx_u1_ne (by omega)) hM
  obtain ⟨f, q1, q2⟩ := kv_keep (w := 13) (by omega) hM1
  unfold f_X4_image f_X5_image
  rw [g1, q1]
  have ff : kx_u1 M' 0 7 (1 : Int32) = kx_u1 M' 0 7 (1 : Int32) := rfl
  refine kv_Sim_eq rfl rfl ⟨V, hok, kv_X_of (fun j hj => by rw [kx_u1_ne (by omega), g3 _ (by omega)]) hX, ?_, Or.inr ⟨kv_u1_at, ?_, V, hok, kv_X_of (fun j hj => kx_u1_ne (by omega)) g2, ?_⟩, fun s hs => ?_, ?_, fun k hk => ?_⟩
  · exact kv_M_of (by rw [kz_set_ne (by omega)]) (by rw [kz_set_ne (by omega)]) (by rw [kz_set_ne (by omega)]) (fun j h1 h2 => kz_set_ne (by omega)) hM1
  · rw [kz_set_ne (by omega), kv_u1_at]
  · unfold kv_O
    rw [kz_set_same]
    exact q2
  · have z := hS s hs
    unfold kv_shelf at z ⊢
    rw [kx_u1_ne (show ¬ 26 + 2 * s = 0 by omega), g3 (26 + 2 * s) (by omega), kz_set_ne (show ¬ 9 = 13 by omega), kz_set_ne (show ¬ 10 = 13 by omega), kx_u1_ne (show ¬ 9 = 0 by omega), kx_u1_ne (show ¬ 10 = 0 by omega), show (kx_u1 M' 0 7 (1 : Int32)).2 = Mx.2 from g4, show (kz_set (kx_u1 Mm 0 20 1) 13 f).2 = Mm.2 from rfl]
    exact z
  · unfold kv_tape at hT ⊢
    rw [kx_u1_ne (show ¬ 42 = 0 by omega), kx_u1_ne (show ¬ 43 = 0 by omega), g3 42 (by omega), g3 43 (by omega), kz_set_ne (show ¬ 0 = 13 by omega), kz_set_ne (show ¬ 8 = 13 by omega), kx_u1_ne (show ¬ 8 = 0 by omega), kv_u1_no (show ¬ (0 = 0 ∧ 10 = 20) by omega)]
    exact hT
  · rw [kx_u1_ne (show ¬ 47 = 0 by omega), g3 47 (by omega), kz_set_ne (show ¬ 12 = 13 by omega), kx_u1_ne (show ¬ 12 = 0 by omega)]
    exact hR k hk
