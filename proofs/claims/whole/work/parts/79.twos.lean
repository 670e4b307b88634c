/-! calls that read a row: picture, fits, register -/
def z_allb (p : Nat → Bool) : Nat → Bool
  | 0 => true
  | n + 1 => z_allb p n && p n
theorem z_allb_iff (p : Nat → Bool) : ∀ n, (z_allb p n = true ↔ ∀ j, j < n → p j = true)
  | 0 => ⟨fun _ j hj => absurd hj (Nat.not_lt_zero j), fun _ => rfl⟩
  | n + 1 => by
    show (z_allb p n && p n) = true ↔ _
    rw [Bool.and_eq_true, z_allb_iff p n]
    refine ⟨fun ⟨h1, h2⟩ j hj => ?_, fun h => ⟨fun j hj => h j (by omega), h n (by omega)⟩⟩
    by_cases e : j = n
    · rw [e]
      exact h2
    · exact h1 j (by omega)
theorem z_allb_congr {p q : Nat → Bool} : ∀ {n : Nat}, (∀ j, j < n → p j = q j) → z_allb p n = z_allb q n
  | 0, _ => rfl
  | n + 1, h => by
    show (z_allb p n && p n) = (z_allb q n && q n)
    rw [z_allb_congr (fun j hj => h j (by omega)), h n (by omega)]
theorem kz_all0 {F : Nat → Int32 → Option Bool} {N : Nat} {p : Nat → Bool} (hN : N < 4096) (hx : ∀ n, F (n + 1) (nI N) = some true) (hs : ∀ n i, i < N → F (n + 1) (nI i) = if p i = true then F n (nI (i + 1)) else some false) : F kx_fuel (nI 0) = some (z_allb p N) := by
  obtain ⟨b, h1, h2⟩ := kz_all hx hs N 0 kx_fuel (by omega) (kz_f _ hN)
  rw [h1]
  refine congrArg some ?_
  rw [Bool.eq_iff_iff, h2, z_allb_iff]
  exact ⟨fun h j hj => h j (Nat.zero_le j) hj, fun h j _ hj => h j hj⟩
theorem z_2 : ∀ n, n < 41 → (2 : Int32) * nI n = nI (2 * n) := by decide +kernel
theorem z_21 : ∀ n, n < 41 → ((2 : Int32) * nI n) + (1 : Int32) = nI (2 * n + 1) := by decide +kernel
theorem kv_s_picture {Mx Mm : kx_M} (h : kv_Inv Mx Mm) (a b d : Int32) : kv_Sim (f_X4_picture a b d Mx) (f_X5_picture a b d Mm) := by
  obtain ⟨V, hok, hX, hM, hR⟩ := id h
  have hv := hok.2.2.2.1
  have hn24 := hok.1.2
  have no : ∀ (t : Bool), (¬ f_X4_isWithin a 0 7 = true ∨ t = false) → f_X4_picture_26 a b d t Mx = kx_bd (f_X4_refuse (-2) Mx) fun v M => some (v, M) := by
    intro t ht
    unfold f_X4_picture_26
    rw [e_X4_fault_no ht, Option.bind_some, if_neg (show ¬ (-2 : Int32) = 0 by decide)]
  unfold f_X4_picture f_X5_picture f_X5_isShelf
  rw [kv_within, kv_within, e_X0_V hX, e_X5_V hM]
  by_cases h1 : f_X4_isWithin a 0 7 = true
  · rw [if_pos h1]
    by_cases h2 : f_X4_isWithin b 0 24 = true
    · rw [if_pos h2, if_pos h2]
      by_cases h3 : g_V V d = true
      · rw [if_pos h3, if_pos h3]
        obtain ⟨s, hs, rfl⟩ := g_S_el h1
        have hS := hR.2.1 s hs
        obtain ⟨n, hn, rfl⟩ := z_in (n := 24) (by omega) h2
        obtain ⟨x, hx, rfl⟩ := g_V_el hok h3
        unfold f_X4_picture_26
        rw [e_X4_fault hS hv hs, e_X5_told hS hv hs, Option.bind_some, Option.bind_some]
        by_cases hf : s_fault Mm s (nI n) = 0
        · obtain ⟨t, z, ht, hz, e, e2, e3, e4, e5⟩ := s_fault_el hS hv hf
          rw [hf, if_pos rfl, if_pos (show (0 : Int32) ≤ 0 by decide)]
          have pp : ∃ p : Nat → Nat → Bool, p = fun i j => !bt (V.2.1 x) (i + j) || decide ((nI (V.1 1 (i + j))).toInt64 = Mm.2 11 (40 * s + j)) := ⟨_, rfl⟩
          obtain ⟨p, hp⟩ := pp
          have sx : ∀ i, i + n ≤ V.1 5 0 → f_X4_isSoFrom (26 + 2 * s) Mx (nI i) (nI n) (V.2.1 x) = some (z_allb (p i) n) := by
            intro i hi
            unfold f_X4_isSoFrom
            refine kz_all0 (F := fun m j => f_X4_isSoFrom_3 (26 + 2 * s) Mx m (nI i) (nI n) (V.2.1 x) j) (by omega) ?_ ?_
            · intro m
              rw [f_X4_isSoFrom_3.eq_2]
              exact if_pos (Int32.le_refl _)
            · intro m j hj
              rw [f_X4_isSoFrom_3.eq_2, if_neg (nI_ge hj (by omega)), nI_add, z_isIn _ (show i + j < 32 by omega), z_ck (show i + j < 24 by omega) (by decide), z_ck (show j < 40 by omega) (by decide), nI_clamp (by omega), nI_clamp (by omega), (x1_c hX (show i + j < 24 by omega)).2, show 26 + 2 * s + 1 = 27 + 2 * s by omega, e4 j (by omega), nI_1, hp]
              simp only [l_eq]
              by_cases q : bt (V.2.1 x) (i + j) = true
              · rw [if_pos q]
                by_cases q2 : (nI (V.1 1 (i + j))).toInt64 = Mm.2 11 (40 * s + j)
                · rw [if_pos q2, if_pos (by rw [q, decide_eq_true q2]; rfl)]
                · rw [if_neg q2, if_neg (by rw [q, decide_eq_false q2]; decide)]
              · rw [if_neg q, if_pos (by rw [Bool.not_eq_true] at q; rw [q]; rfl)]
          have sm : ∀ i, i + n ≤ V.1 5 0 → f_X5_isLaid Mm (nI s) (nI n) (nI x) (nI i) = some (z_allb (p i) n) := by
            intro i hi
            unfold f_X5_isLaid
            refine kz_all0 (F := fun m j => f_X5_isLaid_3 Mm m (nI s) (nI n) (nI x) (nI i) j) (by omega) ?_ ?_
            · intro m
              rw [f_X5_isLaid_3.eq_2]
              exact if_pos (Int32.le_refl _)
            · intro m j hj
              rw [f_X5_isLaid_3.eq_2, if_neg (nI_ge hj (by omega)), z_ck (show x < 8 by omega) (by decide), nI_clamp (show x < 2 ^ 31 by omega), (hM.2.2 x (by omega)).2.2.2, nI_add, z_has _ (show i + j < 32 by omega), z_ck (show i + j < 24 by omega) (by decide), nI_clamp (by omega), (hM.2.1 (i + j) (by omega)).2, e_told hs (show j < 40 by omega), Option.bind_some, nI_1, hp]
              simp only [l_eq]
              by_cases q : bt (V.2.1 x) (i + j) = true
              · rw [if_pos q]
                by_cases q2 : (nI (V.1 1 (i + j))).toInt64 = Mm.2 11 (40 * s + j)
                · rw [if_pos q2, if_pos (by rw [q, decide_eq_true q2]; rfl)]
                · rw [if_neg q2, if_neg (by rw [q, decide_eq_false q2]; decide)]
              · rw [if_neg q, if_pos (by rw [Bool.not_eq_true] at q; rw [q]; rfl)]
          have NN : ∃ N, N ≤ 25 ∧ (∀ i, i < N → i + n ≤ V.1 5 0) ∧ V.1 5 0 < N + n := ⟨V.1 5 0 + 1 - n, by omega, fun i hi => by omega, by omega⟩
          obtain ⟨N, hN, hN1, hN2⟩ := NN
          refine kv_Sim_eq (r := kz_up (fun i w => if z_allb (p i) n = true then w ||| ((1 : Int32) <<< (nI i &&& 31)) else w) N 0 0) ?_ ?_ h
          · exact kz_run0 (F := fun m i w => f_X4_picture_56 m (nI s) (nI n) (nI x) w i Mx) (k := fun w => some (w, Mx)) N (0 : Int32) (by omega)
              (fun m w => by
                rw [f_X4_picture_56.eq_2, hX.1.1, nI_add]
                exact if_pos (nI_lt hN2 (by omega)))
              (fun m i w hi => by
                have := hN1 i hi
                rw [f_X4_picture_56.eq_2, hX.1.1, nI_add, if_neg (nI_nlt this (by omega)), z_ck hs (by decide), z_ck (show x < 8 by omega) (by decide), nI_clamp (show x < 2 ^ 31 by omega), nI_clamp (show s < 2 ^ 31 by omega), (x1_k hX (show x < 8 by omega)).2.2.2, sx i this, Option.bind_some, nI_1]
                by_cases q : z_allb (p i) n = true
                · rw [if_pos q, if_pos q]
                · rw [if_neg q, if_neg q])
          · exact kz_run0 (F := fun m i w => f_X5_picture_58 m (nI s) (nI n) (nI x) w i Mm) (k := fun w => some (w, Mm)) N (0 : Int32) (by omega)
              (fun m w => by
                rw [f_X5_picture_58.eq_2, hM.1.1, nI_add]
                exact if_pos (nI_lt hN2 (by omega)))
              (fun m i w hi => by
                have := hN1 i hi
                rw [f_X5_picture_58.eq_2, hM.1.1, nI_add, if_neg (nI_nlt this (by omega)), sm i this, Option.bind_some, nI_1]
                by_cases q : z_allb (p i) n = true
                · rw [if_pos q, if_pos q]
                · rw [if_neg q, if_neg q])
        · rw [if_neg hf, if_neg (s_fault_neg hf)]
          exact kv_Sim_fault h hf
      · rw [if_neg h3, if_neg h3, no _ (Or.inr rfl)]
        exact kv_Sim_no h
    · rw [if_neg h2, if_neg h2, no _ (Or.inr rfl)]
      exact kv_Sim_no h
  · rw [if_neg h1]
    by_cases h2 : f_X4_isWithin b 0 24 = true
    · rw [if_pos h2]
      by_cases h3 : g_V V d = true
      · rw [if_pos h3, no _ (Or.inl h1)]
        exact kv_Sim_no h
      · rw [if_neg h3, no _ (Or.inl h1)]
        exact kv_Sim_no h
    · rw [if_neg h2, no _ (Or.inl h1)]
      exact kv_Sim_no h
/-- the first of each two within bounds -/
def s_in (Mm : kx_M) (s : Nat) (H : Int) (i : Nat) : Bool := decide (0 ≤ (Mm.2 11 (40 * s + 2 * i)).toInt ∧ (Mm.2 11 (40 * s + 2 * i)).toInt ≤ H)
theorem l_small {y : Int64} {H : Nat} (hH : H < 1000) (h0 : 0 ≤ y.toInt) (h1 : y.toInt ≤ H) : ∃ t, t ≤ H ∧ y.toInt32 = nI t ∧ y.toInt = t := by
  refine ⟨y.toInt.toNat, by omega, ?_, by omega⟩
  apply Int32.toInt_inj.mp
  rw [Int64.toInt_toInt32, nI_toInt (by omega), Int.bmod_eq_of_le (by omega) (by omega)]
  omega
theorem e_noTwos {Mx Mm : kx_M} {s v n : Nat} {hi : Int32} {H : Int} (hS : kv_shelf Mx Mm s v) (hv : v ≤ 8) (hs : s < 8) (hn : n ≤ 20) (hH : hi.toInt = H) : f_X5_noTwos Mm (nI s) (nI n) hi = some (if s_fault Mm s (nI (2 * n)) = 0 then (if z_allb (s_in Mm s H) n = true then 0 else -5) else s_fault Mm s (nI (2 * n))) := by
  unfold f_X5_noTwos
  rw [z_2 n (by omega), e_X5_told hS hv hs, Option.bind_some]
  by_cases hf : s_fault Mm s (nI (2 * n)) = 0
  · rw [if_pos hf, hf]
    refine kz_rel (F := fun m i b => f_X5_noTwos_13 Mm m (nI s) (nI n) hi b i) (N := n) (fun i b => (b = 0 ∧ ∀ j, j < i → s_in Mm s H j = true) ∨ (b = -5 ∧ ∃ j, j < n ∧ s_in Mm s H j = false)) (fun z => z = some (if z_allb (s_in Mm s H) n = true then 0 else -5)) ?_ ?_ n 0 kx_fuel 0 (by omega) (kz_f _ (by omega)) (Or.inl ⟨rfl, fun j hj => absurd hj (Nat.not_lt_zero j)⟩)
    · intro m b hP
      rw [f_X5_noTwos_13.eq_2, if_pos (Int32.le_refl _)]
      rcases hP with ⟨e, q⟩ | ⟨e, j, hj, q⟩
      · rw [e, if_pos ((z_allb_iff _ n).mpr q)]
      · rw [e, if_neg (fun z => by rw [(z_allb_iff _ n).mp z j hj] at q; cases q)]
    · intro m i b hi2 hP
      rw [f_X5_noTwos_13.eq_2, if_neg (nI_ge hi2 (by omega))]
      rcases hP with ⟨e, q⟩ | ⟨e, j, hj, q⟩
      · have l0 : (0 : Int64).toInt = 0 := by decide
        rw [e, if_pos rfl, z_2 i (by omega), e_told hs (show 2 * i < 40 by omega), Option.bind_some, Option.bind_some, nI_1]
        simp only [l_lt, l_le, Int64.lt_iff_toInt_lt, Int64.le_iff_toInt_le, l0, Int32.toInt_toInt64, hH]
        by_cases q1 : (Mm.2 11 (40 * s + 2 * i)).toInt < 0
        · rw [if_pos q1]
          exact Or.inr ⟨-5, Or.inr ⟨rfl, i, hi2, decide_eq_false (by omega)⟩, rfl⟩
        · rw [if_neg q1]
          by_cases q2 : (Mm.2 11 (40 * s + 2 * i)).toInt ≤ H
          · rw [if_pos q2]
            refine Or.inr ⟨0, Or.inl ⟨rfl, fun j hj => ?_⟩, rfl⟩
            by_cases ej : j = i
            · rw [ej]
              exact decide_eq_true ⟨by omega, q2⟩
            · exact q j (by omega)
          · rw [if_neg q2]
            exact Or.inr ⟨-5, Or.inr ⟨rfl, i, hi2, decide_eq_false (fun z => q2 z.2)⟩, rfl⟩
      · rw [e, if_neg (show ¬ (-5 : Int32) = 0 by decide)]
        refine Or.inl ?_
        rw [if_neg (fun z => by rw [(z_allb_iff _ n).mp z j hj] at q; cases q)]
  · rw [if_neg hf]
    show f_X5_noTwos_13 Mm kx_fuel (nI s) (nI n) hi (s_fault Mm s (nI (2 * n))) (0 : Int32) = _
    have : ∀ m, f_X5_noTwos_13 Mm (m + 1) (nI s) (nI n) hi (s_fault Mm s (nI (2 * n))) (0 : Int32) = some (s_fault Mm s (nI (2 * n))) := by
      intro m
      rw [f_X5_noTwos_13.eq_2, if_neg hf]
      split <;> rfl
    exact this 4095
theorem e_tellsVeils {Mx Mm : kx_M} {s n : Nat} (he : ∀ k, k < 40 → Mx.2 (27 + 2 * s) k = Mm.2 11 (40 * s + k)) (hn : n ≤ 20) : f_X4_tellsVeils (26 + 2 * s) Mx (nI n) = some (z_allb (s_in Mm s 20) n) := by
  unfold f_X4_tellsVeils
  refine kz_all0 (F := fun m i => f_X4_tellsVeils_2 (26 + 2 * s) Mx m (nI n) i) (by omega) ?_ ?_
  · intro m
    rw [f_X4_tellsVeils_2.eq_2]
    exact if_pos (Int32.le_refl _)
  · intro m i hi
    have l0 : (0 : Int64).toInt = 0 := by decide
    have l20 : (20 : Int64).toInt = 20 := by decide
    rw [f_X4_tellsVeils_2.eq_2, if_neg (nI_ge hi (by omega)), z_2 i (by omega), z_ck (show 2 * i < 40 by omega) (by decide), nI_clamp (by omega), show 26 + 2 * s + 1 = 27 + 2 * s by omega, he (2 * i) (by omega), nI_1]
    simp only [l_lt, l_le, Int64.lt_iff_toInt_lt, Int64.le_iff_toInt_le, l0, l20]
    unfold s_in
    by_cases q1 : (Mm.2 11 (40 * s + 2 * i)).toInt < 0
    · rw [if_pos q1, if_neg (fun z => absurd (of_decide_eq_true z) (by omega))]
    · rw [if_neg q1]
      by_cases q2 : (Mm.2 11 (40 * s + 2 * i)).toInt ≤ 20
      · rw [if_pos q2, if_pos (decide_eq_true ⟨by omega, q2⟩)]
      · rw [if_neg q2, if_neg (fun z => absurd (of_decide_eq_true z).2 q2)]
theorem e_tellsVisitors {Mx Mm : kx_M} {V : kv_V} {s n : Nat} (hok : kv_ok V) (hX : kv_X Mx 1 V) (he : ∀ k, k < 40 → Mx.2 (27 + 2 * s) k = Mm.2 11 (40 * s + k)) (hn : n ≤ 20) : f_X4_tellsVisitors (26 + 2 * s) Mx (nI n) = some (z_allb (s_in Mm s ((V.1 5 3 : Int) - 1)) n) := by
  have hv := hok.2.2.2.1
  unfold f_X4_tellsVisitors
  refine kz_all0 (F := fun m i => f_X4_tellsVisitors_2 (26 + 2 * s) Mx m (nI n) i) (by omega) ?_ ?_
  · intro m
    rw [f_X4_tellsVisitors_2.eq_2]
    exact if_pos (Int32.le_refl _)
  · intro m i hi
    have l0 : (0 : Int64).toInt = 0 := by decide
    rw [f_X4_tellsVisitors_2.eq_2, if_neg (nI_ge hi (by omega)), z_2 i (by omega), z_ck (show 2 * i < 40 by omega) (by decide), nI_clamp (by omega), show 26 + 2 * s + 1 = 27 + 2 * s by omega, he (2 * i) (by omega), hX.1.2.2.2.2, nI_1]
    simp only [l_lt, Int64.lt_iff_toInt_lt, l0, Int32.toInt_toInt64, nI_toInt (show V.1 5 3 < 2 ^ 31 by omega)]
    unfold s_in
    by_cases q1 : (Mm.2 11 (40 * s + 2 * i)).toInt < 0
    · rw [if_pos q1, if_neg (fun z => absurd (of_decide_eq_true z) (by omega))]
    · rw [if_neg q1]
      by_cases q2 : (Mm.2 11 (40 * s + 2 * i)).toInt < (V.1 5 3 : Int)
      · rw [if_pos q2, if_pos (decide_eq_true ⟨by omega, by omega⟩)]
      · rw [if_neg q2, if_neg (fun z => absurd (of_decide_eq_true z) (by omega))]
/-- what was shown to one is as it would be -/
def s_so (V : kv_V) (Mm : kx_M) (s x : Nat) (k w : Int32) (i : Nat) : Bool := decide ((s_if V x k w (Mm.2 11 (40 * s + 2 * i)).toInt32).toInt64 = Mm.2 11 (40 * s + (2 * i + 1)))
theorem e_X4_so {Mx Mm : kx_M} {V : kv_V} {s n x : Nat} (hok : kv_ok V) (hX : kv_X Mx 1 V) (he : ∀ k, k < 40 → Mx.2 (27 + 2 * s) k = Mm.2 11 (40 * s + k)) (hn : n ≤ 20) (hx : x < V.1 5 3) (k w : Int32) : f_X4_isShownAsTold (26 + 2 * s) Mx (nI n) (nI x) k w = some (z_allb (s_so V Mm s x k w) n) := by
  unfold f_X4_isShownAsTold
  refine kz_all0 (F := fun m i => f_X4_isShownAsTold_3 (26 + 2 * s) Mx m (nI n) (nI x) k w i) (by omega) ?_ ?_
  · intro m
    rw [f_X4_isShownAsTold_3.eq_2]
    exact if_pos (Int32.le_refl _)
  · intro m i hi
    rw [f_X4_isShownAsTold_3.eq_2, if_neg (nI_ge hi (by omega)), z_21 i (by omega), z_2 i (by omega), z_ck (show 2 * i < 40 by omega) (by decide), nI_clamp (by omega), show 26 + 2 * s + 1 = 27 + 2 * s by omega, he (2 * i) (by omega), s_X0_if hok hX hx, Option.bind_some, z_ck (show 2 * i + 1 < 40 by omega) (by decide), nI_clamp (by omega), he (2 * i + 1) (by omega), nI_1]
    simp only [l_eq]
    unfold s_so
    by_cases q : (s_if V x k w (Mm.2 11 (40 * s + 2 * i)).toInt32).toInt64 = Mm.2 11 (40 * s + (2 * i + 1))
    · rw [if_pos q, if_pos (decide_eq_true q)]
    · rw [if_neg q, if_neg (fun z => q (of_decide_eq_true z))]
theorem e_X5_so {N : kx_M} {V : kv_V} {s n x : Nat} (hok : kv_ok V) (hM : kv_M N V) (hs : s < 8) (hn : n ≤ 20) (hx : x < V.1 5 3) (hin : ∀ i, i < n → s_in N s 20 i = true) : f_X5_isShownSo (nI s) (nI n) (nI x) N = some (z_allb (s_so V N s x (nI (V.1 2 x)) (nI (V.1 4 x))) n, N) := by
  have hv := hok.2.2.2.1
  have pp : ∃ p : Nat → Bool, p = s_so V N s x (nI (V.1 2 x)) (nI (V.1 4 x)) := ⟨_, rfl⟩
  obtain ⟨p, hp⟩ := pp
  unfold f_X5_isShownSo
  rw [z_ck2a, z_c0, ← hp]
  refine kz_rel (F := fun m i (b : Bool × kx_M) => f_X5_isShownSo_14 m (nI s) (nI n) (nI x) (N.1 3 0) b.1 i b.2) (N := n) (fun i b => (∃ t, b.2 = kx_u1 N 3 0 t) ∧ ((b.1 = true ∧ ∀ j, j < i → p j = true) ∨ (b.1 = false ∧ ∃ j, j < n ∧ p j = false))) (fun z => z = some (z_allb p n, N)) ?_ ?_ n 0 kx_fuel (true, N) (by omega) (kz_f _ (by omega)) ⟨⟨_, kx_u1_self.symm⟩, Or.inl ⟨rfl, fun j hj => absurd hj (Nat.not_lt_zero j)⟩⟩
  · intro m b hP
    obtain ⟨⟨t, ht⟩, hP⟩ := hP
    rw [f_X5_isShownSo_14.eq_2, if_pos (Int32.le_refl _), z_ck2a, z_c0, ht, kx_u1_twice, kx_u1_self]
    rcases hP with ⟨e, q⟩ | ⟨e, j, hj, q⟩
    · rw [e, (z_allb_iff _ n).mpr q]
    · have : z_allb p n = false := by
        cases z : z_allb p n with
        | false => rfl
        | true =>
          rw [(z_allb_iff _ n).mp z j hj] at q
          cases q
      rw [e, this]
  · intro m i b hi hP
    obtain ⟨⟨t, ht⟩, hP⟩ := hP
    rw [f_X5_isShownSo_14.eq_2, if_neg (nI_ge hi (by omega))]
    rcases hP with ⟨e, q⟩ | ⟨e, j, hj, q⟩
    · have hi2 := of_decide_eq_true (hin i hi)
      obtain ⟨u, hu, eu, _⟩ := l_small (H := 20) (by omega) hi2.1 hi2.2
      have tn : ∀ (w : Int32) (j : Nat), j < 40 → f_X5_toldAt (kx_u1 N 3 0 w) (nI s) (nI j) = some (N.2 11 (40 * s + j)) := fun w j hj => e_told (Mm := kx_u1 N 3 0 w) hs hj
      rw [e, if_pos rfl, z_21 i (by omega), z_2 i (by omega), ht, tn _ _ (show 2 * i < 40 by omega), Option.bind_some, z_ck2a, z_c0, kx_u1_twice, eu, s_M_veil hok hM hx hu, Option.bind_some, tn _ _ (show 2 * i + 1 < 40 by omega), Option.bind_some, nI_1, s_alone_if V (by omega) _ (by omega)]
      simp only [l_eq]
      by_cases q2 : (s_if V x (nI (V.1 2 x)) (nI (V.1 4 x)) (nI u)).toInt64 = N.2 11 (40 * s + (2 * i + 1))
      · rw [if_pos q2]
        refine Or.inr ⟨(true, kx_u1 N 3 0 (nI u)), ⟨⟨_, rfl⟩, Or.inl ⟨rfl, fun j hj => ?_⟩⟩, rfl⟩
        by_cases ej : j = i
        · rw [ej, hp]
          unfold s_so
          rw [eu]
          exact decide_eq_true q2
        · exact q j (by omega)
      · rw [if_neg q2]
        refine Or.inr ⟨(false, kx_u1 N 3 0 (nI u)), ⟨⟨_, rfl⟩, Or.inr ⟨rfl, i, hi, ?_⟩⟩, rfl⟩
        rw [hp]
        unfold s_so
        rw [eu]
        exact decide_eq_false q2
    · rw [e, if_neg (show ¬ false = true by decide), z_ck2a, z_c0, ht, kx_u1_twice, kx_u1_self]
      refine Or.inl ?_
      have : z_allb p n = false := by
        cases z : z_allb p n with
        | false => rfl
        | true =>
          rw [(z_allb_iff _ n).mp z j hj] at q
          cases q
      rw [this]
theorem kv_s_fits {Mx Mm : kx_M} (h : kv_Inv Mx Mm) (a b d c : Int32) : kv_Sim (f_X4_fits a b d c Mx) (f_X5_fits a b d c Mm) := by
  obtain ⟨V, hok, hX, hM, hR⟩ := id h
  have hv := hok.2.2.2.1
  have no : ∀ (t : Bool), (¬ f_X4_isWithin a 0 7 = true ∨ t = false) → f_X4_fits_34 a b d c t Mx = kx_bd (f_X4_refuse (-2) Mx) fun v M => some (v, M) := by
    intro t ht
    unfold f_X4_fits_34 f_X4_fits_52 f_X4_fits_80
    simp only [e_X4_fault_no ht, Option.bind_some, if_neg (show ¬ (-2 : Int32) = 0 by decide)]
    split <;> rfl
  unfold f_X4_fits f_X5_fits f_X5_isShelf
  rw [kv_within, kv_within, e_X0_V hX, e_X5_V hM, e_two]
  by_cases h1 : f_X4_isWithin a 0 7 = true
  · rw [if_pos h1]
    by_cases h2 : f_X4_isWithin b 0 20 = true
    · rw [if_pos h2, if_pos h2]
      by_cases h3 : g_V V d = true
      · rw [if_pos h3, if_pos h3]
        by_cases h4 : f_X4_isOneOfTwo c = true
        · rw [if_pos h4, if_pos h4]
          obtain ⟨s, hs, rfl⟩ := g_S_el h1
          have hS := hR.2.1 s hs
          obtain ⟨n, hn, rfl⟩ := z_in (n := 20) (by omega) h2
          obtain ⟨x, hx, rfl⟩ := g_V_el hok h3
          have h20 : (20 : Int32).toInt = 20 := by decide
          rw [e_noTwos hS hv hs hn h20, Option.bind_some]
          unfold f_X4_fits_34 f_X4_fits_52
          rw [if_pos rfl, z_2 n (by omega), e_X4_fault hS hv hs, Option.bind_some]
          by_cases hf : s_fault Mm s (nI (2 * n)) = 0
          · obtain ⟨t, z, ht, hz, e, e2, e3, e4, e5⟩ := s_fault_el hS hv hf
            rw [if_pos hf, if_pos hf, hf, z_ck hs (by decide), nI_clamp (show s < 2 ^ 31 by omega), e_tellsVeils e4 hn, Option.bind_some]
            by_cases hw : z_allb (s_in Mm s 20) n = true
            · rw [if_pos hw, if_pos hw, if_pos (show (0 : Int32) ≤ 0 by decide)]
              have hin := (z_allb_iff _ n).mp hw
              unfold f_X4_fits_80
              rw [if_pos rfl, z_ck hs (by decide), z_ck hs (by decide), z_ck (show x < 8 by omega) (by decide), z_ck (show x < 8 by omega) (by decide), nI_clamp (show s < 2 ^ 31 by omega), nI_clamp (show x < 2 ^ 31 by omega)]
              rcases e_two_el h4 with rfl | rfl
              · rw [if_pos rfl, if_pos rfl]
                have ss : ∃ st : Nat → Int32 → Int32, st = fun k w => if z_allb (s_so V Mm s x (nI k) (nI (V.1 4 x))) n = true then w ||| ((1 : Int32) <<< (nI k &&& 31)) else w := ⟨_, rfl⟩
                obtain ⟨st, hst⟩ := ss
                refine kv_Sim_eq (r := kz_up st 6 0 0) ?_ ?_ h
                · have : f_X4_kindsThatFit (26 + 2 * s) Mx (nI n) (nI x) = some (kz_up st 6 0 0) := by
                    unfold f_X4_kindsThatFit
                    exact kz_run0 (F := fun m k w => f_X4_kindsThatFit_6 (26 + 2 * s) Mx m (nI n) (nI x) w k) (st := st) (k := fun w => some w) 6 (0 : Int32) (by omega)
                      (fun m w => by
                        rw [f_X4_kindsThatFit_6.eq_2]
                        exact if_pos (by decide))
                      (fun m k w hk => by
                        rw [f_X4_kindsThatFit_6.eq_2, if_neg (show ¬ (6 : Int32) ≤ nI k from nI_ge (b := 6) hk (by omega)), z_ck (show x < 8 by omega) (by decide), nI_clamp (show x < 2 ^ 31 by omega), (x1_k hX (show x < 8 by omega)).2.2.1, e_X4_so hok hX e4 hn hx, Option.bind_some, nI_1, hst]
                        dsimp only
                        split <;> rfl)
                  rw [this]
                  rfl
                · refine kz_rel (F := fun m k (w : Int32 × kx_M) => f_X5_fits_92 m (nI s) (nI n) (nI x) (0 : Int32) (Mm.1 4 x) w.1 k w.2) (N := 6) (fun k w => w.1 = kz_up st k 0 0 ∧ ∃ t, w.2 = kx_u1 Mm 4 x t) (fun z => z = some (kz_up st 6 0 0, Mm)) ?_ ?_ 6 0 kx_fuel ((0 : Int32), Mm) (by omega) (kz_f _ (by omega)) ⟨rfl, _, kx_u1_self.symm⟩
                  · intro m w hP
                    obtain ⟨p1, t, p2⟩ := hP
                    rw [f_X5_fits_92.eq_2, if_pos rfl]
                    unfold f_X5_fits_105
                    rw [if_pos (show (5 : Int32) < nI 6 by decide), if_pos rfl, z_ck (show x < 8 by omega) (by decide), nI_clamp (by omega), p2, kx_u1_twice, kx_u1_self, p1]
                  · intro m k w hk hP
                    obtain ⟨p1, t, p2⟩ := hP
                    rw [f_X5_fits_92.eq_2, if_pos rfl]
                    unfold f_X5_fits_105 f_X5_fits_132
                    have hso := e_X5_so (N := kx_u1 Mm 4 x (nI k)) (kv_ok_kind (x := x) hok (show k ≤ 5 by omega)) (kv_M_kind hM) hs hn hx hin
                    have ep : s_so (kv_put V 2 x k) (kx_u1 Mm 4 x (nI k)) s x (nI ((kv_put V 2 x k).1 2 x)) (nI ((kv_put V 2 x k).1 4 x)) = s_so V Mm s x (nI k) (nI (V.1 4 x)) := by rw [kv_put_at]; rfl
                    rw [ep] at hso
                    rw [if_neg (show ¬ (5 : Int32) < nI k from nI_nlt (a := 5) (by omega) (by omega)), if_pos rfl, z_ck (show x < 8 by omega) (by decide), nI_clamp (by omega), p2, kx_u1_twice, hso, kx_bd_ok, nI_1]
                    refine Or.inr ⟨(kz_up st (k + 1) 0 0, kx_u1 Mm 4 x (nI k)), ⟨rfl, _, rfl⟩, ?_⟩
                    rw [kz_up_end, Nat.zero_add, ← p1, hst]
                    dsimp only
                    split <;> rfl
              · rw [if_neg (show ¬ (1 : Int32) = 0 by decide), if_neg (show ¬ (1 : Int32) = 0 by decide)]
                have ss : ∃ st : Nat → Int32 → Int32, st = fun k w => if z_allb (s_so V Mm s x (nI (V.1 2 x)) (nI k)) n = true then w ||| ((1 : Int32) <<< (nI k &&& 31)) else w := ⟨_, rfl⟩
                obtain ⟨st, hst⟩ := ss
                refine kv_Sim_eq (r := kz_up st 21 0 0) ?_ ?_ h
                · have : f_X4_wantsThatFit (26 + 2 * s) Mx (nI n) (nI x) = some (kz_up st 21 0 0) := by
                    unfold f_X4_wantsThatFit
                    exact kz_run0 (F := fun m k w => f_X4_wantsThatFit_6 (26 + 2 * s) Mx m (nI n) (nI x) w k) (st := st) (k := fun w => some w) 21 (0 : Int32) (by omega)
                      (fun m w => by
                        rw [f_X4_wantsThatFit_6.eq_2]
                        exact if_pos (by decide))
                      (fun m k w hk => by
                        rw [f_X4_wantsThatFit_6.eq_2, if_neg (show ¬ (20 : Int32) < nI k from nI_nlt (a := 20) (by omega) (by omega)), z_ck (show x < 8 by omega) (by decide), nI_clamp (show x < 2 ^ 31 by omega), (x1_k hX (show x < 8 by omega)).1, e_X4_so hok hX e4 hn hx, Option.bind_some, nI_1, hst]
                        dsimp only
                        split <;> rfl)
                  rw [this]
                  rfl
                · refine kz_rel (F := fun m k (w : Int32 × kx_M) => f_X5_fits_92 m (nI s) (nI n) (nI x) (1 : Int32) (Mm.1 6 x) w.1 k w.2) (N := 21) (fun k w => w.1 = kz_up st k 0 0 ∧ ∃ t, w.2 = kx_u1 Mm 6 x t) (fun z => z = some (kz_up st 21 0 0, Mm)) ?_ ?_ 21 0 kx_fuel ((0 : Int32), Mm) (by omega) (kz_f _ (by omega)) ⟨rfl, _, kx_u1_self.symm⟩
                  · intro m w hP
                    obtain ⟨p1, t, p2⟩ := hP
                    rw [f_X5_fits_92.eq_2, if_neg (show ¬ (1 : Int32) = 0 by decide)]
                    unfold f_X5_fits_105
                    rw [if_pos (show (20 : Int32) < nI 21 by decide), if_neg (show ¬ (1 : Int32) = 0 by decide), z_ck (show x < 8 by omega) (by decide), nI_clamp (by omega), p2, kx_u1_twice, kx_u1_self, p1]
                  · intro m k w hk hP
                    obtain ⟨p1, t, p2⟩ := hP
                    rw [f_X5_fits_92.eq_2, if_neg (show ¬ (1 : Int32) = 0 by decide)]
                    unfold f_X5_fits_105 f_X5_fits_132
                    have hso := e_X5_so (N := kx_u1 Mm 6 x (nI k)) (kv_ok_want (x := x) hok (show k ≤ 20 by omega)) (kv_M_want hM) hs hn hx hin
                    have ep : s_so (kv_put V 4 x k) (kx_u1 Mm 6 x (nI k)) s x (nI ((kv_put V 4 x k).1 2 x)) (nI ((kv_put V 4 x k).1 4 x)) = s_so V Mm s x (nI (V.1 2 x)) (nI k) := by rw [kv_put_at]; rfl
                    rw [ep] at hso
                    rw [if_neg (show ¬ (20 : Int32) < nI k from nI_nlt (a := 20) (by omega) (by omega)), if_neg (show ¬ (1 : Int32) = 0 by decide), z_ck (show x < 8 by omega) (by decide), nI_clamp (by omega), p2, kx_u1_twice, hso, kx_bd_ok, nI_1]
                    refine Or.inr ⟨(kz_up st (k + 1) 0 0, kx_u1 Mm 6 x (nI k)), ⟨rfl, _, rfl⟩, ?_⟩
                    rw [kz_up_end, Nat.zero_add, ← p1, hst]
                    dsimp only
                    split <;> rfl
            · rw [if_neg hw, if_neg hw, if_neg (show ¬ (0 : Int32) ≤ -5 by decide)]
              unfold f_X4_fits_80
              rw [if_neg (show ¬ (-5 : Int32) = 0 by decide)]
              exact kv_Sim_stuck h
          · unfold f_X4_fits_80
            rw [if_neg hf, if_neg hf, if_neg hf, if_neg (s_fault_neg hf)]
            exact kv_Sim_fault h hf
        · rw [if_neg h4, if_neg h4, no _ (Or.inr rfl)]
          exact kv_Sim_no h
      · rw [if_neg h3, if_neg h3, no _ (Or.inr rfl)]
        exact kv_Sim_no h
    · rw [if_neg h2, if_neg h2, no _ (Or.inr rfl)]
      exact kv_Sim_no h
  · rw [if_neg h1, no _ (Or.inl h1), no _ (Or.inl h1)]
    simp only [ite_self]
    exact kv_Sim_no h
