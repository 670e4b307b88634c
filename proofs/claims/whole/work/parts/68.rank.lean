/-! best, rarest, shyest, secret, rank -/
/-- the place of the first best of those from 0 to n, by two ways of counting -/
def s_at (f : Nat → Int32) (i : Nat) (b : Int32) : Int32 := if f i ≤ f b.toNatClampNeg then b else nI i
theorem s_at_pick (f : Nat → Int32) (m i : Nat) (h : i + m < 4096) (j : Nat) (hj : j < i) : (∃ k, k < i + m ∧ kz_up (s_at f) m i (nI j) = nI k ∧ kz_up (s_pick f) m i (nI j, f j) = (nI k, f k)) :=
  kz_ind2 (P := fun i (a : Int32) (b : Int32 × Int32) => ∃ k, k < i ∧ a = nI k ∧ b = (nI k, f k)) m i (nI j) (nI j, f j) ⟨j, hj, rfl, rfl⟩ (fun t a b h1 h2 hP => by
    obtain ⟨k, hk, rfl, rfl⟩ := hP
    unfold s_at s_pick
    rw [nI_clamp (by omega)]
    dsimp only
    by_cases q : f t ≤ f k
    · rw [if_pos q, if_pos q]
      exact ⟨k, by omega, rfl, rfl⟩
    · rw [if_neg q, if_neg q]
      exact ⟨t, by omega, rfl, rfl⟩)
theorem kv_s_best {Mx Mm : kx_M} (h : kv_Inv Mx Mm) (a : Int32) : kv_Sim (f_X4_best a Mx) (f_X5_best a Mm) := by
  obtain ⟨V, hok, hX, hM, hR⟩ := id h
  have hv := hok.2.2.2.1
  unfold f_X4_best f_X5_best
  rw [e_two]
  refine kv_Sim_if (fun h2 => ?_) (fun _ => kv_Sim_no h)
  rw [hM.1.2.2.2.2, hX.1.2.2.2.2]
  by_cases h0 : V.1 5 3 = 0
  · rw [h0]
    exact kv_Sim_stuck h
  · rw [if_neg (nI_ne0 (by omega) (by omega)), if_neg (nI_ne0 (by omega) (by omega))]
    have ff : ∃ f : Nat → Int32, f = fun x => f_J6_bitCount_0f7a4 (s_shown V x ((1 : Int32) <<< (nI x &&& 31)) (nI (V.1 5 1))) := ⟨_, rfl⟩
    obtain ⟨f, hf⟩ := ff
    have hf0 : ¬ f 0 ≤ (-1 : Int32) := by
      rw [hf]
      obtain ⟨m, hm, e⟩ := z_bcR (s_shown V 0 ((1 : Int32) <<< (nI 0 &&& 31)) (nI (V.1 5 1)))
      dsimp only
      rw [e]
      exact fun q => (show ¬ (0 : Int32) ≤ -1 by decide) (Int32.le_trans (nI_pos' (by omega)) q)
    obtain ⟨k, hk, e1, e2⟩ := s_at_pick f (V.1 5 3 - 1) 1 (by omega) 0 (by omega)
    have e3 : kz_up (s_pick f) (V.1 5 3) 0 ((-1 : Int32), (-1 : Int32)) = (nI k, f k) := by
      have q : V.1 5 3 = (V.1 5 3 - 1) + 1 := by omega
      rw [q]
      show kz_up (s_pick f) (V.1 5 3 - 1) 1 (s_pick f 0 ((-1 : Int32), (-1 : Int32))) = _
      rw [← e2]
      unfold s_pick
      rw [if_neg hf0]
    refine kv_Sim_eq (r := if a = 0 then nI k else f k) ?_ ?_ h
    · have := kz_run0 (F := fun n i b => f_X4_best_38 n a b.1 b.2 i Mx) (st := s_pick f) (k := fun b => if a = 0 then some (b.1, Mx) else some (b.2, Mx)) (V.1 5 3) ((-1 : Int32), (-1 : Int32)) (by omega)
        (fun n b => by
          rw [f_X4_best_38.eq_2, hX.1.2.2.2.2]
          exact if_pos (Int32.le_refl _))
        (fun n i b hi => by
          rw [f_X4_best_38.eq_2, hX.1.2.2.2.2, if_neg (nI_ge hi (by omega)), s_X0_alone hok hX hi, hX.1.2.1, nI_1, Option.bind_some, hf]
          unfold s_pick
          dsimp only
          split <;> rfl)
      rw [e3] at this
      refine Eq.trans this ?_
      dsimp only
      split <;> rfl
    · have := (kz_loop (F := fun n i b => f_X5_best_34 n a b i Mm) (N := V.1 5 3) (st := s_at f) (k := fun b => if a = 0 then some (b, Mm) else some (f b.toNatClampNeg, Mm)) (fun i b => ∃ j, j < i ∧ j < V.1 5 3 ∧ b = nI j)
        (fun n b hP => by
          obtain ⟨j, hj, hj2, rfl⟩ := hP
          rw [f_X5_best_34.eq_2, hM.1.2.2.2.2, if_pos (Int32.le_refl _), s_X5_alone hok hM hj2, nI_clamp (by omega), hf]
          rfl)
        (fun n i b hi hP => by
          obtain ⟨j, hj, hj2, rfl⟩ := hP
          rw [f_X5_best_34.eq_2, hM.1.2.2.2.2, if_neg (nI_ge hi (by omega)), s_X5_alone hok hM hi, s_X5_alone hok hM hj2, nI_1, Option.bind_some, Option.bind_some]
          unfold s_at
          rw [nI_clamp (show j < 2 ^ 31 by omega), hf]
          dsimp only
          split <;> rfl)
        (fun i b hi hP => by
          obtain ⟨j, hj, hj2, rfl⟩ := hP
          unfold s_at
          rw [nI_clamp (show j < 2 ^ 31 by omega)]
          split
          · exact ⟨j, by omega, hj2, rfl⟩
          · exact ⟨i, by omega, hi, rfl⟩) (V.1 5 3 - 1) 1 (nI 0) kx_fuel (by omega) (kz_f _ (by omega)) ⟨0, by omega, by omega, rfl⟩).1
      rw [e1] at this
      refine Eq.trans this ?_
      rw [nI_clamp (by omega)]
      split <;> rfl
theorem z_dif : ∀ p, p < 64 → ∀ q, q < 64 → ((0 : Int32) ≤ nI p - nI q ↔ nI q ≤ nI p) ∧ (nI p - nI q ≤ (0 : Int32) ↔ nI p ≤ nI q) ∧ ((0 : Int32) < nI p - nI q ↔ nI q < nI p) ∧ (nI p - nI q = (0 : Int32) ↔ nI p = nI q) := by decide +kernel
theorem z_difb (x y : Int32) : ((0 : Int32) ≤ f_J6_bitCount_0f7a4 x - f_J6_bitCount_0f7a4 y ↔ f_J6_bitCount_0f7a4 y ≤ f_J6_bitCount_0f7a4 x) ∧ (f_J6_bitCount_0f7a4 x - f_J6_bitCount_0f7a4 y ≤ (0 : Int32) ↔ f_J6_bitCount_0f7a4 x ≤ f_J6_bitCount_0f7a4 y) ∧ ((0 : Int32) < f_J6_bitCount_0f7a4 x - f_J6_bitCount_0f7a4 y ↔ f_J6_bitCount_0f7a4 y < f_J6_bitCount_0f7a4 x) ∧ (f_J6_bitCount_0f7a4 x - f_J6_bitCount_0f7a4 y = (0 : Int32) ↔ f_J6_bitCount_0f7a4 x = f_J6_bitCount_0f7a4 y) := by
  obtain ⟨p, hp, e1⟩ := z_bcR x
  obtain ⟨q, hq, e2⟩ := z_bcR y
  rw [e1, e2]
  exact z_dif p hp q hq
/-- the first best or the first least -/
def s_atw (w : Bool) (f : Nat → Int32) (i : Nat) (b : Int32) : Int32 := if (if w then f b.toNatClampNeg ≤ f i else f i ≤ f b.toNatClampNeg) then b else nI i
def s_pickw (w : Bool) (f : Nat → Int32) (i : Nat) (a : Int32 × Int32) : Int32 × Int32 := if (if w then a.2 ≤ f i else f i ≤ a.2) then a else (nI i, f i)
theorem s_atw_pick (w : Bool) (f : Nat → Int32) (m i : Nat) (h : i + m < 4096) (j : Nat) (hj : j < i) : (∃ k, k < i + m ∧ kz_up (s_atw w f) m i (nI j) = nI k ∧ kz_up (s_pickw w f) m i (nI j, f j) = (nI k, f k)) :=
  kz_ind2 (P := fun i (a : Int32) (b : Int32 × Int32) => ∃ k, k < i ∧ a = nI k ∧ b = (nI k, f k)) m i (nI j) (nI j, f j) ⟨j, hj, rfl, rfl⟩ (fun t a b h1 h2 hP => by
    obtain ⟨k, hk, rfl, rfl⟩ := hP
    unfold s_atw s_pickw
    rw [nI_clamp (by omega)]
    dsimp only
    by_cases q : (if w then f k ≤ f t else f t ≤ f k)
    · rw [if_pos q, if_pos q]
      exact ⟨k, by omega, rfl, rfl⟩
    · rw [if_neg q, if_neg q]
      exact ⟨t, by omega, rfl, rfl⟩)
theorem kv_s_rarest {Mx Mm : kx_M} (h : kv_Inv Mx Mm) (a : Int32) : kv_Sim (f_X4_rarest a Mx) (f_X5_rarest a Mm) := by
  obtain ⟨V, hok, hX, hM, hR⟩ := id h
  have hv := hok.2.2.2.1
  have hn := hok.1
  unfold f_X4_rarest f_X5_rarest
  rw [e_two]
  refine kv_Sim_if (fun h2 => ?_) (fun _ => kv_Sim_no h)
  have ff : ∃ f : Nat → Int32, f = fun c => f_J6_bitCount_0f7a4 (s_seenBy V c) := ⟨_, rfl⟩
  obtain ⟨f, hf⟩ := ff
  obtain ⟨k, hk, e1, e2⟩ := s_atw_pick (decide (a = 0)) f (V.1 5 0 - 1) 1 (by omega) 0 (by omega)
  have x0 : f_X0_seenBy 1 Mx (0 : Int32) = some (s_seenBy V 0) := s_X0_seenBy hok hX (show 0 < 32 by omega)
  rw [x0, Option.bind_some]
  refine kv_Sim_eq (r := nI k) ?_ ?_ h
  · have := kz_run (i0 := 1) (F := fun n i b => f_X4_rarest_31 n a b.1 b.2 i Mx) (st := s_pickw (decide (a = 0)) f) (k := fun b => some (b.1, Mx)) (V.1 5 0) (nI 0, f 0) (by omega) (by omega)
      (fun n b => by
        rw [f_X4_rarest_31.eq_2, hX.1.1]
        exact if_pos (Int32.le_refl _))
      (fun n i b h1 hi => by
        rw [f_X4_rarest_31.eq_2, hX.1.1, if_neg (nI_ge hi (by omega)), s_X0_seenBy hok hX (show i < 32 by omega), nI_1, Option.bind_some, hf]
        unfold s_pickw
        dsimp only
        by_cases q : a = 0
        · rw [if_pos q, decide_eq_true q]
          simp only [if_true]
          split <;> rfl
        · rw [if_neg q, decide_eq_false q]
          simp only [Bool.false_eq_true, if_false]
          split <;> rfl)
    rw [e2] at this
    rw [hf] at this
    exact this
  · have := (kz_loop (F := fun n i b => f_X5_rarest_20 n a b i Mm) (N := V.1 5 0) (st := s_atw (decide (a = 0)) f) (k := fun b => some (b, Mm)) (fun i b => ∃ j, j < i ∧ j < V.1 5 0 ∧ b = nI j)
      (fun n b hP => by
        rw [f_X5_rarest_20.eq_2, hM.1.1]
        exact if_pos (Int32.le_refl _))
      (fun n i b hi hP => by
        obtain ⟨j, hj, hj2, rfl⟩ := hP
        rw [f_X5_rarest_20.eq_2, hM.1.1, if_neg (nI_ge hi (by omega)), s_X5_seenBy hok hM (show i < 32 by omega), s_X5_seenBy hok hM (show j < 32 by omega), nI_1, Option.bind_some, Option.bind_some]
        unfold s_atw
        rw [nI_clamp (show j < 2 ^ 31 by omega), hf]
        dsimp only
        simp only [(z_difb (s_seenBy V i) (s_seenBy V j)).1, (z_difb (s_seenBy V i) (s_seenBy V j)).2.1]
        by_cases q : a = 0
        · rw [if_pos q, decide_eq_true q]
          simp only [if_true]
          split <;> rfl
        · rw [if_neg q, decide_eq_false q]
          simp only [Bool.false_eq_true, if_false]
          split <;> rfl)
      (fun i b hi hP => by
        obtain ⟨j, hj, hj2, rfl⟩ := hP
        unfold s_atw
        by_cases q : (if decide (a = 0) = true then f (nI j).toNatClampNeg ≤ f i else f i ≤ f (nI j).toNatClampNeg)
        · rw [if_pos q]
          exact ⟨j, by omega, hj2, rfl⟩
        · rw [if_neg q]
          exact ⟨i, by omega, hi, rfl⟩) (V.1 5 0 - 1) 1 (nI 0) kx_fuel (by omega) (kz_f _ (by omega)) ⟨0, by omega, by omega, rfl⟩).1
    rw [e1] at this
    exact this
theorem kv_s_shyest {Mx Mm : kx_M} (h : kv_Inv Mx Mm) (a : Int32) : kv_Sim (f_X4_shyest a Mx) (f_X5_shyest a Mm) := by
  obtain ⟨V, hok, hX, hM, hR⟩ := id h
  have hn := hok.1
  unfold f_X4_shyest f_X5_shyest
  rw [e_X0_B hX, e_X5_B hM]
  cases hb : g_B V a with
  | false => exact kv_Sim_no h
  | true =>
    rw [if_pos rfl, if_pos rfl]
    have hf0 : ∀ i, i < 24 → ¬ nI (V.1 0 i) ≤ (-1 : Int32) := fun i hi q => by
      have hs := (hok.2.2.2.2.1 i hi).1
      exact (show ¬ (0 : Int32) ≤ -1 by decide) (Int32.le_trans (nI_pos' (by omega)) q)
    have st2 : ∃ st2 : Nat → Int32 → Int32, st2 = fun i b => if bt a i = true then (if b = (-1 : Int32) then nI i else if nI (V.1 0 i) ≤ nI (V.1 0 b.toNatClampNeg) then b else nI i) else b := ⟨_, rfl⟩
    obtain ⟨st2, hst2⟩ := st2
    have e := (kz_ind2 (P := fun i (b : Int32 × Int32) (c : Int32) => b.1 = c ∧ ((b = ((-1 : Int32), (-1 : Int32))) ∨ ∃ j, j < 24 ∧ b = (nI j, nI (V.1 0 j)))) (st := fun i b => if bt a i = true then s_pick (fun i => nI (V.1 0 i)) i b else b) (st2 := st2) (V.1 5 0) 0 ((-1 : Int32), (-1 : Int32)) (-1 : Int32) ⟨rfl, Or.inl rfl⟩ (fun i b c _ hi hP => by
      obtain ⟨rfl, hP⟩ := hP
      rw [hst2]
      unfold s_pick
      dsimp only
      cases bt a i with
      | false =>
        rw [if_neg (by decide), if_neg (by decide)]
        exact ⟨rfl, hP⟩
      | true =>
        rw [if_pos rfl, if_pos rfl]
        rcases hP with rfl | ⟨j, hj, rfl⟩
        · dsimp only
          rw [if_pos rfl, if_neg (hf0 i (by omega))]
          exact ⟨rfl, Or.inr ⟨i, by omega, rfl⟩⟩
        · dsimp only
          rw [if_neg (show ¬ nI j = (-1 : Int32) from fun q => (show ¬ (0 : Int32) ≤ -1 by decide) (q ▸ nI_pos' (by omega))), nI_clamp (show j < 2 ^ 31 by omega)]
          split
          · exact ⟨rfl, Or.inr ⟨j, hj, rfl⟩⟩
          · exact ⟨rfl, Or.inr ⟨i, by omega, rfl⟩⟩)).1
    refine kv_Sim_eq (r := (kz_up (fun i b => if bt a i = true then s_pick (fun i => nI (V.1 0 i)) i b else b) (V.1 5 0) 0 ((-1 : Int32), (-1 : Int32))).1) ?_ ?_ h
    · exact kz_run0 (F := fun n i b => f_X4_shyest_25 n a b.1 b.2 i Mx) (k := fun b => some (b.1, Mx)) (V.1 5 0) ((-1 : Int32), (-1 : Int32)) (by omega)
        (fun n b => by
          rw [f_X4_shyest_25.eq_2, hX.1.1]
          exact if_pos (Int32.le_refl _))
        (fun n i b hi => by
          rw [f_X4_shyest_25.eq_2, hX.1.1, if_neg (nI_ge hi (by omega)), z_isIn a (show i < 32 by omega), z_ck (show i < 24 by omega) (by decide), z_ck (show i < 24 by omega) (by decide), nI_clamp (show i < 2 ^ 31 by omega), (x1_c hX (show i < 24 by omega)).1, nI_1]
          unfold s_pick
          dsimp only
          split
          · split <;> rfl
          · rfl)
    · rw [e]
      exact (kz_loop (F := fun n i b => f_X5_shyest_19 n a b i Mm) (N := V.1 5 0) (st := st2) (k := fun b => some (b, Mm)) (fun _ b => b = (-1 : Int32) ∨ ∃ j, j < 24 ∧ b = nI j)
        (fun n b hP => by
          rw [f_X5_shyest_19.eq_2, hM.1.1]
          exact if_pos (Int32.le_refl _))
        (fun n i b hi hP => by
          rw [f_X5_shyest_19.eq_2, hM.1.1, if_neg (nI_ge hi (by omega)), z_has a (show i < 32 by omega), z_ck (show i < 24 by omega) (by decide), nI_clamp (show i < 2 ^ 31 by omega), (hM.2.1 i (by omega)).1, nI_1, hst2]
          dsimp only
          rcases hP with rfl | ⟨j, hj, rfl⟩
          · rw [if_pos rfl, if_pos rfl]
            split <;> rfl
          · rw [z_ck (show j < 24 by omega) (by decide), nI_clamp (show j < 2 ^ 31 by omega), (hM.2.1 j (by omega)).1]
            split
            · split
              · rfl
              · split <;> rfl
            · rfl)
        (fun i b hi hP => by
          rw [hst2]
          dsimp only
          split
          · split
            · exact Or.inr ⟨i, by omega, rfl⟩
            · split
              · exact hP
              · exact Or.inr ⟨i, by omega, rfl⟩
          · exact hP) (V.1 5 0) 0 (-1 : Int32) kx_fuel (by omega) (kz_f _ (by omega)) (Or.inl rfl)).1
theorem z_secret : ∀ v, v < 9 → ∀ b, b < 2 ^ v → kz_up (fun x a => if nI b = ((1 : Int32) <<< (nI x &&& 31)) then nI x else a) v 0 (-1 : Int32) = if f_J6_bitCount_0f7a4 (nI b) = (1 : Int32) then f_J6_numberOfTrailingZeros_0f7a4 (nI b) else (-1 : Int32) := by decide +kernel
theorem kv_s_secret {Mx Mm : kx_M} (h : kv_Inv Mx Mm) (a : Int32) : kv_Sim (f_X4_secret a Mx) (f_X5_secret a Mm) := by
  obtain ⟨V, hok, hX, hM, hR⟩ := id h
  have hv := hok.2.2.2.1
  have hn := hok.1.2
  unfold f_X4_secret f_X5_secret
  rw [e_X0_C hX, e_X5_C hM]
  cases h1 : g_C V a with
  | false => exact kv_Sim_no h
  | true =>
    obtain ⟨c, hc, rfl⟩ := g_C_el hok h1
    rw [if_pos rfl, if_pos rfl, s_X5_seenBy hok hM (show c < 32 by omega), Option.bind_some]
    obtain ⟨b, hb, eb, _⟩ := z_bc (fun x => bt (V.2.1 x) c) (V.1 5 3) hv
    have es : s_seenBy V c = nI b := eb
    rw [es]
    have := kz_run0 (F := fun n i b => f_X4_secret_22 n (nI c) b i Mx) (st := fun x a => if nI b = ((1 : Int32) <<< (nI x &&& 31)) then nI x else a) (k := fun b => some (b, Mx)) (V.1 5 3) (-1 : Int32) (by omega)
      (fun n b => by
        rw [f_X4_secret_22.eq_2, hX.1.2.2.2.2]
        exact if_pos (Int32.le_refl _))
      (fun n i b hi => by
        rw [f_X4_secret_22.eq_2, hX.1.2.2.2.2, if_neg (nI_ge hi (by omega)), s_X0_seenBy hok hX (show c < 32 by omega), es, nI_1, Option.bind_some]
        split <;> rfl)
    rw [z_secret _ (by omega) b hb] at this
    refine kv_Sim_eq this ?_ h
    split <;> rfl
