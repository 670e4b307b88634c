/-! calls that look at one thing after another -/
theorem kv_Sim_if {c : Prop} [hc : Decidable c] {p p' q q' : Option (Int32 × kx_M)} (h1 : c → kv_Sim p q) (h2 : ¬ c → kv_Sim p' q') : kv_Sim (if c then p else p') (if c then q else q') := by
  by_cases h : c
  · rw [if_pos h, if_pos h]
    exact h1 h
  · rw [if_neg h, if_neg h]
    exact h2 h
theorem kv_s_visitorOf {Mx Mm : kx_M} (h : kv_Inv Mx Mm) (a b : Int32) : kv_Sim (f_X4_visitorOf a b Mx) (f_X5_visitorOf a b Mm) := by
  obtain ⟨V, hok, hX, hM, hR⟩ := id h
  have hv := hok.2.2.2.1
  unfold f_X4_visitorOf f_X5_visitorOf
  rw [e_X0_V hX, e_X5_V hM]
  cases h1 : g_V V a with
  | false => exact kv_Sim_no h
  | true =>
    obtain ⟨x, hx, rfl⟩ := g_V_el hok h1
    obtain ⟨p1, p2, p3, p4⟩ := x1_k hX (show x < 8 by omega)
    obtain ⟨q1, q2, q3, q4⟩ := hM.2.2 x (show x < 8 by omega)
    rw [if_pos rfl, if_pos rfl]
    simp only [z_ck (show x < 8 by omega) (by decide : (8 : Nat) ≤ 4096), nI_clamp (show x < 2 ^ 31 by omega), p1, p2, p3, p4, q1, q2, q3, q4]
    exact kv_Sim_if (fun _ => kv_Sim_ret h _) (fun _ => kv_Sim_if (fun _ => kv_Sim_ret h _) (fun _ => kv_Sim_if (fun _ => kv_Sim_ret h _) (fun _ => kv_Sim_if (fun _ => kv_Sim_ret h _) (fun _ => kv_Sim_if (fun _ => kv_Sim_ret h _) (fun _ => kv_Sim_no h)))))
theorem e_three {a : Int32} : f_X5_within a (0 : Int32) (2 : Int32) = true ↔ a = 0 ∨ a = 1 ∨ a = 2 := by
  rw [kv_within]
  constructor
  · intro h
    obtain ⟨k, hk, rfl⟩ := z_in (n := 2) (by omega) h
    have : k = 0 ∨ k = 1 ∨ k = 2 := by omega
    rcases this with rfl | rfl | rfl
    · exact Or.inl rfl
    · exact Or.inr (Or.inl rfl)
    · exact Or.inr (Or.inr rfl)
  · rintro (rfl | rfl | rfl) <;> decide
theorem kv_s_cellOf {Mx Mm : kx_M} (h : kv_Inv Mx Mm) (a b : Int32) : kv_Sim (f_X4_cellOf a b Mx) (f_X5_cellOf a b Mm) := by
  obtain ⟨V, hok, hX, hM, hR⟩ := id h
  have hn := hok.1.2
  unfold f_X4_cellOf f_X5_cellOf
  rw [e_X0_C hX, e_X5_C hM]
  cases h1 : g_C V a with
  | false => exact kv_Sim_no h
  | true =>
    obtain ⟨x, hx, rfl⟩ := g_C_el hok h1
    obtain ⟨p1, p2⟩ := x1_c hX (show x < 24 by omega)
    obtain ⟨q1, q2⟩ := hM.2.1 x (show x < 24 by omega)
    rw [if_pos rfl, if_pos rfl]
    by_cases hb : f_X5_within b (0 : Int32) (2 : Int32) = true
    · rw [if_pos hb]
      simp only [z_ck (show x < 24 by omega) (by decide : (24 : Nat) ≤ 4096), nI_clamp (show x < 2 ^ 31 by omega), p1, p2, q1, q2, s_X0_seenBy hok hX (show x < 32 by omega), s_X5_seenBy hok hM (show x < 32 by omega), Option.bind_some]
      rcases e_three.mp hb with rfl | rfl | rfl
      · exact kv_Sim_ret h _
      · exact kv_Sim_ret h _
      · exact kv_Sim_ret h _
    · have n0 : ¬ b = 0 := fun q => hb (e_three.mpr (Or.inl q))
      have n1 : ¬ b = 1 := fun q => hb (e_three.mpr (Or.inr (Or.inl q)))
      have n2 : ¬ b = 2 := fun q => hb (e_three.mpr (Or.inr (Or.inr q)))
      rw [if_neg hb, if_neg n0, if_neg n1, if_neg n2]
      exact kv_Sim_no h
theorem kv_s_needed {Mx Mm : kx_M} (h : kv_Inv Mx Mm) : kv_SimR (f_X4_needed Mx) (f_X5_needed Mm) := by
  obtain ⟨V, hok, hX, hM, hR⟩ := id h
  have hv := hok.2.2.2.1
  have st : ∃ st : Nat → Int32 → Int32, st = fun x a => if s_known V (s_all V &&& (((1 : Int32) <<< (nI x &&& 31)) ^^^ (-1 : Int32))) = s_known V (s_all V) then a else a ||| ((1 : Int32) <<< (nI x &&& 31)) := ⟨_, rfl⟩
  obtain ⟨st, hst⟩ := st
  refine ⟨kz_up st (V.1 5 3) 0 0, ?_, ?_⟩
  · unfold f_X4_needed
    rw [s_X0_all hX]
    exact kz_run0 (F := fun n i a => f_X4_needed_12 Mx n a (s_all V) i) (k := fun a => some a) (V.1 5 3) 0 (by omega)
      (fun n a => by
        rw [f_X4_needed_12.eq_2, hX.1.2.2.2.2]
        exact if_pos (Int32.le_refl _))
      (fun n i a hi => by
        rw [f_X4_needed_12.eq_2, hX.1.2.2.2.2, if_neg (nI_ge hi (by omega)), s_X0_known hok hX, s_X0_known hok hX, nI_1, hst]
        dsimp only [Option.bind_some]
        split <;> rfl)
  · unfold f_X5_needed
    exact kz_run0 (F := fun n i a => f_X5_needed_4 Mm n a i) (k := fun a => some a) (V.1 5 3) 0 (by omega)
      (fun n a => by
        rw [f_X5_needed_4.eq_2, hM.1.2.2.2.2]
        exact if_pos (Int32.le_refl _))
      (fun n i a hi => by
        rw [f_X5_needed_4.eq_2, s_X5_all hM, hM.1.2.2.2.2, if_neg (nI_ge hi (by omega)), s_X5_known hok hM, s_X5_known hok hM, nI_1, hst]
        dsimp only [Option.bind_some]
        split <;> rfl)
theorem kv_s_hidden {Mx Mm : kx_M} (h : kv_Inv Mx Mm) : kv_SimR (f_X4_hidden Mx) (f_X5_hidden Mm) := by
  obtain ⟨V, hok, hX, hM, hR⟩ := id h
  have hv := hok.2.2.2.1
  have hx1 : f_X4_hidden Mx = some (s_cells V &&& (kz_up (fun x a => a ||| s_shown V x ((1 : Int32) <<< (nI x &&& 31)) (nI (V.1 5 1))) (V.1 5 3) 0 0 ^^^ (-1 : Int32))) := by
    unfold f_X4_hidden
    exact kz_run0 (F := fun n i a => f_X4_hidden_4 Mx n a i) (k := fun a => some (s_cells V &&& (a ^^^ (-1 : Int32)))) (V.1 5 3) 0 (by omega)
      (fun n a => by
        rw [f_X4_hidden_4.eq_2, hX.1.2.2.2.2, e_X0_cells hX]
        exact if_pos (Int32.le_refl _))
      (fun n i a hi => by
        rw [f_X4_hidden_4.eq_2, hX.1.2.2.2.2, if_neg (nI_ge hi (by omega)), s_X0_alone hok hX hi, hX.1.2.1, nI_1]
        rfl)
  have hm1 : f_X5_hidden Mm = some (kz_up (fun x a => a &&& (s_shown V x ((1 : Int32) <<< (nI x &&& 31)) (nI (V.1 5 1)) ^^^ (-1 : Int32))) (V.1 5 3) 0 (s_cells V)) := by
    unfold f_X5_hidden
    rw [hM.1.1]
    exact kz_run0 (F := fun n i a => f_X5_hidden_11 Mm n a i) (k := fun a => some a) (V.1 5 3) (s_cells V) (by omega)
      (fun n a => by
        rw [f_X5_hidden_11.eq_2, hM.1.2.2.2.2]
        exact if_pos (Int32.le_refl _))
      (fun n i a hi => by
        rw [f_X5_hidden_11.eq_2, hM.1.2.2.2.2, if_neg (nI_ge hi (by omega)), s_X5_alone hok hM hi, nI_1]
        rfl)
  refine ⟨_, hx1, hm1.trans (congrArg some ?_)⟩
  refine kz_ind2 (P := fun _ (a b : Int32) => a = s_cells V &&& (b ^^^ (-1 : Int32))) (V.1 5 3) 0 (s_cells V) 0 ?_ ?_
  · rw [Int32.zero_xor, Int32.and_neg_one]
  · intro j a b _ _ e
    rw [e]
    apply b_ext
    intro i hi
    rw [b_and, b_and, b_and, z_not _ hi, z_not _ hi, z_not _ hi, b_or]
    cases bt (s_cells V) i <;> cases bt b i <;> rfl
theorem kv_s_who {Mx Mm : kx_M} (h : kv_Inv Mx Mm) (a : Int32) : kv_Sim (f_X4_who a Mx) (f_X5_who a Mm) := by
  obtain ⟨V, hok, hX, hM, hR⟩ := id h
  have hv := hok.2.2.2.1
  have hn := hok.1.2
  unfold f_X4_who f_X5_who
  rw [e_X0_C hX, e_X5_C hM]
  cases h1 : g_C V a with
  | false => exact kv_Sim_no h
  | true =>
    obtain ⟨c, hc, rfl⟩ := g_C_el hok h1
    rw [if_pos rfl, if_pos rfl]
    refine kv_Sim_eq (r := z_mask (fun x => bt (s_shown V x ((1 : Int32) <<< (nI x &&& 31)) (nI (V.1 5 1))) c) (V.1 5 3)) ?_ ?_ h
    · unfold z_mask
      exact kz_run0 (F := fun n i a => f_X4_who_22 n (nI c) a i Mx) (k := fun a => some (a, Mx)) (V.1 5 3) 0 (by omega)
        (fun n a => by
          rw [f_X4_who_22.eq_2, hX.1.2.2.2.2]
          exact if_pos (Int32.le_refl _))
        (fun n i a hi => by
          rw [f_X4_who_22.eq_2, hX.1.2.2.2.2, if_neg (nI_ge hi (by omega)), s_X0_alone hok hX hi, hX.1.2.1, nI_1, Option.bind_some, z_isIn _ (show c < 32 by omega)]
          dsimp only
          by_cases hb : bt (s_shown V i ((1 : Int32) <<< (nI i &&& 31)) (nI (V.1 5 1))) c = true
          · rw [if_pos hb, if_pos hb]
          · rw [if_neg hb, if_neg hb])
    · unfold z_mask
      exact kz_run0 (F := fun n i a => f_X5_who_19 n (nI c) a i Mm) (k := fun a => some (a, Mm)) (V.1 5 3) 0 (by omega)
        (fun n a => by
          rw [f_X5_who_19.eq_2, hM.1.2.2.2.2]
          exact if_pos (Int32.le_refl _))
        (fun n i a hi => by
          rw [f_X5_who_19.eq_2, hM.1.2.2.2.2, if_neg (nI_ge hi (by omega)), s_X5_alone hok hM hi, nI_1, Option.bind_some, z_has _ (show c < 32 by omega)]
          dsimp only
          by_cases hb : bt (s_shown V i ((1 : Int32) <<< (nI i &&& 31)) (nI (V.1 5 1))) c = true
          · rw [if_pos hb, if_pos hb]
          · rw [if_neg hb, if_neg hb])
theorem kv_s_ofKind {Mx Mm : kx_M} (h : kv_Inv Mx Mm) (a : Int32) : kv_Sim (f_X4_ofKind a Mx) (f_X5_ofKind a Mm) := by
  obtain ⟨V, hok, hX, hM, hR⟩ := id h
  have hv := hok.2.2.2.1
  unfold f_X4_ofKind f_X5_ofKind f_X4_isKind
  rw [kv_within]
  refine kv_Sim_if (fun _ => ?_) (fun _ => kv_Sim_no h)
  refine kv_Sim_eq (r := kz_up (fun x b => if nI (V.1 2 x) = a then b + 1 else b) (V.1 5 3) 0 0) ?_ ?_ h
  · exact kz_run0 (F := fun n i b => f_X4_ofKind_18 n a b i Mx) (k := fun b => some (b, Mx)) (V.1 5 3) 0 (by omega)
      (fun n b => by
        rw [f_X4_ofKind_18.eq_2, hX.1.2.2.2.2]
        exact if_pos (Int32.le_refl _))
      (fun n i b hi => by
        rw [f_X4_ofKind_18.eq_2, hX.1.2.2.2.2, if_neg (nI_ge hi (by omega)), z_ck (show i < 8 by omega) (by decide), nI_clamp (show i < 2 ^ 31 by omega), (x1_k hX (show i < 8 by omega)).1, nI_1]
        split <;> rfl)
  · exact kz_run0 (F := fun n i b => f_X5_ofKind_20 n a b i Mm) (k := fun b => some (b, Mm)) (V.1 5 3) 0 (by omega)
      (fun n b => by
        rw [f_X5_ofKind_20.eq_2, hM.1.2.2.2.2]
        exact if_pos (Int32.le_refl _))
      (fun n i b hi => by
        rw [f_X5_ofKind_20.eq_2, hM.1.2.2.2.2, if_neg (nI_ge hi (by omega)), z_ck (show i < 8 by omega) (by decide), nI_clamp (show i < 2 ^ 31 by omega), (hM.2.2 i (show i < 8 by omega)).1, nI_1]
        split <;> rfl)
/-- the better one so far: who, how much -/
def s_pick (f : Nat → Int32) (i : Nat) (a : Int32 × Int32) : Int32 × Int32 := if f i ≤ a.2 then a else (nI i, f i)
/-- a loop that passes over some is one that takes nothing of them -/
theorem s_pick_eq (c : Nat → Bool) (f : Nat → Int32) (hf : ∀ i, (-1 : Int32) ≤ f i) (m i : Nat) (a : Int32 × Int32) (ha : (-1 : Int32) ≤ a.2) : kz_up (fun i a => if c i = true then s_pick f i a else a) m i a = kz_up (s_pick (fun i => if c i = true then f i else (-1 : Int32))) m i a :=
  (kz_ind2 (P := fun _ (a b : Int32 × Int32) => a = b ∧ (-1 : Int32) ≤ a.2) m i a a ⟨rfl, ha⟩ (fun j a b _ _ h => by
    obtain ⟨rfl, h2⟩ := h
    unfold s_pick
    dsimp only
    by_cases hc : c j = true
    · simp only [if_pos hc]
      refine ⟨trivial, ?_⟩
      split
      · exact h2
      · exact hf j
    · simp only [if_neg hc, if_pos h2]
      exact ⟨trivial, h2⟩)).1
theorem z_bc0 (x : Int32) : (-1 : Int32) ≤ f_J6_bitCount_0f7a4 x := by
  obtain ⟨m, hm, e⟩ := z_bcR x
  rw [e]
  exact Int32.le_trans (show (-1 : Int32) ≤ 0 by decide) (nI_pos' (by omega))
theorem kv_s_couple {Mx Mm : kx_M} (h : kv_Inv Mx Mm) : kv_SimR (f_X4_couple Mx) (f_X5_couple Mm) := by
  obtain ⟨V, hok, hX, hM, hR⟩ := id h
  have hv := hok.2.2.2.1
  have inn : ∃ inn : Nat → Nat → Int32 × Int32 → Int32 × Int32, inn = fun i j a => if f_J6_bitCount_0f7a4 (V.2.1 i ||| V.2.1 j) ≤ a.2 then a else (((10 : Int32) * nI i) + nI j, f_J6_bitCount_0f7a4 (V.2.1 i ||| V.2.1 j)) := ⟨_, rfl⟩
  obtain ⟨inn, hinn⟩ := inn
  refine ⟨(kz_up (fun i a => kz_up (inn i) (V.1 5 3 - (i + 1)) (i + 1) a) (V.1 5 3) 0 ((-1 : Int32), (-1 : Int32))).1, ?_, ?_⟩
  · unfold f_X4_couple
    exact kz_run0 (F := fun n i a => f_X4_couple_6 Mx n a.1 a.2 i) (k := fun a => some a.1) (V.1 5 3) ((-1 : Int32), (-1 : Int32)) (by omega)
      (fun n a => by
        rw [f_X4_couple_6.eq_2, hX.1.2.2.2.2]
        exact if_pos (Int32.le_refl _))
      (fun n i a hi => by
        rw [f_X4_couple_6.eq_2, hX.1.2.2.2.2, if_neg (nI_ge hi (by omega)), nI_1]
        have := kz_run (F := fun m j a => f_X4_couple_22 Mx (f_X4_couple_6 Mx n) m a.1 a.2 (nI i) j) (st := inn i) (k := fun a => f_X4_couple_6 Mx n a.1 a.2 (nI (i + 1))) (i0 := i + 1) (V.1 5 3) a (by omega) (by omega)
          (fun m a => by
            rw [f_X4_couple_22.eq_2, hX.1.2.2.2.2, if_pos (Int32.le_refl _), nI_1])
          (fun m j a h1 h2 => by
            rw [f_X4_couple_22.eq_2, hX.1.2.2.2.2, if_neg (nI_ge h2 (by omega)), z_ck (show i < 8 by omega) (by decide), z_ck (show j < 8 by omega) (by decide), nI_clamp (show i < 2 ^ 31 by omega), nI_clamp (show j < 2 ^ 31 by omega), (x1_k hX (show i < 8 by omega)).2.2.2, (x1_k hX (show j < 8 by omega)).2.2.2, nI_1, hinn]
            dsimp only
            split <;> rfl)
        exact this)
  · unfold f_X5_couple
    exact kz_run0 (F := fun n i a => f_X5_couple_6 Mm n a.1 a.2 i) (k := fun a => some a.1) (V.1 5 3) ((-1 : Int32), (-1 : Int32)) (by omega)
      (fun n a => by
        rw [f_X5_couple_6.eq_2, hM.1.2.2.2.2]
        exact if_pos (Int32.le_refl _))
      (fun n i a hi => by
        rw [f_X5_couple_6.eq_2, hM.1.2.2.2.2, if_neg (nI_ge hi (by omega)), nI_1]
        have := kz_run (F := fun m j a => f_X5_couple_19 Mm (f_X5_couple_6 Mm n) m a.1 a.2 (nI i) j) (st := inn i) (k := fun a => f_X5_couple_6 Mm n a.1 a.2 (nI (i + 1))) (i0 := i + 1) (V.1 5 3) a (by omega) (by omega)
          (fun m a => by
            rw [f_X5_couple_19.eq_2, hM.1.2.2.2.2, if_pos (Int32.le_refl _), nI_1])
          (fun m j a h1 h2 => by
            rw [f_X5_couple_19.eq_2, hM.1.2.2.2.2, if_neg (nI_ge h2 (by omega)), z_ck (show i < 8 by omega) (by decide), z_ck (show j < 8 by omega) (by decide), nI_clamp (show i < 2 ^ 31 by omega), nI_clamp (show j < 2 ^ 31 by omega), (hM.2.2 i (show i < 8 by omega)).2.2.2, (hM.2.2 j (show j < 8 by omega)).2.2.2, nI_1, hinn, z_flip]
            dsimp only
            split <;> rfl)
        exact this)
theorem kv_s_send {Mx Mm : kx_M} (h : kv_Inv Mx Mm) (a : Int32) : kv_Sim (f_X4_send a Mx) (f_X5_send a Mm) := by
  obtain ⟨V, hok, hX, hM, hR⟩ := id h
  have hv := hok.2.2.2.1
  have hp := s_pv hok
  unfold f_X4_send f_X5_send
  rw [kv_within]
  refine kv_Sim_if (fun _ => ?_) (fun _ => kv_Sim_no h)
  have st : ∃ st : Nat → Int32 × Int32 → Int32 × Int32, st = fun g b => if f_J6_bitCount_0f7a4 (nI g) = a then s_pick (fun g => f_J6_bitCount_0f7a4 (s_new V (nI g))) g b else b := ⟨_, rfl⟩
  obtain ⟨st, hst⟩ := st
  refine kv_Sim_eq (r := (kz_up st (2 ^ V.1 5 3) 0 ((-1 : Int32), (-1 : Int32))).1) ?_ ?_ h
  · exact kz_run0 (F := fun n i b => f_X4_send_24 n a b.1 b.2 i Mx) (k := fun b => some (b.1, Mx)) (2 ^ V.1 5 3) ((-1 : Int32), (-1 : Int32)) (by omega)
      (fun n b => by
        rw [f_X4_send_24.eq_2, s_X0_all hX, s_all_n hok]
        exact if_pos (nI_lt (by omega) (by omega)))
      (fun n i b hi => by
        rw [f_X4_send_24.eq_2, s_X0_all hX, s_all_n hok, if_neg (nI_nlt (by omega) (by omega)), s_X0_new hok hX, nI_1, hst]
        unfold s_pick
        dsimp only [Option.bind_some]
        split
        · split <;> rfl
        · rfl)
  · exact kz_run0 (F := fun n i b => f_X5_send_24 n a b.1 b.2 i Mm) (k := fun b => some (b.1, Mm)) (2 ^ V.1 5 3) ((-1 : Int32), (-1 : Int32)) (by omega)
      (fun n b => by
        rw [f_X5_send_24.eq_2, hM.1.2.2.2.2, z_pw _ (by omega)]
        exact if_pos (Int32.le_refl _))
      (fun n i b hi => by
        rw [f_X5_send_24.eq_2, hM.1.2.2.2.2, z_pw _ (by omega), if_neg (nI_ge hi (by omega)), s_X5_new hok hM, nI_1, hst]
        unfold s_pick
        dsimp only [Option.bind_some]
        rw [z_flip]
        split
        · split <;> rfl
        · rfl)
