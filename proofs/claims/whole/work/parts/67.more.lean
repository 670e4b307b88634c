/-! more calls that look at one thing after another -/
theorem z_bc9 : ∀ g, g < 256 → ¬ (9 : Int32) ≤ f_J6_bitCount_0f7a4 (nI g) := by decide +kernel
theorem kv_s_fewest {Mx Mm : kx_M} (h : kv_Inv Mx Mm) (a : Int32) : kv_Sim (f_X4_fewest a Mx) (f_X5_fewest a Mm) := by
  obtain ⟨V, hok, hX, hM, hR⟩ := id h
  have hv := hok.2.2.2.1
  have hp := s_pv hok
  unfold f_X4_fewest f_X5_fewest
  rw [e_X0_B hX, e_X5_B hM]
  cases hb : g_B V a with
  | false => exact kv_Sim_no h
  | true =>
    rw [if_pos rfl, if_pos rfl]
    have st : ∃ st : Nat → Int32 × Int32 → Int32 × Int32, st = fun g b => if b.2 ≤ f_J6_bitCount_0f7a4 (nI g) then b else if (a &&& (s_any V (nI g) (nI (V.1 5 1)) ^^^ (-1 : Int32))) = 0 then (nI g, f_J6_bitCount_0f7a4 (nI g)) else b := ⟨_, rfl⟩
    obtain ⟨st, hst⟩ := st
    have st2 : ∃ st2 : Nat → Int32 → Int32, st2 = fun g b => if (a &&& (s_any V (nI g) (nI (V.1 5 1)) ^^^ (-1 : Int32))) = 0 then (if b = (-1 : Int32) then nI g else if f_J6_bitCount_0f7a4 b ≤ f_J6_bitCount_0f7a4 (nI g) then b else nI g) else b := ⟨_, rfl⟩
    obtain ⟨st2, hst2⟩ := st2
    have e : (kz_up st (2 ^ V.1 5 3) 0 ((-1 : Int32), (9 : Int32))).1 = kz_up st2 (2 ^ V.1 5 3) 0 (-1 : Int32) := by
      have := kz_ind2 (P := fun i (b : Int32 × Int32) (c : Int32) => b.1 = c ∧ ((b = ((-1 : Int32), (9 : Int32))) ∨ ∃ j, j < 256 ∧ b = (nI j, f_J6_bitCount_0f7a4 (nI j)))) (st := st) (st2 := st2) (2 ^ V.1 5 3) 0 ((-1 : Int32), (9 : Int32)) (-1 : Int32) ⟨rfl, Or.inl rfl⟩ (fun i b c _ hi hP => by
        obtain ⟨rfl, hP⟩ := hP
        rw [hst, hst2]
        dsimp only
        rcases hP with rfl | ⟨j, hj, rfl⟩
        · dsimp only
          rw [if_neg (z_bc9 i (by omega)), if_pos rfl]
          split
          · exact ⟨rfl, Or.inr ⟨i, by omega, rfl⟩⟩
          · exact ⟨rfl, Or.inl rfl⟩
        · dsimp only
          rw [if_neg (show ¬ nI j = (-1 : Int32) from fun q => (show ¬ (0 : Int32) ≤ -1 by decide) (q ▸ nI_pos' (by omega)))]
          by_cases q : f_J6_bitCount_0f7a4 (nI j) ≤ f_J6_bitCount_0f7a4 (nI i)
          · rw [if_pos q, if_pos q]
            split <;> exact ⟨rfl, Or.inr ⟨j, hj, rfl⟩⟩
          · rw [if_neg q, if_neg q]
            split
            · exact ⟨rfl, Or.inr ⟨i, by omega, rfl⟩⟩
            · exact ⟨rfl, Or.inr ⟨j, hj, rfl⟩⟩)
      exact this.1
    refine kv_Sim_eq (r := (kz_up st (2 ^ V.1 5 3) 0 ((-1 : Int32), (9 : Int32))).1) ?_ ?_ h
    · exact kz_run0 (F := fun n i b => f_X4_fewest_26 n a b.1 b.2 i Mx) (k := fun b => some (b.1, Mx)) (2 ^ V.1 5 3) ((-1 : Int32), (9 : Int32)) (by omega)
        (fun n b => by
          rw [f_X4_fewest_26.eq_2, s_X0_all hX, s_all_n hok]
          exact if_pos (nI_lt (by omega) (by omega)))
        (fun n i b hi => by
          rw [f_X4_fewest_26.eq_2, s_X0_all hX, s_all_n hok, if_neg (nI_nlt (by omega) (by omega)), s_X0_any hok hX, hX.1.2.1, nI_1, hst]
          dsimp only [Option.bind_some]
          split
          · rfl
          · split <;> rfl)
    · rw [e]
      exact kz_run0 (F := fun n i b => f_X5_fewest_19 n a b i Mm) (k := fun b => some (b, Mm)) (2 ^ V.1 5 3) (-1 : Int32) (by omega)
        (fun n b => by
          rw [f_X5_fewest_19.eq_2, hM.1.2.2.2.2, z_pw _ (by omega)]
          exact if_pos (Int32.le_refl _))
        (fun n i b hi => by
          rw [f_X5_fewest_19.eq_2, hM.1.2.2.2.2, z_pw _ (by omega), if_neg (nI_ge hi (by omega)), s_X5_any hok hM, nI_1, hst2]
          dsimp only [Option.bind_some]
          split
          · split
            · rfl
            · split <;> rfl
          · rfl)
theorem bt_or_l {x y : Nat} (hx : x < 32) (hy : y < 32) : bt (((1 : Int32) <<< (nI x &&& 31)) ||| ((1 : Int32) <<< (nI y &&& 31))) x = true := by
  rw [b_or, bt_one hx hx, decide_eq_true rfl, Bool.true_or]
theorem kv_s_mate {Mx Mm : kx_M} (h : kv_Inv Mx Mm) (a : Int32) : kv_Sim (f_X4_mate a Mx) (f_X5_mate a Mm) := by
  obtain ⟨V, hok, hX, hM, hR⟩ := id h
  have hv := hok.2.2.2.1
  unfold f_X4_mate f_X5_mate
  rw [e_X0_V hX, e_X5_V hM]
  cases hb : g_V V a with
  | false => exact kv_Sim_no h
  | true =>
    rw [if_pos rfl, if_pos rfl]
    obtain ⟨x, hx, rfl⟩ := g_V_el hok hb
    have ff : ∃ f : Nat → Int32, f = fun y => f_J6_bitCount_0f7a4 (s_shown V x (((1 : Int32) <<< (nI x &&& 31)) ||| ((1 : Int32) <<< (nI y &&& 31))) (nI (V.1 5 1))) := ⟨_, rfl⟩
    obtain ⟨f, hf⟩ := ff
    have e := s_pick_eq (fun y => !decide (y = x)) f (fun i => by rw [hf]; exact z_bc0 _) (V.1 5 3) 0 ((-1 : Int32), (-1 : Int32)) (by decide)
    refine kv_Sim_eq (r := (kz_up (fun y a => if (!decide (y = x)) = true then s_pick f y a else a) (V.1 5 3) 0 ((-1 : Int32), (-1 : Int32))).1) ?_ ?_ h
    · exact kz_run0 (F := fun n i b => f_X4_mate_25 n (nI x) b.1 b.2 i Mx) (k := fun b => some (b.1, Mx)) (V.1 5 3) ((-1 : Int32), (-1 : Int32)) (by omega)
        (fun n b => by
          rw [f_X4_mate_25.eq_2, hX.1.2.2.2.2]
          exact if_pos (Int32.le_refl _))
        (fun n i b hi => by
          rw [f_X4_mate_25.eq_2, hX.1.2.2.2.2, if_neg (nI_ge hi (by omega)), nI_1]
          by_cases q : i = x
          · rw [if_pos (congrArg nI q), decide_eq_true q]
            rfl
          · rw [if_neg (fun z => q ((nI_eq (by omega) (by omega)).mp z)), decide_eq_false q, s_X0_shown hok hX hx _ _ (bt_or_l (by omega) (by omega)), hX.1.2.1, Option.bind_some, hf]
            unfold s_pick
            dsimp only
            rw [if_pos (show (!false) = true by decide)]
            split <;> rfl)
    · rw [e]
      exact kz_run0 (F := fun n i b => f_X5_mate_22 n (nI x) b.1 b.2 i Mm) (k := fun b => some (b.1, Mm)) (V.1 5 3) ((-1 : Int32), (-1 : Int32)) (by omega)
        (fun n b => by
          rw [f_X5_mate_22.eq_2, hM.1.2.2.2.2]
          exact if_pos (Int32.le_refl _))
        (fun n i b hi => by
          rw [f_X5_mate_22.eq_2, hM.1.2.2.2.2, if_neg (nI_ge hi (by omega))]
          unfold f_X5_mate_57 s_pick
          rw [nI_1]
          by_cases q : i = x
          · rw [if_pos (congrArg nI q), z_flip]
            simp only [if_neg (show ¬ (!decide (i = x)) = true by rw [decide_eq_true q]; decide)]
            split <;> rfl
          · rw [if_neg (fun z => q ((nI_eq (by omega) (by omega)).mp z)), s_X5_shown hok hM hx _, Option.bind_some, hf, z_flip]
            simp only [if_pos (show (!decide (i = x)) = true by rw [decide_eq_false q]; decide)]
            split <;> rfl)
theorem kv_s_company {Mx Mm : kx_M} (h : kv_Inv Mx Mm) (a : Int32) : kv_Sim (f_X4_company a Mx) (f_X5_company a Mm) := by
  obtain ⟨V, hok, hX, hM, hR⟩ := id h
  have hv := hok.2.2.2.1
  have hp := s_pv hok
  unfold f_X4_company f_X5_company
  rw [e_X0_V hX, e_X5_V hM]
  cases hb : g_V V a with
  | false => exact kv_Sim_no h
  | true =>
    rw [if_pos rfl, if_pos rfl]
    obtain ⟨x, hx, rfl⟩ := g_V_el hok hb
    have ff : ∃ f : Nat → Int32, f = fun g => f_J6_bitCount_0f7a4 (s_shown V x (nI g) (nI (V.1 5 1))) := ⟨_, rfl⟩
    obtain ⟨f, hf⟩ := ff
    have e := s_pick_eq (fun g => bt (nI g) x) f (fun i => by rw [hf]; exact z_bc0 _) (2 ^ V.1 5 3) 0 ((-1 : Int32), (-1 : Int32)) (by decide)
    have e0 : kz_up (fun g a => if bt (nI g) x = true then s_pick f g a else a) (2 ^ V.1 5 3) 0 ((-1 : Int32), (-1 : Int32)) = kz_up (fun g a => if bt (nI g) x = true then s_pick f g a else a) (2 ^ V.1 5 3 - 1) 1 ((-1 : Int32), (-1 : Int32)) := by
      have q : 2 ^ V.1 5 3 = (2 ^ V.1 5 3 - 1) + 1 := by omega
      rw [q]
      show kz_up _ (2 ^ V.1 5 3 - 1) 1 (if bt (nI 0) x = true then _ else _) = _
      rw [nI_0, b_0, if_neg (by decide), Nat.add_sub_cancel]
    refine kv_Sim_eq (r := (kz_up (fun g a => if bt (nI g) x = true then s_pick f g a else a) (2 ^ V.1 5 3 - 1) 1 ((-1 : Int32), (-1 : Int32))).1) ?_ ?_ h
    · exact kz_run (i0 := 1) (F := fun n i b => f_X4_company_25 n (nI x) b.1 b.2 i Mx) (k := fun b => some (b.1, Mx)) (2 ^ V.1 5 3) ((-1 : Int32), (-1 : Int32)) (by omega) (by omega)
        (fun n b => by
          rw [f_X4_company_25.eq_2, s_X0_all hX, s_all_n hok]
          exact if_pos (nI_lt (by omega) (by omega)))
        (fun n i b h1 hi => by
          rw [f_X4_company_25.eq_2, s_X0_all hX, s_all_n hok, if_neg (nI_nlt (by omega) (by omega)), nI_1, z_isIn _ (show x < 32 by omega)]
          cases hg : bt (nI i) x with
          | false => rfl
          | true =>
            rw [s_X0_shown hok hX hx _ _ hg, hX.1.2.1, Option.bind_some, if_pos rfl, hf]
            unfold s_pick
            dsimp only
            rw [if_pos rfl]
            split <;> rfl)
    · rw [← e0, e]
      exact kz_run0 (F := fun n i b => f_X5_company_22 n (nI x) b.1 b.2 i Mm) (k := fun b => some (b.1, Mm)) (2 ^ V.1 5 3) ((-1 : Int32), (-1 : Int32)) (by omega)
        (fun n b => by
          rw [f_X5_company_22.eq_2, hM.1.2.2.2.2, z_pw _ (by omega)]
          exact if_pos (Int32.le_refl _))
        (fun n i b hi => by
          rw [f_X5_company_22.eq_2, hM.1.2.2.2.2, z_pw _ (by omega), if_neg (nI_ge hi (by omega)), z_has _ (show x < 32 by omega)]
          unfold f_X5_company_56 s_pick
          rw [nI_1]
          cases hg : bt (nI i) x with
          | false =>
            rw [if_neg (by decide), z_flip]
            simp only [hg, Bool.false_eq_true, if_false]
            split <;> rfl
          | true =>
            rw [if_pos rfl, s_X5_shown hok hM hx _, Option.bind_some, z_flip, hf]
            simp only [hg, if_true]
            split <;> rfl)
theorem kv_s_spoiler {Mx Mm : kx_M} (h : kv_Inv Mx Mm) (a : Int32) : kv_Sim (f_X4_spoiler a Mx) (f_X5_spoiler a Mm) := by
  obtain ⟨V, hok, hX, hM, hR⟩ := id h
  have hv := hok.2.2.2.1
  unfold f_X4_spoiler f_X5_spoiler
  rw [e_X0_G hX, e_X5_G hM]
  cases hb : g_G V a with
  | false => exact kv_Sim_no h
  | true =>
    rw [if_pos rfl, if_pos rfl]
    have ff : ∃ f : Nat → Int32, f = fun x => f_J6_bitCount_0f7a4 (s_any V (a &&& (((1 : Int32) <<< (nI x &&& 31)) ^^^ (-1 : Int32))) (nI (V.1 5 1))) := ⟨_, rfl⟩
    obtain ⟨f, hf⟩ := ff
    have e := s_pick_eq (fun x => bt a x) f (fun i => by rw [hf]; exact z_bc0 _) (V.1 5 3) 0 ((-1 : Int32), (-1 : Int32)) (by decide)
    refine kv_Sim_eq (r := (kz_up (fun x b => if bt a x = true then s_pick f x b else b) (V.1 5 3) 0 ((-1 : Int32), (-1 : Int32))).1) ?_ ?_ h
    · exact kz_run0 (F := fun n i b => f_X4_spoiler_25 n a b.1 b.2 i Mx) (k := fun b => some (b.1, Mx)) (V.1 5 3) ((-1 : Int32), (-1 : Int32)) (by omega)
        (fun n b => by
          rw [f_X4_spoiler_25.eq_2, hX.1.2.2.2.2]
          exact if_pos (Int32.le_refl _))
        (fun n i b hi => by
          rw [f_X4_spoiler_25.eq_2, hX.1.2.2.2.2, if_neg (nI_ge hi (by omega)), nI_1, z_isIn a (show i < 32 by omega)]
          cases hg : bt a i with
          | false => rfl
          | true =>
            rw [s_X0_any hok hX, hX.1.2.1, Option.bind_some, if_pos rfl, hf]
            unfold s_pick
            dsimp only
            rw [if_pos rfl]
            split <;> rfl)
    · rw [e]
      exact kz_run0 (F := fun n i b => f_X5_spoiler_22 n a b.1 b.2 i Mm) (k := fun b => some (b.1, Mm)) (V.1 5 3) ((-1 : Int32), (-1 : Int32)) (by omega)
        (fun n b => by
          rw [f_X5_spoiler_22.eq_2, hM.1.2.2.2.2]
          exact if_pos (Int32.le_refl _))
        (fun n i b hi => by
          rw [f_X5_spoiler_22.eq_2, hM.1.2.2.2.2, if_neg (nI_ge hi (by omega)), z_has a (show i < 32 by omega)]
          unfold f_X5_spoiler_59 s_pick
          rw [nI_1]
          cases hg : bt a i with
          | false =>
            rw [if_neg (by decide), z_flip]
            simp only [hg, Bool.false_eq_true, if_false]
            split <;> rfl
          | true =>
            rw [if_pos rfl, s_X5_any hok hM, Option.bind_some, z_flip, hf]
            simp only [hg, if_true]
            split <;> rfl)
