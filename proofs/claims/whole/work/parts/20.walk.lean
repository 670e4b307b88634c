set_option maxRecDepth 100000 in
set_option maxHeartbeats 4000000 in
theorem t_X0_takeFrom {E : kx_E} {d : Nat} {M' : kx_M} (o : Nat) (ho : kx_land E o) (o2 : Nat) (ho2 : kx_land E o2) (M : kx_M) (h : f_X0_takeFrom o o2 M = some M') : kx_Rn E T_X0_takeFrom (d + 1) (0, [some (.ref o), some (.ref o2)], [], M) none M' := by
  unfold f_X0_takeFrom at h
  refine kx_go (pc' := 1) (L' := [some (.ref o), some (.ref o2)]) (st' := [.ref o2]) 1 rfl ?_
  refine kx_q_getR (k := 0) (j := (o2 + 1)) ho2.1 rfl kfl_X0_9 rfl ?_
  refine kx_go (pc' := 6) (L' := [some (.ref o), some (.ref o2)]) (st' := [.ref o, .int (0 : Int32), .ref (o2 + 1)]) 2 rfl ?_
  refine kx_q_getR (k := 0) (j := (o + 1)) ho.1 rfl kfl_X0_9 rfl ?_
  refine kx_go (pc' := 12) (L' := [some (.ref o), some (.ref o2)]) (st' := [.int (24 : Int32), .int (0 : Int32), .ref (o + 1), .int (0 : Int32), .ref (o2 + 1)]) 2 rfl ?_
  obtain ⟨hi1, h⟩ := kx_cg_some h
  refine kx_q_cpyI (ho2.2.1) (ho.2.1) rfl kml_X0_50 kna_copy kst_copy kini_sys hi1 (Nat.le_of_ble_eq_true rfl) ?_
  obtain ⟨M2, hM2, h⟩ := kx_lt_ex h
  rw [← hM2]
  refine kx_go (pc' := 16) (L' := [some (.ref o), some (.ref o2)]) (st' := [.ref o2]) 1 rfl ?_
  refine kx_q_getR (k := 1) (j := (o2 + 2)) ho2.1 rfl kfl_X0_15 rfl ?_
  refine kx_go (pc' := 21) (L' := [some (.ref o), some (.ref o2)]) (st' := [.ref o, .int (0 : Int32), .ref (o2 + 2)]) 2 rfl ?_
  refine kx_q_getR (k := 1) (j := (o + 2)) ho.1 rfl kfl_X0_15 rfl ?_
  refine kx_go (pc' := 27) (L' := [some (.ref o), some (.ref o2)]) (st' := [.int (24 : Int32), .int (0 : Int32), .ref (o + 2), .int (0 : Int32), .ref (o2 + 2)]) 2 rfl ?_
  obtain ⟨hi3, h⟩ := kx_cg_some h
  refine kx_q_cpyI (ho2.2.2.1) (ho.2.2.1) rfl kml_X0_50 kna_copy kst_copy kini_sys hi3 (Nat.le_of_ble_eq_true rfl) ?_
  obtain ⟨M4, hM4, h⟩ := kx_lt_ex h
  rw [← hM4]
  refine kx_go (pc' := 31) (L' := [some (.ref o), some (.ref o2)]) (st' := [.ref o2]) 1 rfl ?_
  refine kx_q_getR (k := 2) (j := (o2 + 3)) ho2.1 rfl kfl_X0_24 rfl ?_
  refine kx_go (pc' := 36) (L' := [some (.ref o), some (.ref o2)]) (st' := [.ref o, .int (0 : Int32), .ref (o2 + 3)]) 2 rfl ?_
  refine kx_q_getR (k := 2) (j := (o + 3)) ho.1 rfl kfl_X0_24 rfl ?_
  refine kx_go (pc' := 42) (L' := [some (.ref o), some (.ref o2)]) (st' := [.int (21 : Int32), .int (0 : Int32), .ref (o + 3), .int (0 : Int32), .ref (o2 + 3)]) 2 rfl ?_
  obtain ⟨hi5, h⟩ := kx_cg_some h
  refine kx_q_cpyI (ho2.2.2.2.1) (ho.2.2.2.1) rfl kml_X0_50 kna_copy kst_copy kini_sys hi5 (Nat.le_of_ble_eq_true rfl) ?_
  obtain ⟨M6, hM6, h⟩ := kx_lt_ex h
  rw [← hM6]
  refine kx_go (pc' := 46) (L' := [some (.ref o), some (.ref o2)]) (st' := [.ref o2]) 1 rfl ?_
  refine kx_q_getR (k := 3) (j := (o2 + 4)) ho2.1 rfl kfl_X0_27 rfl ?_
  refine kx_go (pc' := 51) (L' := [some (.ref o), some (.ref o2)]) (st' := [.ref o, .int (0 : Int32), .ref (o2 + 4)]) 2 rfl ?_
  refine kx_q_getR (k := 3) (j := (o + 4)) ho.1 rfl kfl_X0_27 rfl ?_
  refine kx_go (pc' := 57) (L' := [some (.ref o), some (.ref o2)]) (st' := [.int (8 : Int32), .int (0 : Int32), .ref (o + 4), .int (0 : Int32), .ref (o2 + 4)]) 2 rfl ?_
  obtain ⟨hi7, h⟩ := kx_cg_some h
  refine kx_q_cpyI (ho2.2.2.2.2.1) (ho.2.2.2.2.1) rfl kml_X0_50 kna_copy kst_copy kini_sys hi7 (Nat.le_of_ble_eq_true rfl) ?_
  obtain ⟨M8, hM8, h⟩ := kx_lt_ex h
  rw [← hM8]
  refine kx_go (pc' := 61) (L' := [some (.ref o), some (.ref o2)]) (st' := [.ref o2]) 1 rfl ?_
  refine kx_q_getR (k := 4) (j := (o2 + 5)) ho2.1 rfl kfl_X0_30 rfl ?_
  refine kx_go (pc' := 66) (L' := [some (.ref o), some (.ref o2)]) (st' := [.ref o, .int (0 : Int32), .ref (o2 + 5)]) 2 rfl ?_
  refine kx_q_getR (k := 4) (j := (o + 5)) ho.1 rfl kfl_X0_30 rfl ?_
  refine kx_go (pc' := 72) (L' := [some (.ref o), some (.ref o2)]) (st' := [.int (8 : Int32), .int (0 : Int32), .ref (o + 5), .int (0 : Int32), .ref (o2 + 5)]) 2 rfl ?_
  obtain ⟨hi9, h⟩ := kx_cg_some h
  refine kx_q_cpyI (ho2.2.2.2.2.2.1) (ho.2.2.2.2.2.1) rfl kml_X0_50 kna_copy kst_copy kini_sys hi9 (Nat.le_of_ble_eq_true rfl) ?_
  obtain ⟨M10, hM10, h⟩ := kx_lt_ex h
  rw [← hM10]
  refine kx_go (pc' := 76) (L' := [some (.ref o), some (.ref o2)]) (st' := [.ref o2]) 1 rfl ?_
  refine kx_q_getR (k := 5) (j := (o2 + 6)) ho2.1 rfl kfl_X0_33 rfl ?_
  refine kx_go (pc' := 81) (L' := [some (.ref o), some (.ref o2)]) (st' := [.ref o, .int (0 : Int32), .ref (o2 + 6)]) 2 rfl ?_
  refine kx_q_getR (k := 5) (j := (o + 6)) ho.1 rfl kfl_X0_33 rfl ?_
  refine kx_go (pc' := 87) (L' := [some (.ref o), some (.ref o2)]) (st' := [.int (8 : Int32), .int (0 : Int32), .ref (o + 6), .int (0 : Int32), .ref (o2 + 6)]) 2 rfl ?_
  obtain ⟨hi11, h⟩ := kx_cg_some h
  refine kx_q_cpyI (ho2.2.2.2.2.2.2.1) (ho.2.2.2.2.2.2.1) rfl kml_X0_50 kna_copy kst_copy kini_sys hi11 (Nat.le_of_ble_eq_true rfl) ?_
  obtain ⟨M12, hM12, h⟩ := kx_lt_ex h
  rw [← hM12]
  refine kx_go (pc' := 91) (L' := [some (.ref o), some (.ref o2)]) (st' := [.ref o2]) 1 rfl ?_
  refine kx_q_getR (k := 6) (j := (o2 + 7)) ho2.1 rfl kfl_X0_36 rfl ?_
  refine kx_go (pc' := 96) (L' := [some (.ref o), some (.ref o2)]) (st' := [.ref o, .int (0 : Int32), .ref (o2 + 7)]) 2 rfl ?_
  refine kx_q_getR (k := 6) (j := (o + 7)) ho.1 rfl kfl_X0_36 rfl ?_
  refine kx_go (pc' := 102) (L' := [some (.ref o), some (.ref o2)]) (st' := [.int (8 : Int32), .int (0 : Int32), .ref (o + 7), .int (0 : Int32), .ref (o2 + 7)]) 2 rfl ?_
  obtain ⟨hi13, h⟩ := kx_cg_some h
  refine kx_q_cpyI (ho2.2.2.2.2.2.2.2) (ho.2.2.2.2.2.2.2) rfl kml_X0_50 kna_copy kst_copy kini_sys hi13 (Nat.le_of_ble_eq_true rfl) ?_
  obtain ⟨M14, hM14, h⟩ := kx_lt_ex h
  rw [← hM14]
  refine kx_go (pc' := 107) (L' := [some (.ref o), some (.ref o2)]) (st' := [.ref o2, .ref o]) 2 rfl ?_
  refine kx_q_getI (k := 7) ho2.1 rfl kfl_X0_56 rfl ?_
  refine kx_q_putI (k := 7) ho.1 rfl kfw_X0_56 rfl ?_
  refine kx_go (pc' := 115) (L' := [some (.ref o), some (.ref o2)]) (st' := [.ref o2, .ref o]) 2 rfl ?_
  refine kx_q_getI (k := 8) ho2.1 rfl kfl_X0_39 rfl ?_
  refine kx_q_putI (k := 8) ho.1 rfl kfw_X0_39 rfl ?_
  refine kx_go (pc' := 123) (L' := [some (.ref o), some (.ref o2)]) (st' := [.ref o2, .ref o]) 2 rfl ?_
  refine kx_q_getI (k := 9) ho2.1 rfl kfl_X0_59 rfl ?_
  refine kx_q_putI (k := 9) ho.1 rfl kfw_X0_59 rfl ?_
  obtain ⟨M15, hM15, h⟩ := kx_lt_ex h
  rw [← hM15]
  refine kx_go (pc' := 131) (L' := [some (.ref o), some (.ref o2)]) (st' := [.ref o2, .ref o]) 2 rfl ?_
  refine kx_q_getI (k := 10) ho2.1 rfl kfl_X0_43 rfl ?_
  refine kx_q_putI (k := 10) ho.1 rfl kfw_X0_43 rfl ?_
  refine kx_go (pc' := 139) (L' := [some (.ref o), some (.ref o2)]) (st' := [.ref o2, .ref o]) 2 rfl ?_
  refine kx_q_getI (k := 11) ho2.1 rfl kfl_X0_62 rfl ?_
  refine kx_q_putI (k := 11) ho.1 rfl kfw_X0_62 rfl ?_
  refine kx_go (pc' := 147) (L' := [some (.ref o), some (.ref o2)]) (st' := [.ref o2, .ref o]) 2 rfl ?_
  refine kx_q_getI (k := 12) ho2.1 rfl kfl_X0_65 rfl ?_
  refine kx_q_putI (k := 12) ho.1 rfl kfw_X0_65 rfl ?_
  obtain ⟨M16, hM16, h⟩ := kx_lt_ex h
  rw [← hM16]
  refine kx_go (pc' := 155) (L' := [some (.ref o), some (.ref o2)]) (st' := [.ref o2, .ref o]) 2 rfl ?_
  refine kx_q_getI (k := 13) ho2.1 rfl kfl_X0_68 rfl ?_
  refine kx_q_putI (k := 13) ho.1 rfl kfw_X0_68 rfl ?_
  cases h
  exact kx_r_vret rfl rfl
theorem c_X0_takeFrom {E : kx_E} {d : Nat} (o : Nat) (ho : kx_land E o) (o2 : Nat) (ho2 : kx_land E o2) (M : kx_M) (M' : kx_M) (h : f_X0_takeFrom o o2 M = some M') : kx_Call E (d + 1) T_X0_takeFrom [.ref o, .ref o2] M none M' := kx_entry kok_X0_takeFrom (Nat.le_of_ble_eq_true rfl) rfl (t_X0_takeFrom (d := d) o ho o2 ho2 M h)
set_option maxRecDepth 100000 in
set_option maxHeartbeats 4000000 in
theorem t_J7_fill_53178_5 {E : kx_E} {d : Nat} {M' : kx_M} (wn : Nat) (w : Nat) (hw : kx_ar E w 0 wn) : ∀ (n : Nat) (x1 : Int32) (x2 : Int32) (x3 : Int32) (M : kx_M), f_J7_fill_53178_5 wn w n x1 x2 x3 M = some M' → kx_Rn E T_J7_fill_53178 (d + 0) (5, [some (.ref w), some (.int x1), some (.int x2), some (.int x3)], [], M) none M' := by
  intro n
  induction n with
  | zero =>
    intro x1 x2 x3 M h
    cases (show (none : Option kx_M) = some _ from h)
  | succ n ih =>
    intro x1 x2 x3 M h
    rw [f_J7_fill_53178_5.eq_2] at h
    refine kx_go (pc' := 7) (L' := [some (.ref w), some (.int x1), some (.int x2), some (.int x3)]) (st' := [.int x3, .int x2]) 2 rfl ?_
    refine kx_r_icmp_ge rfl (fun hc1 => ?_) (fun hc1 => ?_)
    · rw [if_pos hc1] at h
      cases h
      exact kx_r_vret rfl rfl
    · rw [if_neg hc1] at h
      refine kx_go (pc' := 13) (L' := [some (.ref w), some (.int x1), some (.int x2), some (.int x3)]) (st' := [.int x1, .int x2, .ref w]) 3 rfl ?_
      obtain ⟨hi2, h⟩ := kx_ck_some h
      refine kx_q_iast (hw) rfl hi2 ?_
      refine kx_go (pc' := 17) (L' := [some (.ref w), some (.int x1), some (.int (x2 + (1))), some (.int x3)]) (st' := []) 1 rfl ?_
      refine kx_r_goto rfl ?_
      refine kx_wk [true, true, true, true] ?_
      exact ih x1 (x2 + (1)) x3 (kx_u1 M w (x2).toNatClampNeg x1) h
set_option maxRecDepth 100000 in
set_option maxHeartbeats 4000000 in
theorem t_J7_fill_53178 {E : kx_E} {d : Nat} {M' : kx_M} (wn : Nat) (w : Nat) (hw : kx_ar E w 0 wn) (a1 : Int32) (M : kx_M) (h : f_J7_fill_53178 wn w a1 M = some M') : kx_Rn E T_J7_fill_53178 (d + 0) (0, [some (.ref w), some (.int a1), none, none], [], M) none M' := by
  unfold f_J7_fill_53178 at h
  refine kx_go (pc' := 3) (L' := [some (.ref w), some (.int a1), some (.int (0 : Int32)), none]) (st' := [.ref w]) 3 rfl ?_
  refine kx_q_alen (hw) rfl (by decide) ?_
  refine kx_go (pc' := 5) (L' := [some (.ref w), some (.int a1), some (.int (0 : Int32)), some (.int (Int32.ofNat wn))]) (st' := []) 1 rfl ?_
  refine kx_wk [true, true, true, true] ?_
  exact t_J7_fill_53178_5 wn w hw kx_fuel a1 (0 : Int32) (Int32.ofNat wn) M h
theorem c_J7_fill_53178 {E : kx_E} {d : Nat} (wn : Nat) (w : Nat) (hw : kx_ar E w 0 wn) (a1 : Int32) (M : kx_M) (M' : kx_M) (h : f_J7_fill_53178 wn w a1 M = some M') : kx_Call E (d + 0) T_J7_fill_53178 [.ref w, .int a1] M none M' := kx_entry kok_J7_fill_53178 (Nat.le_of_ble_eq_true rfl) rfl (t_J7_fill_53178 (d := d) wn w hw a1 M h)
set_option maxRecDepth 100000 in
set_option maxHeartbeats 4000000 in
theorem t_X0_sumUpShown_43 {E : kx_E} {d : Nat} {M' : kx_M} (o : Nat) (ho : kx_land E o) : ∀ (n : Nat) (x1 : Int32) (M : kx_M), f_X0_sumUpShown_43 o n x1 M = some M' → kx_Rn E T_X0_sumUpShown (d + 1) (43, [some (.ref o), some (.int x1)], [], M) none M' := by
  intro n
  induction n with
  | zero =>
    intro x1 M h
    cases (show (none : Option kx_M) = some _ from h)
  | succ n ih =>
    intro x1 M h
    rw [f_X0_sumUpShown_43.eq_2] at h
    refine kx_go (pc' := 46) (L' := [some (.ref o), some (.int x1)]) (st' := [.int (20 : Int32), .int x1]) 2 rfl ?_
    refine kx_r_icmp_gt rfl (fun hc1 => ?_) (fun hc1 => ?_)
    · rw [if_pos hc1] at h
      cases h
      exact kx_r_vret rfl rfl
    · rw [if_neg hc1] at h
      refine kx_go (pc' := 50) (L' := [some (.ref o), some (.int x1)]) (st' := [.ref o]) 1 rfl ?_
      refine kx_q_getR (k := 2) (j := (o + 3)) ho.1 rfl kfl_X0_24 rfl ?_
      refine kx_go (pc' := 55) (L' := [some (.ref o), some (.int x1)]) (st' := [.int x1, .ref (o + 3), .int x1, .ref (o + 3)]) 2 rfl ?_
      obtain ⟨hi2, h⟩ := kx_ck_some h
      refine kx_q_iald (ho.2.2.2.1) rfl hi2 ?_
      refine kx_go (pc' := 57) (L' := [some (.ref o), some (.int x1)]) (st' := [.ref o, .int (M.1 (o + 3) (x1).toNatClampNeg), .int x1, .ref (o + 3)]) 1 rfl ?_
      refine kx_q_getR (k := 2) (j := (o + 3)) ho.1 rfl kfl_X0_24 rfl ?_
      refine kx_go (pc' := 63) (L' := [some (.ref o), some (.int x1)]) (st' := [.int (x1 - (1 : Int32)), .ref (o + 3), .int (M.1 (o + 3) (x1).toNatClampNeg), .int x1, .ref (o + 3)]) 3 rfl ?_
      obtain ⟨hi3, h⟩ := kx_ck_some h
      refine kx_q_iald (ho.2.2.2.1) rfl hi3 ?_
      refine kx_go (pc' := 65) (L' := [some (.ref o), some (.int x1)]) (st' := [.int ((M.1 (o + 3) (x1).toNatClampNeg) ||| (M.1 (o + 3) ((x1 - (1 : Int32))).toNatClampNeg)), .int x1, .ref (o + 3)]) 1 rfl ?_
      obtain ⟨hi4, h⟩ := kx_ck_some h
      refine kx_q_iast (ho.2.2.2.1) rfl hi4 ?_
      obtain ⟨M5, hM5, h⟩ := kx_lt_ex h
      rw [← hM5]
      refine kx_go (pc' := 69) (L' := [some (.ref o), some (.int (x1 + (1)))]) (st' := []) 1 rfl ?_
      refine kx_r_goto rfl ?_
      refine kx_wk [true, true] ?_
      exact ih (x1 + (1)) M5 h
set_option maxRecDepth 100000 in
set_option maxHeartbeats 4000000 in
theorem t_X0_sumUpShown_10 {E : kx_E} {d : Nat} {M' : kx_M} (o : Nat) (ho : kx_land E o) : ∀ (n : Nat) (x1 : Int32) (M : kx_M), f_X0_sumUpShown_10 o n x1 M = some M' → kx_Rn E T_X0_sumUpShown (d + 1) (10, [some (.ref o), some (.int x1)], [], M) none M' := by
  intro n
  induction n with
  | zero =>
    intro x1 M h
    cases (show (none : Option kx_M) = some _ from h)
  | succ n ih =>
    intro x1 M h
    rw [f_X0_sumUpShown_10.eq_2] at h
    refine kx_go (pc' := 12) (L' := [some (.ref o), some (.int x1)]) (st' := [.ref o, .int x1]) 2 rfl ?_
    refine kx_q_getI (k := 7) ho.1 rfl kfl_X0_56 rfl ?_
    refine kx_r_icmp_ge rfl (fun hc1 => ?_) (fun hc1 => ?_)
    · rw [if_pos hc1] at h
      refine kx_go (pc' := 43) (L' := [some (.ref o), some (.int (1 : Int32))]) (st' := []) 2 rfl ?_
      refine kx_wk [true, true] ?_
      exact t_X0_sumUpShown_43 o ho kx_fuel (1 : Int32) M h
    · rw [if_neg hc1] at h
      refine kx_go (pc' := 19) (L' := [some (.ref o), some (.int x1)]) (st' := [.ref o]) 1 rfl ?_
      refine kx_q_getR (k := 2) (j := (o + 3)) ho.1 rfl kfl_X0_24 rfl ?_
      refine kx_go (pc' := 23) (L' := [some (.ref o), some (.int x1)]) (st' := [.ref o, .ref (o + 3)]) 1 rfl ?_
      refine kx_q_getR (k := 0) (j := (o + 1)) ho.1 rfl kfl_X0_9 rfl ?_
      refine kx_go (pc' := 27) (L' := [some (.ref o), some (.int x1)]) (st' := [.int x1, .ref (o + 1), .ref (o + 3)]) 1 rfl ?_
      obtain ⟨hi2, h⟩ := kx_ck_some h
      refine kx_q_iald (ho.2.1) rfl hi2 ?_
      refine kx_go (pc' := 29) (L' := [some (.ref o), some (.int x1)]) (st' := [.int (M.1 (o + 1) (x1).toNatClampNeg), .ref (o + 3), .int (M.1 (o + 1) (x1).toNatClampNeg), .ref (o + 3)]) 1 rfl ?_
      obtain ⟨hi3, h⟩ := kx_ck_some h
      refine kx_q_iald (ho.2.2.2.1) rfl hi3 ?_
      refine kx_go (pc' := 34) (L' := [some (.ref o), some (.int x1)]) (st' := [.int ((M.1 (o + 3) ((M.1 (o + 1) (x1).toNatClampNeg)).toNatClampNeg) ||| ((1 : Int32) <<< (x1 &&& 31))), .int (M.1 (o + 1) (x1).toNatClampNeg), .ref (o + 3)]) 4 rfl ?_
      obtain ⟨hi4, h⟩ := kx_ck_some h
      refine kx_q_iast (ho.2.2.2.1) rfl hi4 ?_
      obtain ⟨M5, hM5, h⟩ := kx_lt_ex h
      rw [← hM5]
      refine kx_go (pc' := 38) (L' := [some (.ref o), some (.int (x1 + (1)))]) (st' := []) 1 rfl ?_
      refine kx_r_goto rfl ?_
      refine kx_wk [true, true] ?_
      exact ih (x1 + (1)) M5 h
set_option maxRecDepth 100000 in
set_option maxHeartbeats 4000000 in
theorem t_X0_sumUpShown {E : kx_E} {d : Nat} {M' : kx_M} (o : Nat) (ho : kx_land E o) (M : kx_M) (h : f_X0_sumUpShown o M = some M') : kx_Rn E T_X0_sumUpShown (d + 1) (0, [some (.ref o), none], [], M) none M' := by
  unfold f_X0_sumUpShown at h
  refine kx_go (pc' := 1) (L' := [some (.ref o), none]) (st' := [.ref o]) 1 rfl ?_
  refine kx_q_getR (k := 2) (j := (o + 3)) ho.1 rfl kfl_X0_24 rfl ?_
  refine kx_go (pc' := 5) (L' := [some (.ref o), none]) (st' := [.int (0 : Int32), .ref (o + 3)]) 1 rfl ?_
  obtain ⟨M3, hv2, h⟩ := kx_bn_some h
  refine kx_r_callS (as := [.ref (o + 3), .int (0 : Int32)]) (rest := []) (M1 := M3) (rv := none) rfl klk_X0_74 kst_J7_fill_53178 rfl rfl (Nat.le_of_ble_eq_true rfl) (Nat.le_of_ble_eq_true rfl) (c_J7_fill_53178 (d := d + 0) 21 (o + 3) (ho.2.2.2.1) (0 : Int32) M M3 hv2) ?_
  show kx_Rn _ _ _ (8, [some (.ref o), none], [], M3) _ _
  refine kx_go (pc' := 10) (L' := [some (.ref o), some (.int (0 : Int32))]) (st' := []) 2 rfl ?_
  refine kx_wk [true, true] ?_
  exact t_X0_sumUpShown_10 o ho kx_fuel (0 : Int32) M3 h
theorem c_X0_sumUpShown {E : kx_E} {d : Nat} (o : Nat) (ho : kx_land E o) (M : kx_M) (M' : kx_M) (h : f_X0_sumUpShown o M = some M') : kx_Call E (d + 1) T_X0_sumUpShown [.ref o] M none M' := kx_entry kok_X0_sumUpShown (Nat.le_of_ble_eq_true rfl) rfl (t_X0_sumUpShown (d := d) o ho M h)
set_option maxRecDepth 100000 in
set_option maxHeartbeats 4000000 in
theorem t_X0_paveTo {E : kx_E} {d : Nat} {M' : kx_M} (o : Nat) (ho : kx_land E o) (a0 : Int32) (M : kx_M) (h : f_X0_paveTo o a0 M = some M') : kx_Rn E T_X0_paveTo (d + 2) (0, [some (.ref o), some (.int a0)], [], M) none M' := by
  unfold f_X0_paveTo at h
  refine kx_go (pc' := 2) (L' := [some (.ref o), some (.int a0)]) (st' := [.int a0, .ref o]) 2 rfl ?_
  refine kx_q_putI (k := 7) ho.1 rfl kfw_X0_56 rfl ?_
  refine kx_go (pc' := 6) (L' := [some (.ref o), some (.int a0)]) (st' := [.ref o]) 1 rfl ?_
  obtain ⟨M3, hv2, h⟩ := kx_bn_some h
  refine kx_q_callV (as := []) (rest := []) (M1 := M3) (rv := none) ho.1 rfl klk_X0_71 kse_X0_sumUpShown rfl rfl rfl rfl (Nat.le_of_ble_eq_true rfl) (Nat.le_of_ble_eq_true rfl) (c_X0_sumUpShown (d := d + 0) o (ho) (kx_u1 M o 7 a0) M3 hv2) ?_
  show kx_Rn _ _ _ (9, [some (.ref o), some (.int a0)], [], M3) _ _
  cases h
  exact kx_r_vret rfl rfl
theorem c_X0_paveTo {E : kx_E} {d : Nat} (o : Nat) (ho : kx_land E o) (a0 : Int32) (M : kx_M) (M' : kx_M) (h : f_X0_paveTo o a0 M = some M') : kx_Call E (d + 2) T_X0_paveTo [.ref o, .int a0] M none M' := kx_entry kok_X0_paveTo (Nat.le_of_ble_eq_true rfl) rfl (t_X0_paveTo (d := d) o ho a0 M h)
set_option maxRecDepth 100000 in
set_option maxHeartbeats 4000000 in
theorem t_X0_makeShy {E : kx_E} {d : Nat} {M' : kx_M} (o : Nat) (ho : kx_land E o) (a0 : Int32) (a1 : Int32) (M : kx_M) (h : f_X0_makeShy o a0 a1 M = some M') : kx_Rn E T_X0_makeShy (d + 2) (0, [some (.ref o), some (.int a0), some (.int a1)], [], M) none M' := by
  unfold f_X0_makeShy at h
  refine kx_go (pc' := 1) (L' := [some (.ref o), some (.int a0), some (.int a1)]) (st' := [.ref o]) 1 rfl ?_
  refine kx_q_getR (k := 0) (j := (o + 1)) ho.1 rfl kfl_X0_9 rfl ?_
  refine kx_go (pc' := 6) (L' := [some (.ref o), some (.int a0), some (.int a1)]) (st' := [.int a1, .int a0, .ref (o + 1)]) 2 rfl ?_
  obtain ⟨hi1, h⟩ := kx_ck_some h
  refine kx_q_iast (ho.2.1) rfl hi1 ?_
  refine kx_go (pc' := 8) (L' := [some (.ref o), some (.int a0), some (.int a1)]) (st' := [.ref o]) 1 rfl ?_
  obtain ⟨M4, hv3, h⟩ := kx_bn_some h
  refine kx_q_callV (as := []) (rest := []) (M1 := M4) (rv := none) ho.1 rfl klk_X0_71 kse_X0_sumUpShown rfl rfl rfl rfl (Nat.le_of_ble_eq_true rfl) (Nat.le_of_ble_eq_true rfl) (c_X0_sumUpShown (d := d + 0) o (ho) (kx_u1 M (o + 1) (a0).toNatClampNeg a1) M4 hv3) ?_
  show kx_Rn _ _ _ (11, [some (.ref o), some (.int a0), some (.int a1)], [], M4) _ _
  cases h
  exact kx_r_vret rfl rfl
theorem c_X0_makeShy {E : kx_E} {d : Nat} (o : Nat) (ho : kx_land E o) (a0 : Int32) (a1 : Int32) (M : kx_M) (M' : kx_M) (h : f_X0_makeShy o a0 a1 M = some M') : kx_Call E (d + 2) T_X0_makeShy [.ref o, .int a0, .int a1] M none M' := kx_entry kok_X0_makeShy (Nat.le_of_ble_eq_true rfl) rfl (t_X0_makeShy (d := d) o ho a0 a1 M h)
set_option maxRecDepth 100000 in
set_option maxHeartbeats 4000000 in
theorem t_X0_hasRoom {E : kx_E} {d : Nat} {r : Bool} (o : Nat) (ho : kx_land E o) (M : kx_M) (h : f_X0_hasRoom o M = r) : kx_Rn E T_X0_hasRoom (d + 0) (0, [some (.ref o)], [], M) (some (.int (kx_bi r))) M := by
  unfold f_X0_hasRoom at h
  refine kx_go (pc' := 1) (L' := [some (.ref o)]) (st' := [.ref o]) 1 rfl ?_
  refine kx_q_getI (k := 11) ho.1 rfl kfl_X0_62 rfl ?_
  refine kx_go (pc' := 6) (L' := [some (.ref o)]) (st' := [.int (8 : Int32), .int (M.1 o 11)]) 1 rfl ?_
  refine kx_r_icmp_ge rfl (fun hc1 => ?_) (fun hc1 => ?_)
  · rw [if_pos hc1] at h
    refine kx_go (pc' := 14) (L' := [some (.ref o)]) (st' := [.int (0 : Int32)]) 1 rfl ?_
    subst h
    exact kx_r_zret rfl rfl (Or.inl rfl)
  · rw [if_neg hc1] at h
    refine kx_go (pc' := 10) (L' := [some (.ref o)]) (st' := [.int (1 : Int32)]) 1 rfl ?_
    refine kx_r_goto rfl ?_
    subst h
    exact kx_r_zret rfl rfl (Or.inr rfl)
theorem c_X0_hasRoom {E : kx_E} {d : Nat} (o : Nat) (ho : kx_land E o) (M : kx_M) (r : Bool) (h : f_X0_hasRoom o M = r) : kx_Call E (d + 0) T_X0_hasRoom [.ref o] M (some (.int (kx_bi r))) M := kx_entry kok_X0_hasRoom (Nat.le_of_ble_eq_true rfl) rfl (t_X0_hasRoom (d := d) o ho M h)
set_option maxRecDepth 100000 in
set_option maxHeartbeats 4000000 in
theorem t_X0_let_65 {E : kx_E} {d : Nat} {M' : kx_M} (o : Nat) (ho : kx_land E o) (x1 : Int32) (M : kx_M) (h : f_X0_let_65 o x1 M = some M') : kx_Rn E T_X0_let (d + 0) (65, [some (.ref o), some (.int x1), none, none], [], M) none M' := by
  unfold f_X0_let_65 at h
  refine kx_go (pc' := 67) (L' := [some (.ref o), some (.int x1), none, none]) (st' := [.int (5 : Int32), .int x1]) 2 rfl ?_
  refine kx_r_icmp_ne rfl (fun hc1 => ?_) (fun hc1 => ?_)
  · rw [if_neg hc1] at h
    refine kx_go (pc' := 87) (L' := [some (.ref o), some (.int x1), none, none]) (st' := [.ref o, .ref o]) 2 rfl ?_
    refine kx_q_getI (k := 11) ho.1 rfl kfl_X0_62 rfl ?_
    refine kx_go (pc' := 92) (L' := [some (.ref o), some (.int x1), none, none]) (st' := [.int ((M.1 o 11) + (1 : Int32)), .ref o]) 2 rfl ?_
    refine kx_q_putI (k := 11) ho.1 rfl kfw_X0_62 rfl ?_
    cases h
    exact kx_r_vret rfl rfl
  · rw [if_pos hc1] at h
    refine kx_go (pc' := 72) (L' := [some (.ref o), some (.int x1), none, none]) (st' := [.ref o, .ref o]) 2 rfl ?_
    refine kx_q_getI (k := 13) ho.1 rfl kfl_X0_68 rfl ?_
    refine kx_go (pc' := 77) (L' := [some (.ref o), some (.int x1), none, none]) (st' := [.ref o, .int (1 : Int32), .int (M.1 o 13), .ref o]) 2 rfl ?_
    refine kx_q_getI (k := 11) ho.1 rfl kfl_X0_62 rfl ?_
    refine kx_go (pc' := 82) (L' := [some (.ref o), some (.int x1), none, none]) (st' := [.int ((M.1 o 13) ||| ((1 : Int32) <<< ((M.1 o 11) &&& 31))), .ref o]) 2 rfl ?_
    refine kx_q_putI (k := 13) ho.1 rfl kfw_X0_68 rfl ?_
    refine kx_go (pc' := 87) (L' := [some (.ref o), some (.int x1), none, none]) (st' := [.ref o, .ref o]) 2 rfl ?_
    refine kx_q_getI (k := 11) ho.1 rfl kfl_X0_62 rfl ?_
    refine kx_go (pc' := 92) (L' := [some (.ref o), some (.int x1), none, none]) (st' := [.int (((kx_u1 M o 13 ((M.1 o 13) ||| ((1 : Int32) <<< ((M.1 o 11) &&& 31)))).1 o 11) + (1 : Int32)), .ref o]) 2 rfl ?_
    refine kx_q_putI (k := 11) ho.1 rfl kfw_X0_62 rfl ?_
    obtain ⟨M2, hM2, h⟩ := kx_lt_ex h
    rw [← hM2]
    cases h
    exact kx_r_vret rfl rfl
set_option maxRecDepth 100000 in
set_option maxHeartbeats 4000000 in
theorem t_X0_let_50 {E : kx_E} {d : Nat} {M' : kx_M} (o : Nat) (ho : kx_land E o) (x1 : Int32) (M : kx_M) (h : f_X0_let_50 o x1 M = some M') : kx_Rn E T_X0_let (d + 0) (50, [some (.ref o), some (.int x1), none, none], [], M) none M' := by
  unfold f_X0_let_50 at h
  refine kx_go (pc' := 52) (L' := [some (.ref o), some (.int x1), none, none]) (st' := [.ref o, .ref o]) 2 rfl ?_
  refine kx_q_getI (k := 12) ho.1 rfl kfl_X0_65 rfl ?_
  refine kx_go (pc' := 57) (L' := [some (.ref o), some (.int x1), none, none]) (st' := [.ref o, .int (1 : Int32), .int (M.1 o 12), .ref o]) 2 rfl ?_
  refine kx_q_getI (k := 11) ho.1 rfl kfl_X0_62 rfl ?_
  refine kx_go (pc' := 62) (L' := [some (.ref o), some (.int x1), none, none]) (st' := [.int ((M.1 o 12) ||| ((1 : Int32) <<< ((M.1 o 11) &&& 31))), .ref o]) 2 rfl ?_
  refine kx_q_putI (k := 12) ho.1 rfl kfw_X0_65 rfl ?_
  refine kx_wk [true, true, false, false] ?_
  exact t_X0_let_65 o ho x1 (kx_u1 M o 12 ((M.1 o 12) ||| ((1 : Int32) <<< ((M.1 o 11) &&& 31)))) h
set_option maxRecDepth 100000 in
set_option maxHeartbeats 4000000 in
theorem t_X0_let {E : kx_E} {d : Nat} {M' : kx_M} (o : Nat) (ho : kx_land E o) (a0 : Int32) (a1 : Int32) (a2 : Int32) (M : kx_M) (h : f_X0_let o a0 a1 a2 M = some M') : kx_Rn E T_X0_let (d + 0) (0, [some (.ref o), some (.int a0), some (.int a1), some (.int a2)], [], M) none M' := by
  unfold f_X0_let at h
  refine kx_go (pc' := 1) (L' := [some (.ref o), some (.int a0), some (.int a1), some (.int a2)]) (st' := [.ref o]) 1 rfl ?_
  refine kx_q_getR (k := 3) (j := (o + 4)) ho.1 rfl kfl_X0_27 rfl ?_
  refine kx_go (pc' := 5) (L' := [some (.ref o), some (.int a0), some (.int a1), some (.int a2)]) (st' := [.ref o, .ref (o + 4)]) 1 rfl ?_
  refine kx_q_getI (k := 11) ho.1 rfl kfl_X0_62 rfl ?_
  refine kx_go (pc' := 9) (L' := [some (.ref o), some (.int a0), some (.int a1), some (.int a2)]) (st' := [.int a0, .int (M.1 o 11), .ref (o + 4)]) 1 rfl ?_
  obtain ⟨hi1, h⟩ := kx_ck_some h
  refine kx_q_iast (ho.2.2.2.2.1) rfl hi1 ?_
  refine kx_go (pc' := 11) (L' := [some (.ref o), some (.int a0), some (.int a1), some (.int a2)]) (st' := [.ref o]) 1 rfl ?_
  refine kx_q_getR (k := 4) (j := (o + 5)) ho.1 rfl kfl_X0_30 rfl ?_
  refine kx_go (pc' := 15) (L' := [some (.ref o), some (.int a0), some (.int a1), some (.int a2)]) (st' := [.ref o, .ref (o + 5)]) 1 rfl ?_
  refine kx_q_getI (k := 11) ho.1 rfl kfl_X0_62 rfl ?_
  refine kx_go (pc' := 19) (L' := [some (.ref o), some (.int a0), some (.int a1), some (.int a2)]) (st' := [.int a1, .int ((kx_u1 M (o + 4) ((M.1 o 11)).toNatClampNeg a0).1 o 11), .ref (o + 5)]) 1 rfl ?_
  obtain ⟨hi2, h⟩ := kx_ck_some h
  refine kx_q_iast (ho.2.2.2.2.2.1) rfl hi2 ?_
  obtain ⟨M3, hM3, h⟩ := kx_lt_ex h
  rw [← hM3]
  refine kx_go (pc' := 21) (L' := [some (.ref o), some (.int a0), some (.int a1), some (.int a2)]) (st' := [.ref o]) 1 rfl ?_
  refine kx_q_getR (k := 5) (j := (o + 6)) ho.1 rfl kfl_X0_33 rfl ?_
  refine kx_go (pc' := 25) (L' := [some (.ref o), some (.int a0), some (.int a1), some (.int a2)]) (st' := [.ref o, .ref (o + 6)]) 1 rfl ?_
  refine kx_q_getI (k := 11) ho.1 rfl kfl_X0_62 rfl ?_
  refine kx_go (pc' := 29) (L' := [some (.ref o), some (.int a0), some (.int a1), some (.int a2)]) (st' := [.int a2, .int (M3.1 o 11), .ref (o + 6)]) 1 rfl ?_
  obtain ⟨hi4, h⟩ := kx_ck_some h
  refine kx_q_iast (ho.2.2.2.2.2.2.1) rfl hi4 ?_
  refine kx_go (pc' := 31) (L' := [some (.ref o), some (.int a0), some (.int a1), some (.int a2)]) (st' := [.ref o]) 1 rfl ?_
  refine kx_q_getR (k := 6) (j := (o + 7)) ho.1 rfl kfl_X0_36 rfl ?_
  refine kx_go (pc' := 35) (L' := [some (.ref o), some (.int a0), some (.int a1), some (.int a2)]) (st' := [.ref o, .ref (o + 7)]) 1 rfl ?_
  refine kx_q_getI (k := 11) ho.1 rfl kfl_X0_62 rfl ?_
  refine kx_go (pc' := 39) (L' := [some (.ref o), some (.int a0), some (.int a1), some (.int a2)]) (st' := [.int (0 : Int32), .int ((kx_u1 M3 (o + 6) ((M3.1 o 11)).toNatClampNeg a2).1 o 11), .ref (o + 7)]) 1 rfl ?_
  obtain ⟨hi5, h⟩ := kx_ck_some h
  refine kx_q_iast (ho.2.2.2.2.2.2.2) rfl hi5 ?_
  obtain ⟨M6, hM6, h⟩ := kx_lt_ex h
  rw [← hM6]
  refine kx_go (pc' := 42) (L' := [some (.ref o), some (.int a0), some (.int a1), some (.int a2)]) (st' := [.int (1 : Int32), .int a0]) 2 rfl ?_
  refine kx_r_icmp_eq rfl (fun hc7 => ?_) (fun hc7 => ?_)
  · rw [if_pos hc7] at h
    refine kx_wk [true, true, false, false] ?_
    exact t_X0_let_50 o ho a0 M6 h
  · rw [if_neg hc7] at h
    refine kx_go (pc' := 47) (L' := [some (.ref o), some (.int a0), some (.int a1), some (.int a2)]) (st' := [.int (3 : Int32), .int a0]) 2 rfl ?_
    refine kx_r_icmp_ne rfl (fun hc8 => ?_) (fun hc8 => ?_)
    · rw [if_neg hc8] at h
      refine kx_wk [true, true, false, false] ?_
      exact t_X0_let_65 o ho a0 M6 h
    · rw [if_pos hc8] at h
      refine kx_wk [true, true, false, false] ?_
      exact t_X0_let_50 o ho a0 M6 h
theorem c_X0_let {E : kx_E} {d : Nat} (o : Nat) (ho : kx_land E o) (a0 : Int32) (a1 : Int32) (a2 : Int32) (M : kx_M) (M' : kx_M) (h : f_X0_let o a0 a1 a2 M = some M') : kx_Call E (d + 0) T_X0_let [.ref o, .int a0, .int a1, .int a2] M none M' := kx_entry kok_X0_let (Nat.le_of_ble_eq_true rfl) rfl (t_X0_let (d := d) o ho a0 a1 a2 M h)
set_option maxRecDepth 100000 in
set_option maxHeartbeats 4000000 in
theorem t_X4_isWithin {E : kx_E} {d : Nat} {r : Bool} (M : kx_M) (a0 : Int32) (a1 : Int32) (a2 : Int32) (h : f_X4_isWithin a0 a1 a2 = r) : kx_Rn E T_X4_isWithin (d + 0) (0, [some (.int a0), some (.int a1), some (.int a2)], [], M) (some (.int (kx_bi r))) M := by
  unfold f_X4_isWithin at h
  refine kx_go (pc' := 2) (L' := [some (.int a0), some (.int a1), some (.int a2)]) (st' := [.int a1, .int a0]) 2 rfl ?_
  refine kx_r_icmp_lt rfl (fun hc1 => ?_) (fun hc1 => ?_)
  · rw [if_pos hc1] at h
    refine kx_go (pc' := 15) (L' := [some (.int a0), some (.int a1), some (.int a2)]) (st' := [.int (0 : Int32)]) 1 rfl ?_
    subst h
    exact kx_r_zret rfl rfl (Or.inl rfl)
  · rw [if_neg hc1] at h
    refine kx_go (pc' := 7) (L' := [some (.int a0), some (.int a1), some (.int a2)]) (st' := [.int a2, .int a0]) 2 rfl ?_
    refine kx_r_icmp_gt rfl (fun hc2 => ?_) (fun hc2 => ?_)
    · rw [if_pos hc2] at h
      refine kx_go (pc' := 15) (L' := [some (.int a0), some (.int a1), some (.int a2)]) (st' := [.int (0 : Int32)]) 1 rfl ?_
      subst h
      exact kx_r_zret rfl rfl (Or.inl rfl)
    · rw [if_neg hc2] at h
      refine kx_go (pc' := 11) (L' := [some (.int a0), some (.int a1), some (.int a2)]) (st' := [.int (1 : Int32)]) 1 rfl ?_
      refine kx_r_goto rfl ?_
      subst h
      exact kx_r_zret rfl rfl (Or.inr rfl)
theorem c_X4_isWithin {E : kx_E} {d : Nat} (a0 : Int32) (a1 : Int32) (a2 : Int32) (M : kx_M) (r : Bool) (h : f_X4_isWithin a0 a1 a2 = r) : kx_Call E (d + 0) T_X4_isWithin [.int a0, .int a1, .int a2] M (some (.int (kx_bi r))) M := kx_entry kok_X4_isWithin (Nat.le_of_ble_eq_true rfl) rfl (t_X4_isWithin (d := d) M a0 a1 a2 h)
set_option maxRecDepth 100000 in
set_option maxHeartbeats 4000000 in
theorem t_X0_hasCell {E : kx_E} {d : Nat} {r : Bool} (o : Nat) (ho : kx_land E o) (M : kx_M) (a0 : Int32) (h : f_X0_hasCell o M a0 = r) : kx_Rn E T_X0_hasCell (d + 1) (0, [some (.ref o), some (.int a0)], [], M) (some (.int (kx_bi r))) M := by
  unfold f_X0_hasCell at h
  refine kx_go (pc' := 3) (L' := [some (.ref o), some (.int a0)]) (st' := [.ref o, .int (0 : Int32), .int a0]) 3 rfl ?_
  refine kx_q_getI (k := 7) ho.1 rfl kfl_X0_56 rfl ?_
  refine kx_go (pc' := 8) (L' := [some (.ref o), some (.int a0)]) (st' := [.int ((M.1 o 7) - (1 : Int32)), .int (0 : Int32), .int a0]) 2 rfl ?_
  refine kx_r_callN (as := [.int a0, .int (0 : Int32), .int ((M.1 o 7) - (1 : Int32))]) (rest := []) (M1 := M) (rv := some (.int (kx_bi (f_X4_isWithin a0 (0 : Int32) ((M.1 o 7) - (1 : Int32)))))) rfl knl_X0_80 kpd_X4_isWithin kini_X4 kcd_X4_isWithin kst_X4_isWithin rfl rfl (Nat.le_of_ble_eq_true rfl) (Nat.le_of_ble_eq_true rfl) (c_X4_isWithin (d := d + 0) a0 (0 : Int32) ((M.1 o 7) - (1 : Int32)) M (f_X4_isWithin a0 (0 : Int32) ((M.1 o 7) - (1 : Int32))) rfl) ?_
  show kx_Rn _ _ _ (11, [some (.ref o), some (.int a0)], [.int (kx_bi (f_X4_isWithin a0 (0 : Int32) ((M.1 o 7) - (1 : Int32))))], M) _ _
  subst h
  exact kx_r_zret rfl rfl (kx_bi_or _)
theorem c_X0_hasCell {E : kx_E} {d : Nat} (o : Nat) (ho : kx_land E o) (a0 : Int32) (M : kx_M) (r : Bool) (h : f_X0_hasCell o M a0 = r) : kx_Call E (d + 1) T_X0_hasCell [.ref o, .int a0] M (some (.int (kx_bi r))) M := kx_entry kok_X0_hasCell (Nat.le_of_ble_eq_true rfl) rfl (t_X0_hasCell (d := d) o ho M a0 h)
set_option maxRecDepth 100000 in
set_option maxHeartbeats 4000000 in
theorem t_X0_allCells {E : kx_E} {d : Nat} {r : Int32} (o : Nat) (ho : kx_land E o) (M : kx_M) (h : f_X0_allCells o M = r) : kx_Rn E T_X0_allCells (d + 0) (0, [some (.ref o)], [], M) (some (.int r)) M := by
  unfold f_X0_allCells at h
  refine kx_go (pc' := 2) (L' := [some (.ref o)]) (st' := [.ref o, .int (1 : Int32)]) 2 rfl ?_
  refine kx_q_getI (k := 7) ho.1 rfl kfl_X0_56 rfl ?_
  refine kx_go (pc' := 8) (L' := [some (.ref o)]) (st' := [.int (((1 : Int32) <<< ((M.1 o 7) &&& 31)) - (1 : Int32))]) 3 rfl ?_
  subst h
  exact kx_r_iret rfl rfl
theorem c_X0_allCells {E : kx_E} {d : Nat} (o : Nat) (ho : kx_land E o) (M : kx_M) (r : Int32) (h : f_X0_allCells o M = r) : kx_Call E (d + 0) T_X0_allCells [.ref o] M (some (.int r)) M := kx_entry kok_X0_allCells (Nat.le_of_ble_eq_true rfl) rfl (t_X0_allCells (d := d) o ho M h)
set_option maxRecDepth 100000 in
set_option maxHeartbeats 4000000 in
theorem t_X0_hasCells {E : kx_E} {d : Nat} {r : Bool} (o : Nat) (ho : kx_land E o) (M : kx_M) (a0 : Int32) (h : f_X0_hasCells o M a0 = r) : kx_Rn E T_X0_hasCells (d + 1) (0, [some (.ref o), some (.int a0)], [], M) (some (.int (kx_bi r))) M := by
  unfold f_X0_hasCells at h
  refine kx_go (pc' := 3) (L' := [some (.ref o), some (.int a0)]) (st' := [.ref o, .int (0 : Int32), .int a0]) 3 rfl ?_
  refine kx_q_callV (as := []) (rest := [.int (0 : Int32), .int a0]) (M1 := M) (rv := some (.int (f_X0_allCells o M))) ho.1 rfl klk_X0_84 kse_X0_allCells rfl rfl rfl rfl (Nat.le_of_ble_eq_true rfl) (Nat.le_of_ble_eq_true rfl) (c_X0_allCells (d := d + 0) o (ho) M (f_X0_allCells o M) rfl) ?_
  show kx_Rn _ _ _ (6, [some (.ref o), some (.int a0)], [.int (f_X0_allCells o M), .int (0 : Int32), .int a0], M) _ _
  refine kx_r_callN (as := [.int a0, .int (0 : Int32), .int (f_X0_allCells o M)]) (rest := []) (M1 := M) (rv := some (.int (kx_bi (f_X4_isWithin a0 (0 : Int32) (f_X0_allCells o M))))) rfl knl_X0_80 kpd_X4_isWithin kini_X4 kcd_X4_isWithin kst_X4_isWithin rfl rfl (Nat.le_of_ble_eq_true rfl) (Nat.le_of_ble_eq_true rfl) (c_X4_isWithin (d := d + 0) a0 (0 : Int32) (f_X0_allCells o M) M (f_X4_isWithin a0 (0 : Int32) (f_X0_allCells o M)) rfl) ?_
  show kx_Rn _ _ _ (9, [some (.ref o), some (.int a0)], [.int (kx_bi (f_X4_isWithin a0 (0 : Int32) (f_X0_allCells o M)))], M) _ _
  subst h
  exact kx_r_zret rfl rfl (kx_bi_or _)
theorem c_X0_hasCells {E : kx_E} {d : Nat} (o : Nat) (ho : kx_land E o) (a0 : Int32) (M : kx_M) (r : Bool) (h : f_X0_hasCells o M a0 = r) : kx_Call E (d + 1) T_X0_hasCells [.ref o, .int a0] M (some (.int (kx_bi r))) M := kx_entry kok_X0_hasCells (Nat.le_of_ble_eq_true rfl) rfl (t_X0_hasCells (d := d) o ho M a0 h)
set_option maxRecDepth 100000 in
set_option maxHeartbeats 4000000 in
theorem t_X0_hasVisitor {E : kx_E} {d : Nat} {r : Bool} (o : Nat) (ho : kx_land E o) (M : kx_M) (a0 : Int32) (h : f_X0_hasVisitor o M a0 = r) : kx_Rn E T_X0_hasVisitor (d + 1) (0, [some (.ref o), some (.int a0)], [], M) (some (.int (kx_bi r))) M := by
  unfold f_X0_hasVisitor at h
  refine kx_go (pc' := 3) (L' := [some (.ref o), some (.int a0)]) (st' := [.ref o, .int (0 : Int32), .int a0]) 3 rfl ?_
  refine kx_q_getI (k := 11) ho.1 rfl kfl_X0_62 rfl ?_
  refine kx_go (pc' := 8) (L' := [some (.ref o), some (.int a0)]) (st' := [.int ((M.1 o 11) - (1 : Int32)), .int (0 : Int32), .int a0]) 2 rfl ?_
  refine kx_r_callN (as := [.int a0, .int (0 : Int32), .int ((M.1 o 11) - (1 : Int32))]) (rest := []) (M1 := M) (rv := some (.int (kx_bi (f_X4_isWithin a0 (0 : Int32) ((M.1 o 11) - (1 : Int32)))))) rfl knl_X0_80 kpd_X4_isWithin kini_X4 kcd_X4_isWithin kst_X4_isWithin rfl rfl (Nat.le_of_ble_eq_true rfl) (Nat.le_of_ble_eq_true rfl) (c_X4_isWithin (d := d + 0) a0 (0 : Int32) ((M.1 o 11) - (1 : Int32)) M (f_X4_isWithin a0 (0 : Int32) ((M.1 o 11) - (1 : Int32))) rfl) ?_
  show kx_Rn _ _ _ (11, [some (.ref o), some (.int a0)], [.int (kx_bi (f_X4_isWithin a0 (0 : Int32) ((M.1 o 11) - (1 : Int32))))], M) _ _
  subst h
  exact kx_r_zret rfl rfl (kx_bi_or _)
theorem c_X0_hasVisitor {E : kx_E} {d : Nat} (o : Nat) (ho : kx_land E o) (a0 : Int32) (M : kx_M) (r : Bool) (h : f_X0_hasVisitor o M a0 = r) : kx_Call E (d + 1) T_X0_hasVisitor [.ref o, .int a0] M (some (.int (kx_bi r))) M := kx_entry kok_X0_hasVisitor (Nat.le_of_ble_eq_true rfl) rfl (t_X0_hasVisitor (d := d) o ho M a0 h)
set_option maxRecDepth 100000 in
set_option maxHeartbeats 4000000 in
theorem t_X0_all {E : kx_E} {d : Nat} {r : Int32} (o : Nat) (ho : kx_land E o) (M : kx_M) (h : f_X0_all o M = r) : kx_Rn E T_X0_all (d + 0) (0, [some (.ref o)], [], M) (some (.int r)) M := by
  unfold f_X0_all at h
  refine kx_go (pc' := 2) (L' := [some (.ref o)]) (st' := [.ref o, .int (1 : Int32)]) 2 rfl ?_
  refine kx_q_getI (k := 11) ho.1 rfl kfl_X0_62 rfl ?_
  refine kx_go (pc' := 8) (L' := [some (.ref o)]) (st' := [.int (((1 : Int32) <<< ((M.1 o 11) &&& 31)) - (1 : Int32))]) 3 rfl ?_
  subst h
  exact kx_r_iret rfl rfl
theorem c_X0_all {E : kx_E} {d : Nat} (o : Nat) (ho : kx_land E o) (M : kx_M) (r : Int32) (h : f_X0_all o M = r) : kx_Call E (d + 0) T_X0_all [.ref o] M (some (.int r)) M := kx_entry kok_X0_all (Nat.le_of_ble_eq_true rfl) rfl (t_X0_all (d := d) o ho M h)
set_option maxRecDepth 100000 in
set_option maxHeartbeats 4000000 in
theorem t_X0_hasGroup {E : kx_E} {d : Nat} {r : Bool} (o : Nat) (ho : kx_land E o) (M : kx_M) (a0 : Int32) (h : f_X0_hasGroup o M a0 = r) : kx_Rn E T_X0_hasGroup (d + 1) (0, [some (.ref o), some (.int a0)], [], M) (some (.int (kx_bi r))) M := by
  unfold f_X0_hasGroup at h
  refine kx_go (pc' := 3) (L' := [some (.ref o), some (.int a0)]) (st' := [.ref o, .int (0 : Int32), .int a0]) 3 rfl ?_
  refine kx_q_callV (as := []) (rest := [.int (0 : Int32), .int a0]) (M1 := M) (rv := some (.int (f_X0_all o M))) ho.1 rfl klk_X0_88 kse_X0_all rfl rfl rfl rfl (Nat.le_of_ble_eq_true rfl) (Nat.le_of_ble_eq_true rfl) (c_X0_all (d := d + 0) o (ho) M (f_X0_all o M) rfl) ?_
  show kx_Rn _ _ _ (6, [some (.ref o), some (.int a0)], [.int (f_X0_all o M), .int (0 : Int32), .int a0], M) _ _
  refine kx_r_callN (as := [.int a0, .int (0 : Int32), .int (f_X0_all o M)]) (rest := []) (M1 := M) (rv := some (.int (kx_bi (f_X4_isWithin a0 (0 : Int32) (f_X0_all o M))))) rfl knl_X0_80 kpd_X4_isWithin kini_X4 kcd_X4_isWithin kst_X4_isWithin rfl rfl (Nat.le_of_ble_eq_true rfl) (Nat.le_of_ble_eq_true rfl) (c_X4_isWithin (d := d + 0) a0 (0 : Int32) (f_X0_all o M) M (f_X4_isWithin a0 (0 : Int32) (f_X0_all o M)) rfl) ?_
  show kx_Rn _ _ _ (9, [some (.ref o), some (.int a0)], [.int (kx_bi (f_X4_isWithin a0 (0 : Int32) (f_X0_all o M)))], M) _ _
  subst h
  exact kx_r_zret rfl rfl (kx_bi_or _)
theorem c_X0_hasGroup {E : kx_E} {d : Nat} (o : Nat) (ho : kx_land E o) (a0 : Int32) (M : kx_M) (r : Bool) (h : f_X0_hasGroup o M a0 = r) : kx_Call E (d + 1) T_X0_hasGroup [.ref o, .int a0] M (some (.int (kx_bi r))) M := kx_entry kok_X0_hasGroup (Nat.le_of_ble_eq_true rfl) rfl (t_X0_hasGroup (d := d) o ho M a0 h)
set_option maxRecDepth 100000 in
set_option maxHeartbeats 4000000 in
theorem t_X0_canVisit {E : kx_E} {d : Nat} {r : Bool} (o : Nat) (ho : kx_land E o) (M : kx_M) (a0 : Int32) (h : f_X0_canVisit o M a0 = r) : kx_Rn E T_X0_canVisit (d + 1) (0, [some (.ref o), some (.int a0)], [], M) (some (.int (kx_bi r))) M := by
  unfold f_X0_canVisit at h
  refine kx_go (pc' := 3) (L' := [some (.ref o), some (.int a0)]) (st' := [.ref o, .int (1 : Int32), .int a0]) 3 rfl ?_
  refine kx_q_callV (as := []) (rest := [.int (1 : Int32), .int a0]) (M1 := M) (rv := some (.int (f_X0_all o M))) ho.1 rfl klk_X0_88 kse_X0_all rfl rfl rfl rfl (Nat.le_of_ble_eq_true rfl) (Nat.le_of_ble_eq_true rfl) (c_X0_all (d := d + 0) o (ho) M (f_X0_all o M) rfl) ?_
  show kx_Rn _ _ _ (6, [some (.ref o), some (.int a0)], [.int (f_X0_all o M), .int (1 : Int32), .int a0], M) _ _
  refine kx_r_callN (as := [.int a0, .int (1 : Int32), .int (f_X0_all o M)]) (rest := []) (M1 := M) (rv := some (.int (kx_bi (f_X4_isWithin a0 (1 : Int32) (f_X0_all o M))))) rfl knl_X0_80 kpd_X4_isWithin kini_X4 kcd_X4_isWithin kst_X4_isWithin rfl rfl (Nat.le_of_ble_eq_true rfl) (Nat.le_of_ble_eq_true rfl) (c_X4_isWithin (d := d + 0) a0 (1 : Int32) (f_X0_all o M) M (f_X4_isWithin a0 (1 : Int32) (f_X0_all o M)) rfl) ?_
  show kx_Rn _ _ _ (9, [some (.ref o), some (.int a0)], [.int (kx_bi (f_X4_isWithin a0 (1 : Int32) (f_X0_all o M)))], M) _ _
  subst h
  exact kx_r_zret rfl rfl (kx_bi_or _)
theorem c_X0_canVisit {E : kx_E} {d : Nat} (o : Nat) (ho : kx_land E o) (a0 : Int32) (M : kx_M) (r : Bool) (h : f_X0_canVisit o M a0 = r) : kx_Call E (d + 1) T_X0_canVisit [.ref o, .int a0] M (some (.int (kx_bi r))) M := kx_entry kok_X0_canVisit (Nat.le_of_ble_eq_true rfl) rfl (t_X0_canVisit (d := d) o ho M a0 h)
set_option maxRecDepth 100000 in
set_option maxHeartbeats 4000000 in
theorem t_X4_isIn {E : kx_E} {d : Nat} {r : Bool} (M : kx_M) (a0 : Int32) (a1 : Int64) (h : f_X4_isIn a0 a1 = r) : kx_Rn E T_X4_isIn (d + 0) (0, [some (.int a0), some (.long a1), none], [], M) (some (.int (kx_bi r))) M := by
  unfold f_X4_isIn at h
  refine kx_go (pc' := 7) (L' := [some (.int a0), some (.long a1), none]) (st' := [.int (lg_cmp ((a1 >>> ((a0).toInt64 &&& 63)) &&& (1 : Int64)) (0 : Int64))]) 7 rfl ?_
  refine kx_r_if_eq rfl (fun hc1 => ?_) (fun hc1 => ?_)
  · rw [if_pos hc1] at h
    refine kx_go (pc' := 15) (L' := [some (.int a0), some (.long a1), none]) (st' := [.int (0 : Int32)]) 1 rfl ?_
    subst h
    exact kx_r_zret rfl rfl (Or.inl rfl)
  · rw [if_neg hc1] at h
    refine kx_go (pc' := 11) (L' := [some (.int a0), some (.long a1), none]) (st' := [.int (1 : Int32)]) 1 rfl ?_
    refine kx_r_goto rfl ?_
    subst h
    exact kx_r_zret rfl rfl (Or.inr rfl)
theorem c_X4_isIn {E : kx_E} {d : Nat} (a0 : Int32) (a1 : Int64) (M : kx_M) (r : Bool) (h : f_X4_isIn a0 a1 = r) : kx_Call E (d + 0) T_X4_isIn [.int a0, .long a1] M (some (.int (kx_bi r))) M := kx_entry kok_X4_isIn (Nat.le_of_ble_eq_true rfl) rfl (t_X4_isIn (d := d) M a0 a1 h)
set_option maxRecDepth 100000 in
set_option maxHeartbeats 4000000 in
theorem t_X0_hasInGroup {E : kx_E} {d : Nat} {r : Bool} (o : Nat) (ho : kx_land E o) (M : kx_M) (a0 : Int32) (a1 : Int32) (h : f_X0_hasInGroup o M a0 a1 = r) : kx_Rn E T_X0_hasInGroup (d + 2) (0, [some (.ref o), some (.int a0), some (.int a1)], [], M) (some (.int (kx_bi r))) M := by
  unfold f_X0_hasInGroup at h
  refine kx_go (pc' := 2) (L' := [some (.ref o), some (.int a0), some (.int a1)]) (st' := [.int a0, .ref o]) 2 rfl ?_
  refine kx_q_callV (as := [.int a0]) (rest := []) (M1 := M) (rv := some (.int (kx_bi (f_X0_hasVisitor o M a0)))) ho.1 rfl klk_X0_91 kse_X0_hasVisitor rfl rfl rfl rfl (Nat.le_of_ble_eq_true rfl) (Nat.le_of_ble_eq_true rfl) (c_X0_hasVisitor (d := d + 0) o (ho) a0 M (f_X0_hasVisitor o M a0) rfl) ?_
  show kx_Rn _ _ _ (5, [some (.ref o), some (.int a0), some (.int a1)], [.int (kx_bi (f_X0_hasVisitor o M a0))], M) _ _
  refine kx_q_zeq rfl (fun hc1 => ?_) (fun hc1 => ?_)
  · rw [if_neg hc1] at h
    refine kx_go (pc' := 30) (L' := [some (.ref o), some (.int a0), some (.int a1)]) (st' := [.int (0 : Int32)]) 1 rfl ?_
    subst h
    exact kx_r_zret rfl rfl (Or.inl rfl)
  · rw [if_pos hc1] at h
    refine kx_go (pc' := 10) (L' := [some (.ref o), some (.int a0), some (.int a1)]) (st' := [.int a1, .ref o]) 2 rfl ?_
    refine kx_q_callV (as := [.int a1]) (rest := []) (M1 := M) (rv := some (.int (kx_bi (f_X0_hasGroup o M a1)))) ho.1 rfl klk_X0_95 kse_X0_hasGroup rfl rfl rfl rfl (Nat.le_of_ble_eq_true rfl) (Nat.le_of_ble_eq_true rfl) (c_X0_hasGroup (d := d + 0) o (ho) a1 M (f_X0_hasGroup o M a1) rfl) ?_
    show kx_Rn _ _ _ (13, [some (.ref o), some (.int a0), some (.int a1)], [.int (kx_bi (f_X0_hasGroup o M a1))], M) _ _
    refine kx_q_zeq rfl (fun hc2 => ?_) (fun hc2 => ?_)
    · rw [if_neg hc2] at h
      refine kx_go (pc' := 30) (L' := [some (.ref o), some (.int a0), some (.int a1)]) (st' := [.int (0 : Int32)]) 1 rfl ?_
      subst h
      exact kx_r_zret rfl rfl (Or.inl rfl)
    · rw [if_pos hc2] at h
      refine kx_go (pc' := 19) (L' := [some (.ref o), some (.int a0), some (.int a1)]) (st' := [.long (a1).toInt64, .int a0]) 3 rfl ?_
      refine kx_r_callN (as := [.int a0, .long (a1).toInt64]) (rest := []) (M1 := M) (rv := some (.int (kx_bi (f_X4_isIn a0 (a1).toInt64)))) rfl knl_X0_98 kpd_X4_isIn kini_X4 kcd_X4_isIn kst_X4_isIn rfl rfl (Nat.le_of_ble_eq_true rfl) (Nat.le_of_ble_eq_true rfl) (c_X4_isIn (d := d + 1) a0 (a1).toInt64 M (f_X4_isIn a0 (a1).toInt64) rfl) ?_
      show kx_Rn _ _ _ (22, [some (.ref o), some (.int a0), some (.int a1)], [.int (kx_bi (f_X4_isIn a0 (a1).toInt64))], M) _ _
      refine kx_q_zeq rfl (fun hc3 => ?_) (fun hc3 => ?_)
      · rw [if_neg hc3] at h
        refine kx_go (pc' := 30) (L' := [some (.ref o), some (.int a0), some (.int a1)]) (st' := [.int (0 : Int32)]) 1 rfl ?_
        subst h
        exact kx_r_zret rfl rfl (Or.inl rfl)
      · rw [if_pos hc3] at h
        refine kx_go (pc' := 26) (L' := [some (.ref o), some (.int a0), some (.int a1)]) (st' := [.int (1 : Int32)]) 1 rfl ?_
        refine kx_r_goto rfl ?_
        subst h
        exact kx_r_zret rfl rfl (Or.inr rfl)
theorem c_X0_hasInGroup {E : kx_E} {d : Nat} (o : Nat) (ho : kx_land E o) (a0 : Int32) (a1 : Int32) (M : kx_M) (r : Bool) (h : f_X0_hasInGroup o M a0 a1 = r) : kx_Call E (d + 2) T_X0_hasInGroup [.ref o, .int a0, .int a1] M (some (.int (kx_bi r))) M := kx_entry kok_X0_hasInGroup (Nat.le_of_ble_eq_true rfl) rfl (t_X0_hasInGroup (d := d) o ho M a0 a1 h)
set_option maxRecDepth 100000 in
set_option maxHeartbeats 4000000 in
theorem t_X0_seenBy_4 {E : kx_E} {d : Nat} {r : Int32} (o : Nat) (ho : kx_land E o) (M : kx_M) : ∀ (n : Nat) (x1 : Int32) (x2 : Int32) (x3 : Int32), f_X0_seenBy_4 o M n x1 x2 x3 = some r → kx_Rn E T_X0_seenBy (d + 1) (4, [some (.ref o), some (.int x1), some (.int x2), some (.int x3)], [], M) (some (.int r)) M := by
  intro n
  induction n with
  | zero =>
    intro x1 x2 x3 h
    cases (show (none : Option Int32) = some _ from h)
  | succ n ih =>
    intro x1 x2 x3 h
    rw [f_X0_seenBy_4.eq_2] at h
    refine kx_go (pc' := 6) (L' := [some (.ref o), some (.int x1), some (.int x2), some (.int x3)]) (st' := [.ref o, .int x3]) 2 rfl ?_
    refine kx_q_getI (k := 11) ho.1 rfl kfl_X0_62 rfl ?_
    refine kx_r_icmp_ge rfl (fun hc1 => ?_) (fun hc1 => ?_)
    · rw [if_pos hc1] at h
      refine kx_go (pc' := 39) (L' := [some (.ref o), some (.int x1), some (.int x2), some (.int x3)]) (st' := [.int x2]) 1 rfl ?_
      cases h
      exact kx_r_iret rfl rfl
    · rw [if_neg hc1] at h
      refine kx_go (pc' := 14) (L' := [some (.ref o), some (.int x1), some (.int x2), some (.int x3)]) (st' := [.ref o, .int x1]) 2 rfl ?_
      refine kx_q_getR (k := 6) (j := (o + 7)) ho.1 rfl kfl_X0_36 rfl ?_
      refine kx_go (pc' := 18) (L' := [some (.ref o), some (.int x1), some (.int x2), some (.int x3)]) (st' := [.int x3, .ref (o + 7), .int x1]) 1 rfl ?_
      obtain ⟨hi2, h⟩ := kx_ck_some h
      refine kx_q_iald (ho.2.2.2.2.2.2.2) rfl hi2 ?_
      refine kx_go (pc' := 20) (L' := [some (.ref o), some (.int x1), some (.int x2), some (.int x3)]) (st' := [.long ((M.1 (o + 7) (x3).toNatClampNeg)).toInt64, .int x1]) 1 rfl ?_
      refine kx_r_callN (as := [.int x1, .long ((M.1 (o + 7) (x3).toNatClampNeg)).toInt64]) (rest := []) (M1 := M) (rv := some (.int (kx_bi (f_X4_isIn x1 ((M.1 (o + 7) (x3).toNatClampNeg)).toInt64)))) rfl knl_X0_98 kpd_X4_isIn kini_X4 kcd_X4_isIn kst_X4_isIn rfl rfl (Nat.le_of_ble_eq_true rfl) (Nat.le_of_ble_eq_true rfl) (c_X4_isIn (d := d + 0) x1 ((M.1 (o + 7) (x3).toNatClampNeg)).toInt64 M (f_X4_isIn x1 ((M.1 (o + 7) (x3).toNatClampNeg)).toInt64) rfl) ?_
      show kx_Rn _ _ _ (23, [some (.ref o), some (.int x1), some (.int x2), some (.int x3)], [.int (kx_bi (f_X4_isIn x1 ((M.1 (o + 7) (x3).toNatClampNeg)).toInt64))], M) _ _
      refine kx_q_zeq rfl (fun hc3 => ?_) (fun hc3 => ?_)
      · rw [if_neg hc3] at h
        refine kx_go (pc' := 35) (L' := [some (.ref o), some (.int x1), some (.int x2), some (.int (x3 + (1)))]) (st' := []) 1 rfl ?_
        refine kx_r_goto rfl ?_
        refine kx_wk [true, true, true, true] ?_
        exact ih x1 x2 (x3 + (1)) h
      · rw [if_pos hc3] at h
        refine kx_go (pc' := 35) (L' := [some (.ref o), some (.int x1), some (.int (x2 ||| ((1 : Int32) <<< (x3 &&& 31)))), some (.int (x3 + (1)))]) (st' := []) 7 rfl ?_
        refine kx_r_goto rfl ?_
        refine kx_wk [true, true, true, true] ?_
        exact ih x1 (x2 ||| ((1 : Int32) <<< (x3 &&& 31))) (x3 + (1)) h
set_option maxRecDepth 100000 in
set_option maxHeartbeats 4000000 in
theorem t_X0_seenBy {E : kx_E} {d : Nat} {r : Int32} (o : Nat) (ho : kx_land E o) (M : kx_M) (a0 : Int32) (h : f_X0_seenBy o M a0 = some r) : kx_Rn E T_X0_seenBy (d + 1) (0, [some (.ref o), some (.int a0), none, none], [], M) (some (.int r)) M := by
  unfold f_X0_seenBy at h
  refine kx_go (pc' := 4) (L' := [some (.ref o), some (.int a0), some (.int (0 : Int32)), some (.int (0 : Int32))]) (st' := []) 4 rfl ?_
  refine kx_wk [true, true, true, true] ?_
  exact t_X0_seenBy_4 o ho M kx_fuel a0 (0 : Int32) (0 : Int32) h
theorem c_X0_seenBy {E : kx_E} {d : Nat} (o : Nat) (ho : kx_land E o) (a0 : Int32) (M : kx_M) (r : Int32) (h : f_X0_seenBy o M a0 = some r) : kx_Call E (d + 1) T_X0_seenBy [.ref o, .int a0] M (some (.int r)) M := kx_entry kok_X0_seenBy (Nat.le_of_ble_eq_true rfl) rfl (t_X0_seenBy (d := d) o ho M a0 h)
set_option maxRecDepth 100000 in
set_option maxHeartbeats 4000000 in
theorem t_X0_knownBy_4 {E : kx_E} {d : Nat} {r : Int32} (o : Nat) (ho : kx_land E o) (M : kx_M) : ∀ (n : Nat) (x1 : Int32) (x2 : Int32) (x3 : Int32), f_X0_knownBy_4 o M n x1 x2 x3 = some r → kx_Rn E T_X0_knownBy (d + 1) (4, [some (.ref o), some (.int x1), some (.int x2), some (.int x3)], [], M) (some (.int r)) M := by
  intro n
  induction n with
  | zero =>
    intro x1 x2 x3 h
    cases (show (none : Option Int32) = some _ from h)
  | succ n ih =>
    intro x1 x2 x3 h
    rw [f_X0_knownBy_4.eq_2] at h
    refine kx_go (pc' := 6) (L' := [some (.ref o), some (.int x1), some (.int x2), some (.int x3)]) (st' := [.ref o, .int x3]) 2 rfl ?_
    refine kx_q_getI (k := 11) ho.1 rfl kfl_X0_62 rfl ?_
    refine kx_r_icmp_ge rfl (fun hc1 => ?_) (fun hc1 => ?_)
    · rw [if_pos hc1] at h
      refine kx_go (pc' := 37) (L' := [some (.ref o), some (.int x1), some (.int x2), some (.int x3)]) (st' := [.int x2]) 1 rfl ?_
      cases h
      exact kx_r_iret rfl rfl
    · rw [if_neg hc1] at h
      refine kx_go (pc' := 15) (L' := [some (.ref o), some (.int x1), some (.int x2), some (.int x3)]) (st' := [.long (x1).toInt64, .int x3]) 3 rfl ?_
      refine kx_r_callN (as := [.int x3, .long (x1).toInt64]) (rest := []) (M1 := M) (rv := some (.int (kx_bi (f_X4_isIn x3 (x1).toInt64)))) rfl knl_X0_98 kpd_X4_isIn kini_X4 kcd_X4_isIn kst_X4_isIn rfl rfl (Nat.le_of_ble_eq_true rfl) (Nat.le_of_ble_eq_true rfl) (c_X4_isIn (d := d + 0) x3 (x1).toInt64 M (f_X4_isIn x3 (x1).toInt64) rfl) ?_
      show kx_Rn _ _ _ (18, [some (.ref o), some (.int x1), some (.int x2), some (.int x3)], [.int (kx_bi (f_X4_isIn x3 (x1).toInt64))], M) _ _
      refine kx_q_zeq rfl (fun hc2 => ?_) (fun hc2 => ?_)
      · rw [if_neg hc2] at h
        refine kx_go (pc' := 33) (L' := [some (.ref o), some (.int x1), some (.int x2), some (.int (x3 + (1)))]) (st' := []) 1 rfl ?_
        refine kx_r_goto rfl ?_
        refine kx_wk [true, true, true, true] ?_
        exact ih x1 x2 (x3 + (1)) h
      · rw [if_pos hc2] at h
        refine kx_go (pc' := 23) (L' := [some (.ref o), some (.int x1), some (.int x2), some (.int x3)]) (st' := [.ref o, .int x2]) 2 rfl ?_
        refine kx_q_getR (k := 6) (j := (o + 7)) ho.1 rfl kfl_X0_36 rfl ?_
        refine kx_go (pc' := 27) (L' := [some (.ref o), some (.int x1), some (.int x2), some (.int x3)]) (st' := [.int x3, .ref (o + 7), .int x2]) 1 rfl ?_
        obtain ⟨hi3, h⟩ := kx_ck_some h
        refine kx_q_iald (ho.2.2.2.2.2.2.2) rfl hi3 ?_
        refine kx_go (pc' := 33) (L' := [some (.ref o), some (.int x1), some (.int (x2 ||| (M.1 (o + 7) (x3).toNatClampNeg))), some (.int (x3 + (1)))]) (st' := []) 3 rfl ?_
        refine kx_r_goto rfl ?_
        refine kx_wk [true, true, true, true] ?_
        exact ih x1 (x2 ||| (M.1 (o + 7) (x3).toNatClampNeg)) (x3 + (1)) h
set_option maxRecDepth 100000 in
set_option maxHeartbeats 4000000 in
theorem t_X0_knownBy {E : kx_E} {d : Nat} {r : Int32} (o : Nat) (ho : kx_land E o) (M : kx_M) (a0 : Int32) (h : f_X0_knownBy o M a0 = some r) : kx_Rn E T_X0_knownBy (d + 1) (0, [some (.ref o), some (.int a0), none, none], [], M) (some (.int r)) M := by
  unfold f_X0_knownBy at h
  refine kx_go (pc' := 4) (L' := [some (.ref o), some (.int a0), some (.int (0 : Int32)), some (.int (0 : Int32))]) (st' := []) 4 rfl ?_
  refine kx_wk [true, true, true, true] ?_
  exact t_X0_knownBy_4 o ho M kx_fuel a0 (0 : Int32) (0 : Int32) h
theorem c_X0_knownBy {E : kx_E} {d : Nat} (o : Nat) (ho : kx_land E o) (a0 : Int32) (M : kx_M) (r : Int32) (h : f_X0_knownBy o M a0 = some r) : kx_Call E (d + 1) T_X0_knownBy [.ref o, .int a0] M (some (.int r)) M := kx_entry kok_X0_knownBy (Nat.le_of_ble_eq_true rfl) rfl (t_X0_knownBy (d := d) o ho M a0 h)
set_option maxRecDepth 100000 in
set_option maxHeartbeats 4000000 in
theorem t_J6_bitCount_0f7a4 {E : kx_E} {d : Nat} {r : Int32} (M : kx_M) (a0 : Int32) (h : f_J6_bitCount_0f7a4 a0 = r) : kx_Rn E T_J6_bitCount_0f7a4 (d + 0) (0, [some (.int a0)], [], M) (some (.int r)) M := by
  unfold f_J6_bitCount_0f7a4 at h
  refine kx_go (pc' := 4) (L' := [some (.int a0)]) (st' := [.int ((a0).toUInt32 >>> (((1 : Int32)).toUInt32 &&& Int32.toUInt32 31)).toInt32, .int a0]) 4 rfl ?_
  refine kx_r_ldc1 (v := 1431655765) rfl kcs_J6_265 ?_
  refine kx_go (pc' := 11) (L' := [some (.int (a0 - (((a0).toUInt32 >>> (((1 : Int32)).toUInt32 &&& Int32.toUInt32 31)).toInt32 &&& (1431655765 : Int32))))]) (st' := [.int (a0 - (((a0).toUInt32 >>> (((1 : Int32)).toUInt32 &&& Int32.toUInt32 31)).toInt32 &&& (1431655765 : Int32)))]) 4 rfl ?_
  refine kx_r_ldc1 (v := 858993459) rfl kcs_J6_266 ?_
  refine kx_go (pc' := 18) (L' := [some (.int (a0 - (((a0).toUInt32 >>> (((1 : Int32)).toUInt32 &&& Int32.toUInt32 31)).toInt32 &&& (1431655765 : Int32))))]) (st' := [.int (((a0 - (((a0).toUInt32 >>> (((1 : Int32)).toUInt32 &&& Int32.toUInt32 31)).toInt32 &&& (1431655765 : Int32)))).toUInt32 >>> (((2 : Int32)).toUInt32 &&& Int32.toUInt32 31)).toInt32, .int ((a0 - (((a0).toUInt32 >>> (((1 : Int32)).toUInt32 &&& Int32.toUInt32 31)).toInt32 &&& (1431655765 : Int32))) &&& (858993459 : Int32))]) 4 rfl ?_
  refine kx_r_ldc1 (v := 858993459) rfl kcs_J6_266 ?_
  refine kx_go (pc' := 24) (L' := [some (.int (((a0 - (((a0).toUInt32 >>> (((1 : Int32)).toUInt32 &&& Int32.toUInt32 31)).toInt32 &&& (1431655765 : Int32))) &&& (858993459 : Int32)) + ((((a0 - (((a0).toUInt32 >>> (((1 : Int32)).toUInt32 &&& Int32.toUInt32 31)).toInt32 &&& (1431655765 : Int32)))).toUInt32 >>> (((2 : Int32)).toUInt32 &&& Int32.toUInt32 31)).toInt32 &&& (858993459 : Int32))))]) (st' := []) 3 rfl ?_
  obtain ⟨y1, hy1, h⟩ := kx_lt_ex h
  rw [← hy1]
  refine kx_go (pc' := 29) (L' := [some (.int y1)]) (st' := [.int (y1 + ((y1).toUInt32 >>> (((4 : Int32)).toUInt32 &&& Int32.toUInt32 31)).toInt32)]) 5 rfl ?_
  refine kx_r_ldc1 (v := 252645135) rfl kcs_J6_267 ?_
  refine kx_go (pc' := 41) (L' := [some (.int (((y1 + ((y1).toUInt32 >>> (((4 : Int32)).toUInt32 &&& Int32.toUInt32 31)).toInt32) &&& (252645135 : Int32)) + ((((y1 + ((y1).toUInt32 >>> (((4 : Int32)).toUInt32 &&& Int32.toUInt32 31)).toInt32) &&& (252645135 : Int32))).toUInt32 >>> (((8 : Int32)).toUInt32 &&& Int32.toUInt32 31)).toInt32))]) (st' := []) 8 rfl ?_
  obtain ⟨y2, hy2, h⟩ := kx_lt_ex h
  rw [← hy2]
  refine kx_go (pc' := 52) (L' := [some (.int (y2 + ((y2).toUInt32 >>> (((16 : Int32)).toUInt32 &&& Int32.toUInt32 31)).toInt32))]) (st' := [.int ((y2 + ((y2).toUInt32 >>> (((16 : Int32)).toUInt32 &&& Int32.toUInt32 31)).toInt32) &&& (63 : Int32))]) 9 rfl ?_
  subst h
  exact kx_r_iret rfl rfl
theorem c_J6_bitCount_0f7a4 {E : kx_E} {d : Nat} (a0 : Int32) (M : kx_M) (r : Int32) (h : f_J6_bitCount_0f7a4 a0 = r) : kx_Call E (d + 0) T_J6_bitCount_0f7a4 [.int a0] M (some (.int r)) M := kx_entry kok_J6_bitCount_0f7a4 (Nat.le_of_ble_eq_true rfl) rfl (t_J6_bitCount_0f7a4 (d := d) M a0 h)
set_option maxRecDepth 100000 in
set_option maxHeartbeats 4000000 in
theorem t_X0_openByKind {E : kx_E} {d : Nat} {r : Int32} (o : Nat) (ho : kx_land E o) (M : kx_M) (a0 : Int32) (a1 : Int32) (a2 : Int32) (a3 : Int32) (a4 : Bool) (h : f_X0_openByKind o M a0 a1 a2 a3 a4 = some r) : kx_Rn E T_X0_openByKind (d + 1) (0, [some (.ref o), some (.int a0), some (.int a1), some (.int a2), some (.int a3), some (.int (kx_bi a4)), none], [], M) (some (.int r)) M := by
  unfold f_X0_openByKind at h
  refine kx_go (pc' := 8) (L' := [some (.ref o), some (.int a0), some (.int a1), some (.int a2), some (.int a3), some (.int (kx_bi a4)), none]) (st' := [.int (((20 : Int32) - a2) - a3), .int (0 : Int32)]) 6 rfl ?_
  refine kx_q_max rfl kml_X0_102 kst_max kini_math kcd_max (Nat.le_of_ble_eq_true rfl) ?_
  refine kx_go (pc' := 14) (L' := [some (.ref o), some (.int a0), some (.int a1), some (.int a2), some (.int a3), some (.int (kx_bi a4)), some (.int (if (0 : Int32) < (((20 : Int32) - a2) - a3) then (((20 : Int32) - a2) - a3) else (0 : Int32)))]) (st' := [.int a1]) 2 rfl ?_
  by_cases hc1 : a1 = (1 : Int32)
  · rw [if_pos hc1] at h
    refine kx_q_tsI (1 : Int32) (tgt := 48) (show decode T_X0_openByKind.2.1 14 = .ok (.tableswitch 99 1 5 #[34, 58, 39, 68, 89], 34) from by decide +kernel) hc1 (by decide) (by decide) rfl (by decide) ?_
    refine kx_go (pc' := 51) (L' := [some (.ref o), some (.int a0), some (.int a1), some (.int a2), some (.int a3), some (.int (kx_bi a4)), some (.int (if (0 : Int32) < (((20 : Int32) - a2) - a3) then (((20 : Int32) - a2) - a3) else (0 : Int32)))]) (st' := [.int (2 : Int32), .int (if (0 : Int32) < (((20 : Int32) - a2) - a3) then (((20 : Int32) - a2) - a3) else (0 : Int32))]) 2 rfl ?_
    refine kx_r_idiv rfl (by decide) ?_
    cases h
    exact kx_r_iret rfl rfl
  · rw [if_neg hc1] at h
    by_cases hc2 : a1 = (2 : Int32)
    · rw [if_pos hc2] at h
      refine kx_q_tsI (2 : Int32) (tgt := 72) (show decode T_X0_openByKind.2.1 14 = .ok (.tableswitch 99 1 5 #[34, 58, 39, 68, 89], 34) from by decide +kernel) hc2 (by decide) (by decide) rfl (by decide) ?_
      refine kx_go (pc' := 75) (L' := [some (.ref o), some (.int a0), some (.int a1), some (.int a2), some (.int a3), some (.int (kx_bi a4)), some (.int (if (0 : Int32) < (((20 : Int32) - a2) - a3) then (((20 : Int32) - a2) - a3) else (0 : Int32)))]) (st' := [.ref o, .int (if (0 : Int32) < (((20 : Int32) - a2) - a3) then (((20 : Int32) - a2) - a3) else (0 : Int32))]) 2 rfl ?_
      refine kx_q_getR (k := 4) (j := (o + 5)) ho.1 rfl kfl_X0_30 rfl ?_
      refine kx_go (pc' := 79) (L' := [some (.ref o), some (.int a0), some (.int a1), some (.int a2), some (.int a3), some (.int (kx_bi a4)), some (.int (if (0 : Int32) < (((20 : Int32) - a2) - a3) then (((20 : Int32) - a2) - a3) else (0 : Int32)))]) (st' := [.int a0, .ref (o + 5), .int (if (0 : Int32) < (((20 : Int32) - a2) - a3) then (((20 : Int32) - a2) - a3) else (0 : Int32))]) 1 rfl ?_
      obtain ⟨hi3, h⟩ := kx_ck_some h
      refine kx_q_iald (ho.2.2.2.2.2.1) rfl hi3 ?_
      refine kx_go (pc' := 81) (L' := [some (.ref o), some (.int a0), some (.int a1), some (.int a2), some (.int a3), some (.int (kx_bi a4)), some (.int (if (0 : Int32) < (((20 : Int32) - a2) - a3) then (((20 : Int32) - a2) - a3) else (0 : Int32)))]) (st' := [.int ((if (0 : Int32) < (((20 : Int32) - a2) - a3) then (((20 : Int32) - a2) - a3) else (0 : Int32)) + (M.1 (o + 5) (a0).toNatClampNeg))]) 1 rfl ?_
      cases h
      exact kx_r_iret rfl rfl
    · rw [if_neg hc2] at h
      by_cases hc4 : a1 = (3 : Int32)
      · rw [if_pos hc4] at h
        refine kx_q_tsI (3 : Int32) (tgt := 53) (show decode T_X0_openByKind.2.1 14 = .ok (.tableswitch 99 1 5 #[34, 58, 39, 68, 89], 34) from by decide +kernel) hc4 (by decide) (by decide) rfl (by decide) ?_
        refine kx_go (pc' := 57) (L' := [some (.ref o), some (.int a0), some (.int a1), some (.int a2), some (.int a3), some (.int (kx_bi a4)), some (.int (if (0 : Int32) < (((20 : Int32) - a2) - a3) then (((20 : Int32) - a2) - a3) else (0 : Int32)))]) (st' := [.int (2 : Int32), .int (if (0 : Int32) < (((20 : Int32) - a2) - a3) then (((20 : Int32) - a2) - a3) else (0 : Int32)), .int (0 : Int32)]) 3 rfl ?_
        refine kx_r_idiv rfl (by decide) ?_
        refine kx_go (pc' := 59) (L' := [some (.ref o), some (.int a0), some (.int a1), some (.int a2), some (.int a3), some (.int (kx_bi a4)), some (.int (if (0 : Int32) < (((20 : Int32) - a2) - a3) then (((20 : Int32) - a2) - a3) else (0 : Int32)))]) (st' := [.ref o, .int ((if (0 : Int32) < (((20 : Int32) - a2) - a3) then (((20 : Int32) - a2) - a3) else (0 : Int32)) / (2 : Int32)), .int (0 : Int32)]) 1 rfl ?_
        refine kx_q_getR (k := 6) (j := (o + 7)) ho.1 rfl kfl_X0_36 rfl ?_
        refine kx_go (pc' := 63) (L' := [some (.ref o), some (.int a0), some (.int a1), some (.int a2), some (.int a3), some (.int (kx_bi a4)), some (.int (if (0 : Int32) < (((20 : Int32) - a2) - a3) then (((20 : Int32) - a2) - a3) else (0 : Int32)))]) (st' := [.int a0, .ref (o + 7), .int ((if (0 : Int32) < (((20 : Int32) - a2) - a3) then (((20 : Int32) - a2) - a3) else (0 : Int32)) / (2 : Int32)), .int (0 : Int32)]) 1 rfl ?_
        obtain ⟨hi5, h⟩ := kx_ck_some h
        refine kx_q_iald (ho.2.2.2.2.2.2.2) rfl hi5 ?_
        refine kx_r_callS (as := [.int (M.1 (o + 7) (a0).toNatClampNeg)]) (rest := [.int ((if (0 : Int32) < (((20 : Int32) - a2) - a3) then (((20 : Int32) - a2) - a3) else (0 : Int32)) / (2 : Int32)), .int (0 : Int32)]) (M1 := M) (rv := some (.int (f_J6_bitCount_0f7a4 (M.1 (o + 7) (a0).toNatClampNeg)))) rfl klk_X0_105 kst_J6_bitCount_0f7a4 rfl rfl (Nat.le_of_ble_eq_true rfl) (Nat.le_of_ble_eq_true rfl) (c_J6_bitCount_0f7a4 (d := d + 0) (M.1 (o + 7) (a0).toNatClampNeg) M (f_J6_bitCount_0f7a4 (M.1 (o + 7) (a0).toNatClampNeg)) rfl) ?_
        show kx_Rn _ _ _ (67, [some (.ref o), some (.int a0), some (.int a1), some (.int a2), some (.int a3), some (.int (kx_bi a4)), some (.int (if (0 : Int32) < (((20 : Int32) - a2) - a3) then (((20 : Int32) - a2) - a3) else (0 : Int32)))], [.int (f_J6_bitCount_0f7a4 (M.1 (o + 7) (a0).toNatClampNeg)), .int ((if (0 : Int32) < (((20 : Int32) - a2) - a3) then (((20 : Int32) - a2) - a3) else (0 : Int32)) / (2 : Int32)), .int (0 : Int32)], M) _ _
        refine kx_go (pc' := 68) (L' := [some (.ref o), some (.int a0), some (.int a1), some (.int a2), some (.int a3), some (.int (kx_bi a4)), some (.int (if (0 : Int32) < (((20 : Int32) - a2) - a3) then (((20 : Int32) - a2) - a3) else (0 : Int32)))]) (st' := [.int (((if (0 : Int32) < (((20 : Int32) - a2) - a3) then (((20 : Int32) - a2) - a3) else (0 : Int32)) / (2 : Int32)) - (f_J6_bitCount_0f7a4 (M.1 (o + 7) (a0).toNatClampNeg))), .int (0 : Int32)]) 1 rfl ?_
        refine kx_q_max rfl kml_X0_102 kst_max kini_math kcd_max (Nat.le_of_ble_eq_true rfl) ?_
        cases h
        exact kx_r_iret rfl rfl
      · rw [if_neg hc4] at h
        by_cases hc6 : a1 = (4 : Int32)
        · rw [if_pos hc6] at h
          refine kx_q_tsI (4 : Int32) (tgt := 82) (show decode T_X0_openByKind.2.1 14 = .ok (.tableswitch 99 1 5 #[34, 58, 39, 68, 89], 34) from by decide +kernel) hc6 (by decide) (by decide) rfl (by decide) ?_
          refine kx_go (pc' := 85) (L' := [some (.ref o), some (.int a0), some (.int a1), some (.int a2), some (.int a3), some (.int (kx_bi a4)), some (.int (if (0 : Int32) < (((20 : Int32) - a2) - a3) then (((20 : Int32) - a2) - a3) else (0 : Int32)))]) (st' := [.ref o, .int (if (0 : Int32) < (((20 : Int32) - a2) - a3) then (((20 : Int32) - a2) - a3) else (0 : Int32))]) 2 rfl ?_
          refine kx_q_getR (k := 4) (j := (o + 5)) ho.1 rfl kfl_X0_30 rfl ?_
          refine kx_go (pc' := 89) (L' := [some (.ref o), some (.int a0), some (.int a1), some (.int a2), some (.int a3), some (.int (kx_bi a4)), some (.int (if (0 : Int32) < (((20 : Int32) - a2) - a3) then (((20 : Int32) - a2) - a3) else (0 : Int32)))]) (st' := [.int a0, .ref (o + 5), .int (if (0 : Int32) < (((20 : Int32) - a2) - a3) then (((20 : Int32) - a2) - a3) else (0 : Int32))]) 1 rfl ?_
          obtain ⟨hi7, h⟩ := kx_ck_some h
          refine kx_q_iald (ho.2.2.2.2.2.1) rfl hi7 ?_
          refine kx_go (pc' := 93) (L' := [some (.ref o), some (.int a0), some (.int a1), some (.int a2), some (.int a3), some (.int (kx_bi a4)), some (.int (if (0 : Int32) < (((20 : Int32) - a2) - a3) then (((20 : Int32) - a2) - a3) else (0 : Int32)))]) (st' := [.int (kx_bi a4), .int ((if (0 : Int32) < (((20 : Int32) - a2) - a3) then (((20 : Int32) - a2) - a3) else (0 : Int32)) + (M.1 (o + 5) (a0).toNatClampNeg))]) 2 rfl ?_
          refine kx_q_zeq rfl (fun hc8 => ?_) (fun hc8 => ?_)
          · rw [if_neg hc8] at h
            refine kx_go (pc' := 102) (L' := [some (.ref o), some (.int a0), some (.int a1), some (.int a2), some (.int a3), some (.int (kx_bi a4)), some (.int (if (0 : Int32) < (((20 : Int32) - a2) - a3) then (((20 : Int32) - a2) - a3) else (0 : Int32)))]) (st' := [.int (((if (0 : Int32) < (((20 : Int32) - a2) - a3) then (((20 : Int32) - a2) - a3) else (0 : Int32)) + (M.1 (o + 5) (a0).toNatClampNeg)) + (5 : Int32))]) 2 rfl ?_
            cases h
            exact kx_r_iret rfl rfl
          · rw [if_pos hc8] at h
            refine kx_go (pc' := 97) (L' := [some (.ref o), some (.int a0), some (.int a1), some (.int a2), some (.int a3), some (.int (kx_bi a4)), some (.int (if (0 : Int32) < (((20 : Int32) - a2) - a3) then (((20 : Int32) - a2) - a3) else (0 : Int32)))]) (st' := [.int (0 : Int32), .int ((if (0 : Int32) < (((20 : Int32) - a2) - a3) then (((20 : Int32) - a2) - a3) else (0 : Int32)) + (M.1 (o + 5) (a0).toNatClampNeg))]) 1 rfl ?_
            refine kx_r_goto rfl ?_
            refine kx_go (pc' := 102) (L' := [some (.ref o), some (.int a0), some (.int a1), some (.int a2), some (.int a3), some (.int (kx_bi a4)), some (.int (if (0 : Int32) < (((20 : Int32) - a2) - a3) then (((20 : Int32) - a2) - a3) else (0 : Int32)))]) (st' := [.int (((if (0 : Int32) < (((20 : Int32) - a2) - a3) then (((20 : Int32) - a2) - a3) else (0 : Int32)) + (M.1 (o + 5) (a0).toNatClampNeg)) + (0 : Int32))]) 1 rfl ?_
            cases h
            exact kx_r_iret rfl rfl
        · rw [if_neg hc6] at h
          by_cases hc9 : a1 = (5 : Int32)
          · rw [if_pos hc9] at h
            refine kx_q_tsI (5 : Int32) (tgt := 103) (show decode T_X0_openByKind.2.1 14 = .ok (.tableswitch 99 1 5 #[34, 58, 39, 68, 89], 34) from by decide +kernel) hc9 (by decide) (by decide) rfl (by decide) ?_
            refine kx_go (pc' := 109) (L' := [some (.ref o), some (.int a0), some (.int a1), some (.int a2), some (.int a3), some (.int (kx_bi a4)), some (.int (if (0 : Int32) < (((20 : Int32) - a2) - a3) then (((20 : Int32) - a2) - a3) else (0 : Int32)))]) (st' := [.int ((20 : Int32) - a3), .int (0 : Int32)]) 4 rfl ?_
            refine kx_q_max rfl kml_X0_102 kst_max kini_math kcd_max (Nat.le_of_ble_eq_true rfl) ?_
            cases h
            exact kx_r_iret rfl rfl
          · rw [if_neg hc9] at h
            have ghc1 : ¬ (a1).toInt = 1 := fun q => hc1 (Int32.toInt_inj.mp (q.trans (by decide)))
            have ghc2 : ¬ (a1).toInt = 2 := fun q => hc2 (Int32.toInt_inj.mp (q.trans (by decide)))
            have ghc4 : ¬ (a1).toInt = 3 := fun q => hc4 (Int32.toInt_inj.mp (q.trans (by decide)))
            have ghc6 : ¬ (a1).toInt = 4 := fun q => hc6 (Int32.toInt_inj.mp (q.trans (by decide)))
            have ghc9 : ¬ (a1).toInt = 5 := fun q => hc9 (Int32.toInt_inj.mp (q.trans (by decide)))
            refine kx_q_tsO (tgt := 113) (show decode T_X0_openByKind.2.1 14 = .ok (.tableswitch 99 1 5 #[34, 58, 39, 68, 89], 34) from by decide +kernel) (by omega) (by decide) ?_
            refine kx_go (pc' := 115) (L' := [some (.ref o), some (.int a0), some (.int a1), some (.int a2), some (.int a3), some (.int (kx_bi a4)), some (.int (if (0 : Int32) < (((20 : Int32) - a2) - a3) then (((20 : Int32) - a2) - a3) else (0 : Int32)))]) (st' := [.int (if (0 : Int32) < (((20 : Int32) - a2) - a3) then (((20 : Int32) - a2) - a3) else (0 : Int32))]) 1 rfl ?_
            cases h
            exact kx_r_iret rfl rfl
theorem c_X0_openByKind {E : kx_E} {d : Nat} (o : Nat) (ho : kx_land E o) (a0 : Int32) (a1 : Int32) (a2 : Int32) (a3 : Int32) (a4 : Bool) (M : kx_M) (r : Int32) (h : f_X0_openByKind o M a0 a1 a2 a3 a4 = some r) : kx_Call E (d + 1) T_X0_openByKind [.ref o, .int a0, .int a1, .int a2, .int a3, .int (kx_bi a4)] M (some (.int r)) M := kx_entry kok_X0_openByKind (Nat.le_of_ble_eq_true rfl) rfl (t_X0_openByKind (d := d) o ho M a0 a1 a2 a3 a4 h)
set_option maxRecDepth 100000 in
set_option maxHeartbeats 4000000 in
theorem t_X4_levelOf {E : kx_E} {d : Nat} {r : Int32} (M : kx_M) (a0 : Int32) (h : f_X4_levelOf a0 = r) : kx_Rn E T_X4_levelOf (d + 1) (0, [some (.int a0)], [], M) (some (.int r)) M := by
  unfold f_X4_levelOf at h
  refine kx_go (pc' := 4) (L' := [some (.int a0)]) (st' := [.int a0, .int (20 : Int32), .int (0 : Int32)]) 3 rfl ?_
  refine kx_q_min rfl kml_X4_249 kst_min kini_math kcd_min (Nat.le_of_ble_eq_true rfl) ?_
  refine kx_q_max rfl kml_X4_254 kst_max kini_math kcd_max (Nat.le_of_ble_eq_true rfl) ?_
  subst h
  exact kx_r_iret rfl rfl
theorem c_X4_levelOf {E : kx_E} {d : Nat} (a0 : Int32) (M : kx_M) (r : Int32) (h : f_X4_levelOf a0 = r) : kx_Call E (d + 1) T_X4_levelOf [.int a0] M (some (.int r)) M := kx_entry kok_X4_levelOf (Nat.le_of_ble_eq_true rfl) rfl (t_X4_levelOf (d := d) M a0 h)
set_option maxRecDepth 100000 in
set_option maxHeartbeats 4000000 in
theorem t_X0_openTo_34 {E : kx_E} {d : Nat} {r : Int32} (o : Nat) (ho : kx_land E o) (M : kx_M) (x4 : Int32) (s0 : Bool) (s1 : Int32) (s2 : Int32) (s3 : Int32) (s4 : Int32) (h : f_X0_openTo_34 o M x4 s0 s1 s2 s3 s4 = some r) : kx_Rn E T_X0_openTo (d + 2) (34, [some (.ref o), none, none, none, some (.int x4), none], [.int (kx_bi s0), .int s1, .int s2, .int s3, .int s4, .ref o], M) (some (.int r)) M := by
  unfold f_X0_openTo_34 at h
  obtain ⟨v1, hv2, h⟩ := kx_bn_some h
  refine kx_q_callV (as := [.int s4, .int s3, .int s2, .int s1, .int (kx_bi s0)]) (rest := []) (M1 := M) (rv := some (.int v1)) ho.1 rfl klk_X0_111 kse_X0_openByKind rfl rfl rfl rfl (Nat.le_of_ble_eq_true rfl) (Nat.le_of_ble_eq_true rfl) (c_X0_openByKind (d := d + 0) o (ho) s4 s3 s2 s1 s0 M v1 hv2) ?_
  show kx_Rn _ _ _ (37, [some (.ref o), none, none, none, some (.int x4), none], [.int v1], M) _ _
  refine kx_go (pc' := 41) (L' := [some (.ref o), none, none, none, some (.int x4), none]) (st' := [.ref o, .int x4, .int (2 : Int32), .int v1]) 3 rfl ?_
  refine kx_q_getI (k := 12) ho.1 rfl kfl_X0_65 rfl ?_
  refine kx_go (pc' := 45) (L' := [some (.ref o), none, none, none, some (.int x4), none]) (st' := [.int (x4 &&& (M.1 o 12)), .int (2 : Int32), .int v1]) 1 rfl ?_
  refine kx_r_callS (as := [.int (x4 &&& (M.1 o 12))]) (rest := [.int (2 : Int32), .int v1]) (M1 := M) (rv := some (.int (f_J6_bitCount_0f7a4 (x4 &&& (M.1 o 12))))) rfl klk_X0_105 kst_J6_bitCount_0f7a4 rfl rfl (Nat.le_of_ble_eq_true rfl) (Nat.le_of_ble_eq_true rfl) (c_J6_bitCount_0f7a4 (d := d + 1) (x4 &&& (M.1 o 12)) M (f_J6_bitCount_0f7a4 (x4 &&& (M.1 o 12))) rfl) ?_
  show kx_Rn _ _ _ (48, [some (.ref o), none, none, none, some (.int x4), none], [.int (f_J6_bitCount_0f7a4 (x4 &&& (M.1 o 12))), .int (2 : Int32), .int v1], M) _ _
  refine kx_go (pc' := 53) (L' := [some (.ref o), none, none, none, some (.int x4), none]) (st' := [.ref o, .int x4, .int (v1 - ((2 : Int32) * (f_J6_bitCount_0f7a4 (x4 &&& (M.1 o 12)))))]) 4 rfl ?_
  refine kx_q_getI (k := 13) ho.1 rfl kfl_X0_68 rfl ?_
  refine kx_go (pc' := 57) (L' := [some (.ref o), none, none, none, some (.int x4), none]) (st' := [.int (x4 &&& (M.1 o 13)), .int (v1 - ((2 : Int32) * (f_J6_bitCount_0f7a4 (x4 &&& (M.1 o 12)))))]) 1 rfl ?_
  refine kx_r_callS (as := [.int (x4 &&& (M.1 o 13))]) (rest := [.int (v1 - ((2 : Int32) * (f_J6_bitCount_0f7a4 (x4 &&& (M.1 o 12)))))]) (M1 := M) (rv := some (.int (f_J6_bitCount_0f7a4 (x4 &&& (M.1 o 13))))) rfl klk_X0_105 kst_J6_bitCount_0f7a4 rfl rfl (Nat.le_of_ble_eq_true rfl) (Nat.le_of_ble_eq_true rfl) (c_J6_bitCount_0f7a4 (d := d + 1) (x4 &&& (M.1 o 13)) M (f_J6_bitCount_0f7a4 (x4 &&& (M.1 o 13))) rfl) ?_
  show kx_Rn _ _ _ (60, [some (.ref o), none, none, none, some (.int x4), none], [.int (f_J6_bitCount_0f7a4 (x4 &&& (M.1 o 13))), .int (v1 - ((2 : Int32) * (f_J6_bitCount_0f7a4 (x4 &&& (M.1 o 12)))))], M) _ _
  refine kx_go (pc' := 65) (L' := [some (.ref o), none, none, none, some (.int x4), some (.int ((v1 - ((2 : Int32) * (f_J6_bitCount_0f7a4 (x4 &&& (M.1 o 12))))) + (f_J6_bitCount_0f7a4 (x4 &&& (M.1 o 13)))))]) (st' := [.int ((v1 - ((2 : Int32) * (f_J6_bitCount_0f7a4 (x4 &&& (M.1 o 12))))) + (f_J6_bitCount_0f7a4 (x4 &&& (M.1 o 13))))]) 3 rfl ?_
  refine kx_r_callN (as := [.int ((v1 - ((2 : Int32) * (f_J6_bitCount_0f7a4 (x4 &&& (M.1 o 12))))) + (f_J6_bitCount_0f7a4 (x4 &&& (M.1 o 13))))]) (rest := []) (M1 := M) (rv := some (.int (f_X4_levelOf ((v1 - ((2 : Int32) * (f_J6_bitCount_0f7a4 (x4 &&& (M.1 o 12))))) + (f_J6_bitCount_0f7a4 (x4 &&& (M.1 o 13))))))) rfl knl_X0_115 kpd_X4_levelOf kini_X4 kcd_X4_levelOf kst_X4_levelOf rfl rfl (Nat.le_of_ble_eq_true rfl) (Nat.le_of_ble_eq_true rfl) (c_X4_levelOf (d := d + 0) ((v1 - ((2 : Int32) * (f_J6_bitCount_0f7a4 (x4 &&& (M.1 o 12))))) + (f_J6_bitCount_0f7a4 (x4 &&& (M.1 o 13)))) M (f_X4_levelOf ((v1 - ((2 : Int32) * (f_J6_bitCount_0f7a4 (x4 &&& (M.1 o 12))))) + (f_J6_bitCount_0f7a4 (x4 &&& (M.1 o 13))))) rfl) ?_
  show kx_Rn _ _ _ (68, [some (.ref o), none, none, none, some (.int x4), some (.int ((v1 - ((2 : Int32) * (f_J6_bitCount_0f7a4 (x4 &&& (M.1 o 12))))) + (f_J6_bitCount_0f7a4 (x4 &&& (M.1 o 13)))))], [.int (f_X4_levelOf ((v1 - ((2 : Int32) * (f_J6_bitCount_0f7a4 (x4 &&& (M.1 o 12))))) + (f_J6_bitCount_0f7a4 (x4 &&& (M.1 o 13)))))], M) _ _
  cases h
  exact kx_r_iret rfl rfl
set_option maxRecDepth 100000 in
set_option maxHeartbeats 4000000 in
theorem t_X0_openTo {E : kx_E} {d : Nat} {r : Int32} (o : Nat) (ho : kx_land E o) (M : kx_M) (a0 : Int32) (a1 : Int32) (a2 : Int32) (h : f_X0_openTo o M a0 a1 a2 = some r) : kx_Rn E T_X0_openTo (d + 2) (0, [some (.ref o), some (.int a0), some (.int a1), some (.int a2), none, none], [], M) (some (.int r)) M := by
  unfold f_X0_openTo at h
  refine kx_go (pc' := 12) (L' := [some (.ref o), some (.int a0), some (.int a1), some (.int a2), some (.int (a1 &&& (((1 : Int32) <<< (a0 &&& 31)) ^^^ (-1 : Int32)))), none]) (st' := [.ref o, .int a0, .ref o]) 11 rfl ?_
  refine kx_q_getR (k := 3) (j := (o + 4)) ho.1 rfl kfl_X0_27 rfl ?_
  refine kx_go (pc' := 16) (L' := [some (.ref o), some (.int a0), some (.int a1), some (.int a2), some (.int (a1 &&& (((1 : Int32) <<< (a0 &&& 31)) ^^^ (-1 : Int32)))), none]) (st' := [.int a0, .ref (o + 4), .int a0, .ref o]) 1 rfl ?_
  obtain ⟨hi1, h⟩ := kx_ck_some h
  refine kx_q_iald (ho.2.2.2.2.1) rfl hi1 ?_
  refine kx_go (pc' := 18) (L' := [some (.ref o), some (.int a0), some (.int a1), some (.int a2), some (.int (a1 &&& (((1 : Int32) <<< (a0 &&& 31)) ^^^ (-1 : Int32)))), none]) (st' := [.ref o, .int (M.1 (o + 4) (a0).toNatClampNeg), .int a0, .ref o]) 1 rfl ?_
  refine kx_q_getR (k := 5) (j := (o + 6)) ho.1 rfl kfl_X0_33 rfl ?_
  refine kx_go (pc' := 22) (L' := [some (.ref o), some (.int a0), some (.int a1), some (.int a2), some (.int (a1 &&& (((1 : Int32) <<< (a0 &&& 31)) ^^^ (-1 : Int32)))), none]) (st' := [.int a0, .ref (o + 6), .int (M.1 (o + 4) (a0).toNatClampNeg), .int a0, .ref o]) 1 rfl ?_
  obtain ⟨hi2, h⟩ := kx_ck_some h
  refine kx_q_iald (ho.2.2.2.2.2.2.1) rfl hi2 ?_
  refine kx_go (pc' := 26) (L' := [some (.ref o), some (.int a0), some (.int a1), some (.int a2), some (.int (a1 &&& (((1 : Int32) <<< (a0 &&& 31)) ^^^ (-1 : Int32)))), none]) (st' := [.int (a1 &&& (((1 : Int32) <<< (a0 &&& 31)) ^^^ (-1 : Int32))), .int a2, .int (M.1 (o + 6) (a0).toNatClampNeg), .int (M.1 (o + 4) (a0).toNatClampNeg), .int a0, .ref o]) 2 rfl ?_
  refine kx_r_if_ne rfl (fun hc3 => ?_) (fun hc3 => ?_)
  · rw [if_neg hc3] at h
    refine kx_go (pc' := 34) (L' := [some (.ref o), some (.int a0), some (.int a1), some (.int a2), some (.int (a1 &&& (((1 : Int32) <<< (a0 &&& 31)) ^^^ (-1 : Int32)))), none]) (st' := [.int (0 : Int32), .int a2, .int (M.1 (o + 6) (a0).toNatClampNeg), .int (M.1 (o + 4) (a0).toNatClampNeg), .int a0, .ref o]) 1 rfl ?_
    refine kx_wk [true, false, false, false, true, false] ?_
    exact t_X0_openTo_34 o ho M (a1 &&& (((1 : Int32) <<< (a0 &&& 31)) ^^^ (-1 : Int32))) false a2 (M.1 (o + 6) (a0).toNatClampNeg) (M.1 (o + 4) (a0).toNatClampNeg) a0 h
  · rw [if_pos hc3] at h
    refine kx_go (pc' := 30) (L' := [some (.ref o), some (.int a0), some (.int a1), some (.int a2), some (.int (a1 &&& (((1 : Int32) <<< (a0 &&& 31)) ^^^ (-1 : Int32)))), none]) (st' := [.int (1 : Int32), .int a2, .int (M.1 (o + 6) (a0).toNatClampNeg), .int (M.1 (o + 4) (a0).toNatClampNeg), .int a0, .ref o]) 1 rfl ?_
    refine kx_r_goto rfl ?_
    refine kx_wk [true, false, false, false, true, false] ?_
    exact t_X0_openTo_34 o ho M (a1 &&& (((1 : Int32) <<< (a0 &&& 31)) ^^^ (-1 : Int32))) true a2 (M.1 (o + 6) (a0).toNatClampNeg) (M.1 (o + 4) (a0).toNatClampNeg) a0 h
theorem c_X0_openTo {E : kx_E} {d : Nat} (o : Nat) (ho : kx_land E o) (a0 : Int32) (a1 : Int32) (a2 : Int32) (M : kx_M) (r : Int32) (h : f_X0_openTo o M a0 a1 a2 = some r) : kx_Call E (d + 2) T_X0_openTo [.ref o, .int a0, .int a1, .int a2] M (some (.int r)) M := kx_entry kok_X0_openTo (Nat.le_of_ble_eq_true rfl) rfl (t_X0_openTo (d := d) o ho M a0 a1 a2 h)
set_option maxRecDepth 100000 in
set_option maxHeartbeats 4000000 in
theorem t_X0_shownTo {E : kx_E} {d : Nat} {r : Int32} (o : Nat) (ho : kx_land E o) (M : kx_M) (a0 : Int32) (a1 : Int32) (a2 : Int32) (h : f_X0_shownTo o M a0 a1 a2 = some r) : kx_Rn E T_X0_shownTo (d + 3) (0, [some (.ref o), some (.int a0), some (.int a1), some (.int a2)], [], M) (some (.int r)) M := by
  unfold f_X0_shownTo at h
  refine kx_go (pc' := 1) (L' := [some (.ref o), some (.int a0), some (.int a1), some (.int a2)]) (st' := [.ref o]) 1 rfl ?_
  refine kx_q_getR (k := 2) (j := (o + 3)) ho.1 rfl kfl_X0_24 rfl ?_
  refine kx_go (pc' := 8) (L' := [some (.ref o), some (.int a0), some (.int a1), some (.int a2)]) (st' := [.int a2, .int a1, .int a0, .ref o, .ref (o + 3)]) 4 rfl ?_
  obtain ⟨v1, hv2, h⟩ := kx_bn_some h
  refine kx_q_callV (as := [.int a0, .int a1, .int a2]) (rest := [.ref (o + 3)]) (M1 := M) (rv := some (.int v1)) ho.1 rfl klk_X0_118 kse_X0_openTo rfl rfl rfl rfl (Nat.le_of_ble_eq_true rfl) (Nat.le_of_ble_eq_true rfl) (c_X0_openTo (d := d + 0) o (ho) a0 a1 a2 M v1 hv2) ?_
  show kx_Rn _ _ _ (11, [some (.ref o), some (.int a0), some (.int a1), some (.int a2)], [.int v1, .ref (o + 3)], M) _ _
  obtain ⟨hi3, h⟩ := kx_ck_some h
  refine kx_q_iald (ho.2.2.2.1) rfl hi3 ?_
  cases h
  exact kx_r_iret rfl rfl
theorem c_X0_shownTo {E : kx_E} {d : Nat} (o : Nat) (ho : kx_land E o) (a0 : Int32) (a1 : Int32) (a2 : Int32) (M : kx_M) (r : Int32) (h : f_X0_shownTo o M a0 a1 a2 = some r) : kx_Call E (d + 3) T_X0_shownTo [.ref o, .int a0, .int a1, .int a2] M (some (.int r)) M := kx_entry kok_X0_shownTo (Nat.le_of_ble_eq_true rfl) rfl (t_X0_shownTo (d := d) o ho M a0 a1 a2 h)
set_option maxRecDepth 100000 in
set_option maxHeartbeats 4000000 in
theorem t_X0_shownAlone {E : kx_E} {d : Nat} {r : Int32} (o : Nat) (ho : kx_land E o) (M : kx_M) (a0 : Int32) (a1 : Int32) (h : f_X0_shownAlone o M a0 a1 = some r) : kx_Rn E T_X0_shownAlone (d + 4) (0, [some (.ref o), some (.int a0), some (.int a1)], [], M) (some (.int r)) M := by
  unfold f_X0_shownAlone at h
  refine kx_go (pc' := 6) (L' := [some (.ref o), some (.int a0), some (.int a1)]) (st' := [.int a1, .int ((1 : Int32) <<< (a0 &&& 31)), .int a0, .ref o]) 6 rfl ?_
  obtain ⟨v1, hv2, h⟩ := kx_bn_some h
  refine kx_q_callV (as := [.int a0, .int ((1 : Int32) <<< (a0 &&& 31)), .int a1]) (rest := []) (M1 := M) (rv := some (.int v1)) ho.1 rfl klk_X0_122 kse_X0_shownTo rfl rfl rfl rfl (Nat.le_of_ble_eq_true rfl) (Nat.le_of_ble_eq_true rfl) (c_X0_shownTo (d := d + 0) o (ho) a0 ((1 : Int32) <<< (a0 &&& 31)) a1 M v1 hv2) ?_
  show kx_Rn _ _ _ (9, [some (.ref o), some (.int a0), some (.int a1)], [.int v1], M) _ _
  cases h
  exact kx_r_iret rfl rfl
theorem c_X0_shownAlone {E : kx_E} {d : Nat} (o : Nat) (ho : kx_land E o) (a0 : Int32) (a1 : Int32) (M : kx_M) (r : Int32) (h : f_X0_shownAlone o M a0 a1 = some r) : kx_Call E (d + 4) T_X0_shownAlone [.ref o, .int a0, .int a1] M (some (.int r)) M := kx_entry kok_X0_shownAlone (Nat.le_of_ble_eq_true rfl) rfl (t_X0_shownAlone (d := d) o ho M a0 a1 h)
set_option maxRecDepth 100000 in
set_option maxHeartbeats 4000000 in
theorem t_X0_shownIf {E : kx_E} {d : Nat} {r : Int32} (o : Nat) (ho : kx_land E o) (M : kx_M) (a0 : Int32) (a1 : Int32) (a2 : Int32) (a3 : Int32) (h : f_X0_shownIf o M a0 a1 a2 a3 = some r) : kx_Rn E T_X0_shownIf (d + 2) (0, [some (.ref o), some (.int a0), some (.int a1), some (.int a2), some (.int a3)], [], M) (some (.int r)) M := by
  unfold f_X0_shownIf at h
  refine kx_go (pc' := 1) (L' := [some (.ref o), some (.int a0), some (.int a1), some (.int a2), some (.int a3)]) (st' := [.ref o]) 1 rfl ?_
  refine kx_q_getR (k := 2) (j := (o + 3)) ho.1 rfl kfl_X0_24 rfl ?_
  refine kx_go (pc' := 11) (L' := [some (.ref o), some (.int a0), some (.int a1), some (.int a2), some (.int a3)]) (st' := [.int (1 : Int32), .int a3, .int a2, .int a1, .int a0, .ref o, .ref (o + 3)]) 6 rfl ?_
  obtain ⟨v1, hv2, h⟩ := kx_bn_some h
  refine kx_q_callV (as := [.int a0, .int a1, .int a2, .int a3, .int (kx_bi true)]) (rest := [.ref (o + 3)]) (M1 := M) (rv := some (.int v1)) ho.1 rfl klk_X0_111 kse_X0_openByKind rfl rfl rfl rfl (Nat.le_of_ble_eq_true rfl) (Nat.le_of_ble_eq_true rfl) (c_X0_openByKind (d := d + 0) o (ho) a0 a1 a2 a3 true M v1 hv2) ?_
  show kx_Rn _ _ _ (14, [some (.ref o), some (.int a0), some (.int a1), some (.int a2), some (.int a3)], [.int v1, .ref (o + 3)], M) _ _
  refine kx_r_callN (as := [.int v1]) (rest := [.ref (o + 3)]) (M1 := M) (rv := some (.int (f_X4_levelOf v1))) rfl knl_X0_115 kpd_X4_levelOf kini_X4 kcd_X4_levelOf kst_X4_levelOf rfl rfl (Nat.le_of_ble_eq_true rfl) (Nat.le_of_ble_eq_true rfl) (c_X4_levelOf (d := d + 0) v1 M (f_X4_levelOf v1) rfl) ?_
  show kx_Rn _ _ _ (17, [some (.ref o), some (.int a0), some (.int a1), some (.int a2), some (.int a3)], [.int (f_X4_levelOf v1), .ref (o + 3)], M) _ _
  obtain ⟨hi3, h⟩ := kx_ck_some h
  refine kx_q_iald (ho.2.2.2.1) rfl hi3 ?_
  cases h
  exact kx_r_iret rfl rfl
theorem c_X0_shownIf {E : kx_E} {d : Nat} (o : Nat) (ho : kx_land E o) (a0 : Int32) (a1 : Int32) (a2 : Int32) (a3 : Int32) (M : kx_M) (r : Int32) (h : f_X0_shownIf o M a0 a1 a2 a3 = some r) : kx_Call E (d + 2) T_X0_shownIf [.ref o, .int a0, .int a1, .int a2, .int a3] M (some (.int r)) M := kx_entry kok_X0_shownIf (Nat.le_of_ble_eq_true rfl) rfl (t_X0_shownIf (d := d) o ho M a0 a1 a2 a3 h)
set_option maxRecDepth 100000 in
set_option maxHeartbeats 4000000 in
theorem t_X0_shownIfWanting {E : kx_E} {d : Nat} {r : Int32} (o : Nat) (ho : kx_land E o) (M : kx_M) (a0 : Int32) (a1 : Int32) (h : f_X0_shownIfWanting o M a0 a1 = some r) : kx_Rn E T_X0_shownIfWanting (d + 3) (0, [some (.ref o), some (.int a0), some (.int a1)], [], M) (some (.int r)) M := by
  unfold f_X0_shownIfWanting at h
  refine kx_go (pc' := 3) (L' := [some (.ref o), some (.int a0), some (.int a1)]) (st' := [.ref o, .int a0, .ref o]) 3 rfl ?_
  refine kx_q_getR (k := 3) (j := (o + 4)) ho.1 rfl kfl_X0_27 rfl ?_
  refine kx_go (pc' := 7) (L' := [some (.ref o), some (.int a0), some (.int a1)]) (st' := [.int a0, .ref (o + 4), .int a0, .ref o]) 1 rfl ?_
  obtain ⟨hi1, h⟩ := kx_ck_some h
  refine kx_q_iald (ho.2.2.2.2.1) rfl hi1 ?_
  refine kx_go (pc' := 10) (L' := [some (.ref o), some (.int a0), some (.int a1)]) (st' := [.ref o, .int a1, .int (M.1 (o + 4) (a0).toNatClampNeg), .int a0, .ref o]) 2 rfl ?_
  refine kx_q_getI (k := 8) ho.1 rfl kfl_X0_39 rfl ?_
  obtain ⟨v2, hv3, h⟩ := kx_bn_some h
  refine kx_q_callV (as := [.int a0, .int (M.1 (o + 4) (a0).toNatClampNeg), .int a1, .int (M.1 o 8)]) (rest := []) (M1 := M) (rv := some (.int v2)) ho.1 rfl klk_X0_125 kse_X0_shownIf rfl rfl rfl rfl (Nat.le_of_ble_eq_true rfl) (Nat.le_of_ble_eq_true rfl) (c_X0_shownIf (d := d + 0) o (ho) a0 (M.1 (o + 4) (a0).toNatClampNeg) a1 (M.1 o 8) M v2 hv3) ?_
  show kx_Rn _ _ _ (16, [some (.ref o), some (.int a0), some (.int a1)], [.int v2], M) _ _
  cases h
  exact kx_r_iret rfl rfl
theorem c_X0_shownIfWanting {E : kx_E} {d : Nat} (o : Nat) (ho : kx_land E o) (a0 : Int32) (a1 : Int32) (M : kx_M) (r : Int32) (h : f_X0_shownIfWanting o M a0 a1 = some r) : kx_Call E (d + 3) T_X0_shownIfWanting [.ref o, .int a0, .int a1] M (some (.int r)) M := kx_entry kok_X0_shownIfWanting (Nat.le_of_ble_eq_true rfl) rfl (t_X0_shownIfWanting (d := d) o ho M a0 a1 h)
set_option maxRecDepth 100000 in
set_option maxHeartbeats 4000000 in
theorem t_X0_shownToAny_5 {E : kx_E} {d : Nat} {r : Int32} (o : Nat) (ho : kx_land E o) (M : kx_M) : ∀ (n : Nat) (x1 : Int32) (x2 : Int32) (x3 : Int32) (x4 : Int32), f_X0_shownToAny_5 o M n x1 x2 x3 x4 = some r → kx_Rn E T_X0_shownToAny (d + 4) (5, [some (.ref o), some (.int x1), some (.int x2), some (.int x3), some (.int x4)], [], M) (some (.int r)) M := by
  intro n
  induction n with
  | zero =>
    intro x1 x2 x3 x4 h
    cases (show (none : Option Int32) = some _ from h)
  | succ n ih =>
    intro x1 x2 x3 x4 h
    rw [f_X0_shownToAny_5.eq_2] at h
    refine kx_go (pc' := 8) (L' := [some (.ref o), some (.int x1), some (.int x2), some (.int x3), some (.int x4)]) (st' := [.ref o, .int x4]) 2 rfl ?_
    refine kx_q_getI (k := 11) ho.1 rfl kfl_X0_62 rfl ?_
    refine kx_r_icmp_ge rfl (fun hc1 => ?_) (fun hc1 => ?_)
    · rw [if_pos hc1] at h
      refine kx_go (pc' := 42) (L' := [some (.ref o), some (.int x1), some (.int x2), some (.int x3), some (.int x4)]) (st' := [.int x3]) 1 rfl ?_
      cases h
      exact kx_r_iret rfl rfl
    · rw [if_neg hc1] at h
      refine kx_go (pc' := 18) (L' := [some (.ref o), some (.int x1), some (.int x2), some (.int x3), some (.int x4)]) (st' := [.long (x1).toInt64, .int x4]) 3 rfl ?_
      refine kx_r_callN (as := [.int x4, .long (x1).toInt64]) (rest := []) (M1 := M) (rv := some (.int (kx_bi (f_X4_isIn x4 (x1).toInt64)))) rfl knl_X0_98 kpd_X4_isIn kini_X4 kcd_X4_isIn kst_X4_isIn rfl rfl (Nat.le_of_ble_eq_true rfl) (Nat.le_of_ble_eq_true rfl) (c_X4_isIn (d := d + 3) x4 (x1).toInt64 M (f_X4_isIn x4 (x1).toInt64) rfl) ?_
      show kx_Rn _ _ _ (21, [some (.ref o), some (.int x1), some (.int x2), some (.int x3), some (.int x4)], [.int (kx_bi (f_X4_isIn x4 (x1).toInt64))], M) _ _
      refine kx_q_zeq rfl (fun hc2 => ?_) (fun hc2 => ?_)
      · rw [if_neg hc2] at h
        refine kx_go (pc' := 38) (L' := [some (.ref o), some (.int x1), some (.int x2), some (.int x3), some (.int (x4 + (1)))]) (st' := []) 1 rfl ?_
        refine kx_r_goto rfl ?_
        refine kx_wk [true, true, true, true, true] ?_
        exact ih x1 x2 x3 (x4 + (1)) h
      · rw [if_pos hc2] at h
        refine kx_go (pc' := 30) (L' := [some (.ref o), some (.int x1), some (.int x2), some (.int x3), some (.int x4)]) (st' := [.int x2, .int x1, .int x4, .ref o, .int x3]) 5 rfl ?_
        obtain ⟨v3, hv4, h⟩ := kx_bn_some h
        refine kx_q_callV (as := [.int x4, .int x1, .int x2]) (rest := [.int x3]) (M1 := M) (rv := some (.int v3)) ho.1 rfl klk_X0_122 kse_X0_shownTo rfl rfl rfl rfl (Nat.le_of_ble_eq_true rfl) (Nat.le_of_ble_eq_true rfl) (c_X0_shownTo (d := d + 0) o (ho) x4 x1 x2 M v3 hv4) ?_
        show kx_Rn _ _ _ (33, [some (.ref o), some (.int x1), some (.int x2), some (.int x3), some (.int x4)], [.int v3, .int x3], M) _ _
        refine kx_go (pc' := 38) (L' := [some (.ref o), some (.int x1), some (.int x2), some (.int (x3 ||| v3)), some (.int (x4 + (1)))]) (st' := []) 3 rfl ?_
        refine kx_r_goto rfl ?_
        refine kx_wk [true, true, true, true, true] ?_
        exact ih x1 x2 (x3 ||| v3) (x4 + (1)) h
set_option maxRecDepth 100000 in
set_option maxHeartbeats 4000000 in
theorem t_X0_shownToAny {E : kx_E} {d : Nat} {r : Int32} (o : Nat) (ho : kx_land E o) (M : kx_M) (a0 : Int32) (a1 : Int32) (h : f_X0_shownToAny o M a0 a1 = some r) : kx_Rn E T_X0_shownToAny (d + 4) (0, [some (.ref o), some (.int a0), some (.int a1), none, none], [], M) (some (.int r)) M := by
  unfold f_X0_shownToAny at h
  refine kx_go (pc' := 5) (L' := [some (.ref o), some (.int a0), some (.int a1), some (.int (0 : Int32)), some (.int (0 : Int32))]) (st' := []) 4 rfl ?_
  refine kx_wk [true, true, true, true, true] ?_
  exact t_X0_shownToAny_5 o ho M kx_fuel a0 a1 (0 : Int32) (0 : Int32) h
theorem c_X0_shownToAny {E : kx_E} {d : Nat} (o : Nat) (ho : kx_land E o) (a0 : Int32) (a1 : Int32) (M : kx_M) (r : Int32) (h : f_X0_shownToAny o M a0 a1 = some r) : kx_Call E (d + 4) T_X0_shownToAny [.ref o, .int a0, .int a1] M (some (.int r)) M := kx_entry kok_X0_shownToAny (Nat.le_of_ble_eq_true rfl) rfl (t_X0_shownToAny (d := d) o ho M a0 a1 h)
set_option maxRecDepth 100000 in
set_option maxHeartbeats 4000000 in
theorem t_X0_newBy {E : kx_E} {d : Nat} {r : Int32} (o : Nat) (ho : kx_land E o) (M : kx_M) (a0 : Int32) (h : f_X0_newBy o M a0 = some r) : kx_Rn E T_X0_newBy (d + 5) (0, [some (.ref o), some (.int a0)], [], M) (some (.int r)) M := by
  unfold f_X0_newBy at h
  refine kx_go (pc' := 3) (L' := [some (.ref o), some (.int a0)]) (st' := [.ref o, .int a0, .ref o]) 3 rfl ?_
  refine kx_q_getI (k := 8) ho.1 rfl kfl_X0_39 rfl ?_
  obtain ⟨v1, hv2, h⟩ := kx_bn_some h
  refine kx_q_callV (as := [.int a0, .int (M.1 o 8)]) (rest := []) (M1 := M) (rv := some (.int v1)) ho.1 rfl klk_X0_129 kse_X0_shownToAny rfl rfl rfl rfl (Nat.le_of_ble_eq_true rfl) (Nat.le_of_ble_eq_true rfl) (c_X0_shownToAny (d := d + 0) o (ho) a0 (M.1 o 8) M v1 hv2) ?_
  show kx_Rn _ _ _ (9, [some (.ref o), some (.int a0)], [.int v1], M) _ _
  refine kx_go (pc' := 11) (L' := [some (.ref o), some (.int a0)]) (st' := [.ref o, .ref o, .int v1]) 2 rfl ?_
  refine kx_q_callV (as := []) (rest := [.ref o, .int v1]) (M1 := M) (rv := some (.int (f_X0_all o M))) ho.1 rfl klk_X0_88 kse_X0_all rfl rfl rfl rfl (Nat.le_of_ble_eq_true rfl) (Nat.le_of_ble_eq_true rfl) (c_X0_all (d := d + 4) o (ho) M (f_X0_all o M) rfl) ?_
  show kx_Rn _ _ _ (14, [some (.ref o), some (.int a0)], [.int (f_X0_all o M), .ref o, .int v1], M) _ _
  obtain ⟨v3, hv4, h⟩ := kx_bn_some h
  refine kx_q_callV (as := [.int (f_X0_all o M)]) (rest := [.int v1]) (M1 := M) (rv := some (.int v3)) ho.1 rfl klk_X0_132 kse_X0_knownBy rfl rfl rfl rfl (Nat.le_of_ble_eq_true rfl) (Nat.le_of_ble_eq_true rfl) (c_X0_knownBy (d := d + 3) o (ho) (f_X0_all o M) M v3 hv4) ?_
  show kx_Rn _ _ _ (17, [some (.ref o), some (.int a0)], [.int v3, .int v1], M) _ _
  refine kx_go (pc' := 20) (L' := [some (.ref o), some (.int a0)]) (st' := [.int (v1 &&& (v3 ^^^ (-1 : Int32)))]) 3 rfl ?_
  cases h
  exact kx_r_iret rfl rfl
theorem c_X0_newBy {E : kx_E} {d : Nat} (o : Nat) (ho : kx_land E o) (a0 : Int32) (M : kx_M) (r : Int32) (h : f_X0_newBy o M a0 = some r) : kx_Call E (d + 5) T_X0_newBy [.ref o, .int a0] M (some (.int r)) M := kx_entry kok_X0_newBy (Nat.le_of_ble_eq_true rfl) rfl (t_X0_newBy (d := d) o ho M a0 h)
set_option maxRecDepth 100000 in
set_option maxHeartbeats 4000000 in
theorem t_X0_veilBehind {E : kx_E} {d : Nat} {r : Int32} (o : Nat) (ho : kx_land E o) (M : kx_M) (a0 : Int32) (a1 : Int32) (h : f_X0_veilBehind o M a0 a1 = r) : kx_Rn E T_X0_veilBehind (d + 2) (0, [some (.ref o), some (.int a0), some (.int a1)], [], M) (some (.int r)) M := by
  unfold f_X0_veilBehind at h
  refine kx_go (pc' := 3) (L' := [some (.ref o), some (.int a0), some (.int a1)]) (st' := [.ref o, .int a0, .int a1]) 3 rfl ?_
  refine kx_q_getI (k := 12) ho.1 rfl kfl_X0_65 rfl ?_
  refine kx_go (pc' := 7) (L' := [some (.ref o), some (.int a0), some (.int a1)]) (st' := [.int (a0 &&& (M.1 o 12)), .int a1]) 1 rfl ?_
  refine kx_r_callS (as := [.int (a0 &&& (M.1 o 12))]) (rest := [.int a1]) (M1 := M) (rv := some (.int (f_J6_bitCount_0f7a4 (a0 &&& (M.1 o 12))))) rfl klk_X0_105 kst_J6_bitCount_0f7a4 rfl rfl (Nat.le_of_ble_eq_true rfl) (Nat.le_of_ble_eq_true rfl) (c_J6_bitCount_0f7a4 (d := d + 1) (a0 &&& (M.1 o 12)) M (f_J6_bitCount_0f7a4 (a0 &&& (M.1 o 12))) rfl) ?_
  show kx_Rn _ _ _ (10, [some (.ref o), some (.int a0), some (.int a1)], [.int (f_J6_bitCount_0f7a4 (a0 &&& (M.1 o 12))), .int a1], M) _ _
  refine kx_go (pc' := 13) (L' := [some (.ref o), some (.int a0), some (.int a1)]) (st' := [.ref o, .int a0, .int (a1 + (f_J6_bitCount_0f7a4 (a0 &&& (M.1 o 12))))]) 3 rfl ?_
  refine kx_q_getI (k := 13) ho.1 rfl kfl_X0_68 rfl ?_
  refine kx_go (pc' := 17) (L' := [some (.ref o), some (.int a0), some (.int a1)]) (st' := [.int (a0 &&& (M.1 o 13)), .int (a1 + (f_J6_bitCount_0f7a4 (a0 &&& (M.1 o 12))))]) 1 rfl ?_
  refine kx_r_callS (as := [.int (a0 &&& (M.1 o 13))]) (rest := [.int (a1 + (f_J6_bitCount_0f7a4 (a0 &&& (M.1 o 12))))]) (M1 := M) (rv := some (.int (f_J6_bitCount_0f7a4 (a0 &&& (M.1 o 13))))) rfl klk_X0_105 kst_J6_bitCount_0f7a4 rfl rfl (Nat.le_of_ble_eq_true rfl) (Nat.le_of_ble_eq_true rfl) (c_J6_bitCount_0f7a4 (d := d + 1) (a0 &&& (M.1 o 13)) M (f_J6_bitCount_0f7a4 (a0 &&& (M.1 o 13))) rfl) ?_
  show kx_Rn _ _ _ (20, [some (.ref o), some (.int a0), some (.int a1)], [.int (f_J6_bitCount_0f7a4 (a0 &&& (M.1 o 13))), .int (a1 + (f_J6_bitCount_0f7a4 (a0 &&& (M.1 o 12))))], M) _ _
  refine kx_go (pc' := 21) (L' := [some (.ref o), some (.int a0), some (.int a1)]) (st' := [.int ((a1 + (f_J6_bitCount_0f7a4 (a0 &&& (M.1 o 12)))) - (f_J6_bitCount_0f7a4 (a0 &&& (M.1 o 13))))]) 1 rfl ?_
  refine kx_r_callN (as := [.int ((a1 + (f_J6_bitCount_0f7a4 (a0 &&& (M.1 o 12)))) - (f_J6_bitCount_0f7a4 (a0 &&& (M.1 o 13))))]) (rest := []) (M1 := M) (rv := some (.int (f_X4_levelOf ((a1 + (f_J6_bitCount_0f7a4 (a0 &&& (M.1 o 12)))) - (f_J6_bitCount_0f7a4 (a0 &&& (M.1 o 13))))))) rfl knl_X0_115 kpd_X4_levelOf kini_X4 kcd_X4_levelOf kst_X4_levelOf rfl rfl (Nat.le_of_ble_eq_true rfl) (Nat.le_of_ble_eq_true rfl) (c_X4_levelOf (d := d + 0) ((a1 + (f_J6_bitCount_0f7a4 (a0 &&& (M.1 o 12)))) - (f_J6_bitCount_0f7a4 (a0 &&& (M.1 o 13)))) M (f_X4_levelOf ((a1 + (f_J6_bitCount_0f7a4 (a0 &&& (M.1 o 12)))) - (f_J6_bitCount_0f7a4 (a0 &&& (M.1 o 13))))) rfl) ?_
  show kx_Rn _ _ _ (24, [some (.ref o), some (.int a0), some (.int a1)], [.int (f_X4_levelOf ((a1 + (f_J6_bitCount_0f7a4 (a0 &&& (M.1 o 12)))) - (f_J6_bitCount_0f7a4 (a0 &&& (M.1 o 13)))))], M) _ _
  subst h
  exact kx_r_iret rfl rfl
theorem c_X0_veilBehind {E : kx_E} {d : Nat} (o : Nat) (ho : kx_land E o) (a0 : Int32) (a1 : Int32) (M : kx_M) (r : Int32) (h : f_X0_veilBehind o M a0 a1 = r) : kx_Call E (d + 2) T_X0_veilBehind [.ref o, .int a0, .int a1] M (some (.int r)) M := kx_entry kok_X0_veilBehind (Nat.le_of_ble_eq_true rfl) rfl (t_X0_veilBehind (d := d) o ho M a0 a1 h)
set_option maxRecDepth 100000 in
set_option maxHeartbeats 4000000 in
theorem t_X0_passDay {E : kx_E} {d : Nat} {M' : kx_M} (o : Nat) (ho : kx_land E o) (M : kx_M) (h : f_X0_passDay o M = some M') : kx_Rn E T_X0_passDay (d + 1) (0, [some (.ref o)], [], M) none M' := by
  unfold f_X0_passDay at h
  refine kx_go (pc' := 5) (L' := [some (.ref o)]) (st' := [.ref o, .int (999 : Int32), .ref o]) 3 rfl ?_
  refine kx_q_getI (k := 9) ho.1 rfl kfl_X0_59 rfl ?_
  refine kx_go (pc' := 10) (L' := [some (.ref o)]) (st' := [.int ((M.1 o 9) + (1 : Int32)), .int (999 : Int32), .ref o]) 2 rfl ?_
  refine kx_q_min rfl kml_X0_18 kst_min kini_math kcd_min (Nat.le_of_ble_eq_true rfl) ?_
  refine kx_q_putI (k := 9) ho.1 rfl kfw_X0_59 rfl ?_
  cases h
  exact kx_r_vret rfl rfl
theorem c_X0_passDay {E : kx_E} {d : Nat} (o : Nat) (ho : kx_land E o) (M : kx_M) (M' : kx_M) (h : f_X0_passDay o M = some M') : kx_Call E (d + 1) T_X0_passDay [.ref o] M none M' := kx_entry kok_X0_passDay (Nat.le_of_ble_eq_true rfl) rfl (t_X0_passDay (d := d) o ho M h)
set_option maxRecDepth 100000 in
set_option maxHeartbeats 4000000 in
theorem t_X0_goTogether_2 {E : kx_E} {d : Nat} {M' : kx_M} (o : Nat) (ho : kx_land E o) : ∀ (n : Nat) (x1 : Int32) (x2 : Int32) (M : kx_M), f_X0_goTogether_2 o n x1 x2 M = some M' → kx_Rn E T_X0_goTogether (d + 4) (2, [some (.ref o), some (.int x1), some (.int x2)], [], M) none M' := by
  intro n
  induction n with
  | zero =>
    intro x1 x2 M h
    cases (show (none : Option kx_M) = some _ from h)
  | succ n ih =>
    intro x1 x2 M h
    rw [f_X0_goTogether_2.eq_2] at h
    refine kx_go (pc' := 4) (L' := [some (.ref o), some (.int x1), some (.int x2)]) (st' := [.ref o, .int x2]) 2 rfl ?_
    refine kx_q_getI (k := 11) ho.1 rfl kfl_X0_62 rfl ?_
    refine kx_r_icmp_ge rfl (fun hc1 => ?_) (fun hc1 => ?_)
    · rw [if_pos hc1] at h
      refine kx_go (pc' := 48) (L' := [some (.ref o), some (.int x1), some (.int x2)]) (st' := [.ref o, .int x1, .ref o, .ref o]) 4 rfl ?_
      refine kx_q_getI (k := 8) ho.1 rfl kfl_X0_39 rfl ?_
      refine kx_q_callV (as := [.int x1, .int (M.1 o 8)]) (rest := [.ref o]) (M1 := M) (rv := some (.int (f_X0_veilBehind o M x1 (M.1 o 8)))) ho.1 rfl klk_X0_135 kse_X0_veilBehind rfl rfl rfl rfl (Nat.le_of_ble_eq_true rfl) (Nat.le_of_ble_eq_true rfl) (c_X0_veilBehind (d := d + 1) o (ho) x1 (M.1 o 8) M (f_X0_veilBehind o M x1 (M.1 o 8)) rfl) ?_
      show kx_Rn _ _ _ (54, [some (.ref o), some (.int x1), some (.int x2)], [.int (f_X0_veilBehind o M x1 (M.1 o 8)), .ref o], M) _ _
      refine kx_q_putI (k := 8) ho.1 rfl kfw_X0_39 rfl ?_
      refine kx_go (pc' := 58) (L' := [some (.ref o), some (.int x1), some (.int x2)]) (st' := [.ref o]) 1 rfl ?_
      obtain ⟨M4, hv3, h⟩ := kx_bn_some h
      refine kx_q_callV (as := []) (rest := []) (M1 := M4) (rv := none) ho.1 rfl klk_X0_138 kse_X0_passDay rfl rfl rfl rfl (Nat.le_of_ble_eq_true rfl) (Nat.le_of_ble_eq_true rfl) (c_X0_passDay (d := d + 2) o (ho) (kx_u1 M o 8 (f_X0_veilBehind o M x1 (M.1 o 8))) M4 hv3) ?_
      show kx_Rn _ _ _ (61, [some (.ref o), some (.int x1), some (.int x2)], [], M4) _ _
      cases h
      exact kx_r_vret rfl rfl
    · rw [if_neg hc1] at h
      refine kx_go (pc' := 13) (L' := [some (.ref o), some (.int x1), some (.int x2)]) (st' := [.long (x1).toInt64, .int x2]) 3 rfl ?_
      refine kx_r_callN (as := [.int x2, .long (x1).toInt64]) (rest := []) (M1 := M) (rv := some (.int (kx_bi (f_X4_isIn x2 (x1).toInt64)))) rfl knl_X0_98 kpd_X4_isIn kini_X4 kcd_X4_isIn kst_X4_isIn rfl rfl (Nat.le_of_ble_eq_true rfl) (Nat.le_of_ble_eq_true rfl) (c_X4_isIn (d := d + 3) x2 (x1).toInt64 M (f_X4_isIn x2 (x1).toInt64) rfl) ?_
      show kx_Rn _ _ _ (16, [some (.ref o), some (.int x1), some (.int x2)], [.int (kx_bi (f_X4_isIn x2 (x1).toInt64))], M) _ _
      refine kx_q_zeq rfl (fun hc5 => ?_) (fun hc5 => ?_)
      · rw [if_neg hc5] at h
        refine kx_go (pc' := 41) (L' := [some (.ref o), some (.int x1), some (.int (x2 + (1)))]) (st' := []) 1 rfl ?_
        refine kx_r_goto rfl ?_
        refine kx_wk [true, true, true] ?_
        exact ih x1 (x2 + (1)) M h
      · rw [if_pos hc5] at h
        refine kx_go (pc' := 20) (L' := [some (.ref o), some (.int x1), some (.int x2)]) (st' := [.ref o]) 1 rfl ?_
        refine kx_q_getR (k := 6) (j := (o + 7)) ho.1 rfl kfl_X0_36 rfl ?_
        refine kx_go (pc' := 25) (L' := [some (.ref o), some (.int x1), some (.int x2)]) (st' := [.int x2, .ref (o + 7), .int x2, .ref (o + 7)]) 2 rfl ?_
        obtain ⟨hi6, h⟩ := kx_ck_some h
        refine kx_q_iald (ho.2.2.2.2.2.2.2) rfl hi6 ?_
        refine kx_go (pc' := 30) (L' := [some (.ref o), some (.int x1), some (.int x2)]) (st' := [.ref o, .int x1, .int x2, .ref o, .int (M.1 (o + 7) (x2).toNatClampNeg), .int x2, .ref (o + 7)]) 4 rfl ?_
        refine kx_q_getI (k := 8) ho.1 rfl kfl_X0_39 rfl ?_
        obtain ⟨v7, hv8, h⟩ := kx_bn_some h
        refine kx_q_callV (as := [.int x2, .int x1, .int (M.1 o 8)]) (rest := [.int (M.1 (o + 7) (x2).toNatClampNeg), .int x2, .ref (o + 7)]) (M1 := M) (rv := some (.int v7)) ho.1 rfl klk_X0_122 kse_X0_shownTo rfl rfl rfl rfl (Nat.le_of_ble_eq_true rfl) (Nat.le_of_ble_eq_true rfl) (c_X0_shownTo (d := d + 0) o (ho) x2 x1 (M.1 o 8) M v7 hv8) ?_
        show kx_Rn _ _ _ (36, [some (.ref o), some (.int x1), some (.int x2)], [.int v7, .int (M.1 (o + 7) (x2).toNatClampNeg), .int x2, .ref (o + 7)], M) _ _
        refine kx_go (pc' := 37) (L' := [some (.ref o), some (.int x1), some (.int x2)]) (st' := [.int ((M.1 (o + 7) (x2).toNatClampNeg) ||| v7), .int x2, .ref (o + 7)]) 1 rfl ?_
        obtain ⟨hi9, h⟩ := kx_ck_some h
        refine kx_q_iast (ho.2.2.2.2.2.2.2) rfl hi9 ?_
        refine kx_go (pc' := 41) (L' := [some (.ref o), some (.int x1), some (.int (x2 + (1)))]) (st' := []) 1 rfl ?_
        refine kx_r_goto rfl ?_
        refine kx_wk [true, true, true] ?_
        exact ih x1 (x2 + (1)) (kx_u1 M (o + 7) (x2).toNatClampNeg ((M.1 (o + 7) (x2).toNatClampNeg) ||| v7)) h
set_option maxRecDepth 100000 in
set_option maxHeartbeats 4000000 in
theorem t_X0_goTogether {E : kx_E} {d : Nat} {M' : kx_M} (o : Nat) (ho : kx_land E o) (a0 : Int32) (M : kx_M) (h : f_X0_goTogether o a0 M = some M') : kx_Rn E T_X0_goTogether (d + 4) (0, [some (.ref o), some (.int a0), none], [], M) none M' := by
  unfold f_X0_goTogether at h
  refine kx_go (pc' := 2) (L' := [some (.ref o), some (.int a0), some (.int (0 : Int32))]) (st' := []) 2 rfl ?_
  refine kx_wk [true, true, true] ?_
  exact t_X0_goTogether_2 o ho kx_fuel a0 (0 : Int32) M h
theorem c_X0_goTogether {E : kx_E} {d : Nat} (o : Nat) (ho : kx_land E o) (a0 : Int32) (M : kx_M) (M' : kx_M) (h : f_X0_goTogether o a0 M = some M') : kx_Call E (d + 4) T_X0_goTogether [.ref o, .int a0] M none M' := kx_entry kok_X0_goTogether (Nat.le_of_ble_eq_true rfl) rfl (t_X0_goTogether (d := d) o ho a0 M h)
set_option maxRecDepth 100000 in
set_option maxHeartbeats 4000000 in
theorem t_X0_draw {E : kx_E} {d : Nat} {r : Int32} {M' : kx_M} (o : Nat) (ho : kx_land E o) (a0 : Int32) (M : kx_M) (h : f_X0_draw o a0 M = some (r, M')) : kx_Rn E T_X0_draw (d + 0) (0, [some (.ref o), some (.int a0)], [], M) (some (.int r)) M' := by
  unfold f_X0_draw at h
  refine kx_go (pc' := 2) (L' := [some (.ref o), some (.int a0)]) (st' := [.ref o, .ref o]) 2 rfl ?_
  refine kx_q_getI (k := 10) ho.1 rfl kfl_X0_43 rfl ?_
  refine kx_r_ldc0 (v := 1103515245) rfl kcs_X0_150 ?_
  refine kx_go (pc' := 12) (L' := [some (.ref o), some (.int a0)]) (st' := [.int (((M.1 o 10) * (1103515245 : Int32)) + (12345 : Int32)), .ref o]) 3 rfl ?_
  refine kx_q_putI (k := 10) ho.1 rfl kfw_X0_43 rfl ?_
  refine kx_go (pc' := 16) (L' := [some (.ref o), some (.int a0)]) (st' := [.int a0]) 1 rfl ?_
  refine kx_r_if_le rfl (fun hc1 => ?_) (fun hc1 => ?_)
  · rw [if_pos hc1] at h
    refine kx_go (pc' := 32) (L' := [some (.ref o), some (.int a0)]) (st' := [.int (0 : Int32)]) 1 rfl ?_
    cases h
    exact kx_r_iret rfl rfl
  · rw [if_neg hc1] at h
    refine kx_go (pc' := 20) (L' := [some (.ref o), some (.int a0)]) (st' := [.ref o]) 1 rfl ?_
    refine kx_q_getI (k := 10) ho.1 rfl kfl_X0_43 rfl ?_
    refine kx_go (pc' := 27) (L' := [some (.ref o), some (.int a0)]) (st' := [.int a0, .int ((((kx_u1 M o 10 (((M.1 o 10) * (1103515245 : Int32)) + (12345 : Int32))).1 o 10)).toUInt32 >>> (((16 : Int32)).toUInt32 &&& Int32.toUInt32 31)).toInt32]) 3 rfl ?_
    obtain ⟨hi2, h⟩ := kx_nz_some h
    refine kx_r_irem rfl hi2 ?_
    refine kx_r_goto rfl ?_
    cases h
    exact kx_r_iret rfl rfl
theorem c_X0_draw {E : kx_E} {d : Nat} (o : Nat) (ho : kx_land E o) (a0 : Int32) (M : kx_M) (r : Int32) (M' : kx_M) (h : f_X0_draw o a0 M = some (r, M')) : kx_Call E (d + 0) T_X0_draw [.ref o, .int a0] M (some (.int r)) M' := kx_entry kok_X0_draw (Nat.le_of_ble_eq_true rfl) rfl (t_X0_draw (d := d) o ho a0 M h)
set_option maxRecDepth 100000 in
set_option maxHeartbeats 4000000 in
theorem t_X0_dayByDraws_14 {E : kx_E} {d : Nat} {r : Int32} {M' : kx_M} (o : Nat) (ho : kx_land E o) : ∀ (n : Nat) (x1 : Int32) (x2 : Int32) (M : kx_M), f_X0_dayByDraws_14 o n x1 x2 M = some (r, M') → kx_Rn E T_X0_dayByDraws (d + 6) (14, [some (.ref o), some (.int x1), some (.int x2)], [], M) (some (.int r)) M' := by
  intro n
  induction n with
  | zero =>
    intro x1 x2 M h
    cases (show (none : Option (Int32 × kx_M)) = some _ from h)
  | succ n ih =>
    intro x1 x2 M h
    rw [f_X0_dayByDraws_14.eq_2] at h
    refine kx_go (pc' := 16) (L' := [some (.ref o), some (.int x1), some (.int x2)]) (st' := [.ref o, .int x2]) 2 rfl ?_
    refine kx_q_getI (k := 11) ho.1 rfl kfl_X0_62 rfl ?_
    refine kx_r_icmp_ge rfl (fun hc1 => ?_) (fun hc1 => ?_)
    · rw [if_pos hc1] at h
      refine kx_go (pc' := 44) (L' := [some (.ref o), some (.int x1), some (.int x2)]) (st' := [.int x1]) 1 rfl ?_
      refine kx_r_if_ne rfl (fun hc2 => ?_) (fun hc2 => ?_)
      · rw [if_neg hc2] at h
        refine kx_go (pc' := 55) (L' := [some (.ref o), some (.int x1), some (.int x2)]) (st' := [.int x1, .ref o]) 2 rfl ?_
        obtain ⟨v3, hv4, h⟩ := kx_bn_some h
        refine kx_q_callV (as := [.int x1]) (rest := []) (M1 := M) (rv := some (.int v3)) ho.1 rfl klk_X0_144 kse_X0_newBy rfl rfl rfl rfl (Nat.le_of_ble_eq_true rfl) (Nat.le_of_ble_eq_true rfl) (c_X0_newBy (d := d + 0) o (ho) x1 M v3 hv4) ?_
        show kx_Rn _ _ _ (58, [some (.ref o), some (.int x1), some (.int x2)], [.int v3], M) _ _
        refine kx_r_callS (as := [.int v3]) (rest := []) (M1 := M) (rv := some (.int (f_J6_bitCount_0f7a4 v3))) rfl klk_X0_105 kst_J6_bitCount_0f7a4 rfl rfl (Nat.le_of_ble_eq_true rfl) (Nat.le_of_ble_eq_true rfl) (c_J6_bitCount_0f7a4 (d := d + 5) v3 M (f_J6_bitCount_0f7a4 v3) rfl) ?_
        show kx_Rn _ _ _ (61, [some (.ref o), some (.int x1), some (.int x2)], [.int (f_J6_bitCount_0f7a4 v3)], M) _ _
        refine kx_go (pc' := 64) (L' := [some (.ref o), some (.int x1), some (.int (f_J6_bitCount_0f7a4 v3))]) (st' := [.int x1, .ref o]) 3 rfl ?_
        obtain ⟨M7, hv6, h⟩ := kx_bn_some h
        refine kx_q_callV (as := [.int x1]) (rest := []) (M1 := M7) (rv := none) ho.1 rfl klk_X0_147 kse_X0_goTogether rfl rfl rfl rfl (Nat.le_of_ble_eq_true rfl) (Nat.le_of_ble_eq_true rfl) (c_X0_goTogether (d := d + 1) o (ho) x1 M M7 hv6) ?_
        show kx_Rn _ _ _ (67, [some (.ref o), some (.int x1), some (.int (f_J6_bitCount_0f7a4 v3))], [], M7) _ _
        refine kx_go (pc' := 68) (L' := [some (.ref o), some (.int x1), some (.int (f_J6_bitCount_0f7a4 v3))]) (st' := [.int (f_J6_bitCount_0f7a4 v3)]) 1 rfl ?_
        cases h
        exact kx_r_iret rfl rfl
      · rw [if_pos hc2] at h
        refine kx_go (pc' := 48) (L' := [some (.ref o), some (.int x1), some (.int x2)]) (st' := [.ref o]) 1 rfl ?_
        obtain ⟨M10, hv9, h⟩ := kx_bn_some h
        refine kx_q_callV (as := []) (rest := []) (M1 := M10) (rv := none) ho.1 rfl klk_X0_138 kse_X0_passDay rfl rfl rfl rfl (Nat.le_of_ble_eq_true rfl) (Nat.le_of_ble_eq_true rfl) (c_X0_passDay (d := d + 4) o (ho) M M10 hv9) ?_
        show kx_Rn _ _ _ (51, [some (.ref o), some (.int x1), some (.int x2)], [], M10) _ _
        refine kx_go (pc' := 52) (L' := [some (.ref o), some (.int x1), some (.int x2)]) (st' := [.int (0 : Int32)]) 1 rfl ?_
        cases h
        exact kx_r_iret rfl rfl
    · rw [if_neg hc1] at h
      refine kx_go (pc' := 24) (L' := [some (.ref o), some (.int x1), some (.int x2)]) (st' := [.int (2 : Int32), .ref o]) 2 rfl ?_
      obtain ⟨v11, M13, hv12, h⟩ := kx_bd_some h
      refine kx_q_callV (as := [.int (2 : Int32)]) (rest := []) (M1 := M13) (rv := some (.int v11)) ho.1 rfl klk_X0_141 kse_X0_draw rfl rfl rfl rfl (Nat.le_of_ble_eq_true rfl) (Nat.le_of_ble_eq_true rfl) (c_X0_draw (d := d + 5) o (ho) (2 : Int32) M v11 M13 hv12) ?_
      show kx_Rn _ _ _ (27, [some (.ref o), some (.int x1), some (.int x2)], [.int v11], M13) _ _
      refine kx_go (pc' := 28) (L' := [some (.ref o), some (.int x1), some (.int x2)]) (st' := [.int (1 : Int32), .int v11]) 1 rfl ?_
      refine kx_r_icmp_ne rfl (fun hc14 => ?_) (fun hc14 => ?_)
      · rw [if_neg hc14] at h
        refine kx_go (pc' := 40) (L' := [some (.ref o), some (.int x1), some (.int (x2 + (1)))]) (st' := []) 1 rfl ?_
        refine kx_r_goto rfl ?_
        refine kx_wk [true, true, true] ?_
        exact ih x1 (x2 + (1)) M13 h
      · rw [if_pos hc14] at h
        refine kx_go (pc' := 40) (L' := [some (.ref o), some (.int (x1 ||| ((1 : Int32) <<< (x2 &&& 31)))), some (.int (x2 + (1)))]) (st' := []) 7 rfl ?_
        refine kx_r_goto rfl ?_
        refine kx_wk [true, true, true] ?_
        exact ih (x1 ||| ((1 : Int32) <<< (x2 &&& 31))) (x2 + (1)) M13 h
set_option maxRecDepth 100000 in
set_option maxHeartbeats 4000000 in
theorem t_X0_dayByDraws {E : kx_E} {d : Nat} {r : Int32} {M' : kx_M} (o : Nat) (ho : kx_land E o) (M : kx_M) (h : f_X0_dayByDraws o M = some (r, M')) : kx_Rn E T_X0_dayByDraws (d + 6) (0, [some (.ref o), none, none], [], M) (some (.int r)) M' := by
  unfold f_X0_dayByDraws at h
  refine kx_go (pc' := 4) (L' := [some (.ref o), none, none]) (st' := [.int (21 : Int32), .ref o, .ref o]) 3 rfl ?_
  obtain ⟨v1, M3, hv2, h⟩ := kx_bd_some h
  refine kx_q_callV (as := [.int (21 : Int32)]) (rest := [.ref o]) (M1 := M3) (rv := some (.int v1)) ho.1 rfl klk_X0_141 kse_X0_draw rfl rfl rfl rfl (Nat.le_of_ble_eq_true rfl) (Nat.le_of_ble_eq_true rfl) (c_X0_draw (d := d + 5) o (ho) (21 : Int32) M v1 M3 hv2) ?_
  show kx_Rn _ _ _ (7, [some (.ref o), none, none], [.int v1, .ref o], M3) _ _
  refine kx_q_putI (k := 8) ho.1 rfl kfw_X0_39 rfl ?_
  refine kx_go (pc' := 14) (L' := [some (.ref o), some (.int (0 : Int32)), some (.int (0 : Int32))]) (st' := []) 4 rfl ?_
  refine kx_wk [true, true, true] ?_
  exact t_X0_dayByDraws_14 o ho kx_fuel (0 : Int32) (0 : Int32) (kx_u1 M3 o 8 v1) h
theorem c_X0_dayByDraws {E : kx_E} {d : Nat} (o : Nat) (ho : kx_land E o) (M : kx_M) (r : Int32) (M' : kx_M) (h : f_X0_dayByDraws o M = some (r, M')) : kx_Call E (d + 6) T_X0_dayByDraws [.ref o] M (some (.int r)) M' := kx_entry kok_X0_dayByDraws (Nat.le_of_ble_eq_true rfl) rfl (t_X0_dayByDraws (d := d) o ho M h)
set_option maxRecDepth 100000 in
set_option maxHeartbeats 4000000 in
theorem t_X1_compare {d : Nat} {M' : kx_M} (a0 : Int32) (M : kx_M) (h : f_X1_compare a0 M = some M') : kx_Rn EX T_X1_compare (d + 1) (0, [some (.ref 44), some (.int a0)], [], M) none M' := by
  unfold f_X1_compare at h
  refine kx_go (pc' := 2) (L' := [some (.ref 44), some (.int a0)]) (st' := [.ref 44, .int a0]) 2 rfl ?_
  refine kx_q_getI (k := 1) kxo_44 rfl kfl_X1_18 rfl ?_
  refine kx_r_icmp_le rfl (fun hc1 => ?_) (fun hc1 => ?_)
  · rw [if_pos hc1] at h
    cases h
    exact kx_r_vret rfl rfl
  · rw [if_neg hc1] at h
    refine kx_go (pc' := 10) (L' := [some (.ref 44), some (.int a0)]) (st' := [.int a0, .ref 44]) 2 rfl ?_
    refine kx_q_putI (k := 1) kxo_44 rfl kfw_X1_18 rfl ?_
    refine kx_go (pc' := 14) (L' := [some (.ref 44), some (.int a0)]) (st' := [.ref 44]) 1 rfl ?_
    refine kx_q_getR (k := 2) (j := 46) kxo_44 rfl kfl_X1_15 rfl ?_
    refine kx_go (pc' := 19) (L' := [some (.ref 44), some (.int a0)]) (st' := [.ref 44, .int (0 : Int32), .ref 46]) 2 rfl ?_
    refine kx_q_getR (k := 0) (j := 45) kxo_44 rfl kfl_X1_9 rfl ?_
    refine kx_go (pc' := 25) (L' := [some (.ref 44), some (.int a0)]) (st' := [.int (6 : Int32), .int (0 : Int32), .ref 45, .int (0 : Int32), .ref 46]) 2 rfl ?_
    obtain ⟨hi2, h⟩ := kx_cg_some h
    refine kx_q_cpyI (kxa_46) (kxa_45) rfl kml_X1_62 kna_copy kst_copy kini_sys hi2 (Nat.le_of_ble_eq_true rfl) ?_
    obtain ⟨M3, hM3, h⟩ := kx_lt_ex h
    rw [← hM3]
    cases h
    exact kx_r_vret rfl rfl
theorem c_X1_compare {d : Nat} (a0 : Int32) (M : kx_M) (M' : kx_M) (h : f_X1_compare a0 M = some M') : kx_Call EX (d + 1) T_X1_compare [.ref 44, .int a0] M none M' := kx_entry kok_X1_compare (Nat.le_of_ble_eq_true rfl) rfl (t_X1_compare (d := d) a0 M h)
set_option maxRecDepth 100000 in
set_option maxHeartbeats 4000000 in
theorem t_X1_goOn_23 {d : Nat} {M' : kx_M} (o : Nat) (ho : kx_land EX o) (rec : Int32 → Int32 → Int32 → Int32 → kx_M → Option kx_M) (hrec : ∀ (a2 : Int32) (a3 : Int32) (a4 : Int32) (a5 : Int32) (M : kx_M) (M' : kx_M), rec a2 a3 a4 a5 M = some M' → kx_Call EX (d + 4) T_X1_goOn [.ref 44, .ref o, .int a2, .int a3, .int a4, .int a5] M none M') : ∀ (n : Nat) (x2 : Int32) (x3 : Int32) (x4 : Int32) (x5 : Int32) (x6 : Int32) (M : kx_M), f_X1_goOn_23 o rec n x2 x3 x4 x5 x6 M = some M' → kx_Rn EX T_X1_goOn (d + 5) (23, [some (.ref 44), some (.ref o), some (.int x2), some (.int x3), some (.int x4), some (.int x5), some (.int x6), none], [], M) none M' := by
  intro n
  induction n with
  | zero =>
    intro x2 x3 x4 x5 x6 M h
    cases (show (none : Option kx_M) = some _ from h)
  | succ n ih =>
    intro x2 x3 x4 x5 x6 M h
    rw [f_X1_goOn_23.eq_2] at h
    refine kx_go (pc' := 26) (L' := [some (.ref 44), some (.ref o), some (.int x2), some (.int x3), some (.int x4), some (.int x5), some (.int x6), none]) (st' := [.ref o, .int x6]) 2 rfl ?_
    refine kx_q_getI (k := 11) ho.1 rfl kfl_X1_48 rfl ?_
    refine kx_r_icmp_ge rfl (fun hc1 => ?_) (fun hc1 => ?_)
    · rw [if_pos hc1] at h
      cases h
      exact kx_r_vret rfl rfl
    · rw [if_neg hc1] at h
      refine kx_go (pc' := 36) (L' := [some (.ref 44), some (.ref o), some (.int x2), some (.int x3), some (.int x4), some (.int x5), some (.int x6), none]) (st' := [.long (x2).toInt64, .int x6]) 3 rfl ?_
      refine kx_r_callN (as := [.int x6, .long (x2).toInt64]) (rest := []) (M1 := M) (rv := some (.int (kx_bi (f_X4_isIn x6 (x2).toInt64)))) rfl knl_X1_51 kpd_X4_isIn kini_X4 kcd_X4_isIn kst_X4_isIn rfl rfl (Nat.le_of_ble_eq_true rfl) (Nat.le_of_ble_eq_true rfl) (c_X4_isIn (d := d + 4) x6 (x2).toInt64 M (f_X4_isIn x6 (x2).toInt64) rfl) ?_
      show kx_Rn _ _ _ (39, [some (.ref 44), some (.ref o), some (.int x2), some (.int x3), some (.int x4), some (.int x5), some (.int x6), none], [.int (kx_bi (f_X4_isIn x6 (x2).toInt64))], M) _ _
      refine kx_q_zeq rfl (fun hc2 => ?_) (fun hc2 => ?_)
      · rw [if_neg hc2] at h
        refine kx_go (pc' := 93) (L' := [some (.ref 44), some (.ref o), some (.int x2), some (.int x3), some (.int x4), some (.int x5), some (.int (x6 + (1))), none]) (st' := []) 1 rfl ?_
        refine kx_r_goto rfl ?_
        refine kx_wk [true, true, true, true, true, true, true, false] ?_
        exact ih x2 x3 x4 x5 (x6 + (1)) M h
      · rw [if_pos hc2] at h
        refine kx_go (pc' := 49) (L' := [some (.ref 44), some (.ref o), some (.int x2), some (.int x3), some (.int x4), some (.int x5), some (.int x6), some (.int ((1 : Int32) <<< (x6 &&& 31)))]) (st' := [.ref 44]) 5 rfl ?_
        refine kx_q_getR (k := 2) (j := 46) kxo_44 rfl kfl_X1_15 rfl ?_
        refine kx_go (pc' := 56) (L' := [some (.ref 44), some (.ref o), some (.int x2), some (.int x3), some (.int x4), some (.int x5), some (.int x6), some (.int ((1 : Int32) <<< (x6 &&& 31)))]) (st' := [.int x6, .int x5, .ref 46]) 2 rfl ?_
        obtain ⟨hi3, h⟩ := kx_ck_some h
        refine kx_q_iast (kxa_46) rfl hi3 ?_
        refine kx_go (pc' := 71) (L' := [some (.ref 44), some (.ref o), some (.int x2), some (.int x3), some (.int x4), some (.int x5), some (.int x6), some (.int ((1 : Int32) <<< (x6 &&& 31)))]) (st' := [.int x4, .int x6, .ref o, .int x3, .int (x2 &&& (((1 : Int32) <<< (x6 &&& 31)) ^^^ (-1 : Int32))), .ref o, .ref 44]) 11 rfl ?_
        obtain ⟨v4, hv5, h⟩ := kx_bn_some h
        refine kx_q_callV (as := [.int x6, .int x4]) (rest := [.int x3, .int (x2 &&& (((1 : Int32) <<< (x6 &&& 31)) ^^^ (-1 : Int32))), .ref o, .ref 44]) (M1 := (kx_u1 M 46 (x5).toNatClampNeg x6)) (rv := some (.int v4)) ho.1 rfl klk_X1_55 kse_X0_shownAlone rfl rfl rfl rfl (Nat.le_of_ble_eq_true rfl) (Nat.le_of_ble_eq_true rfl) (c_X0_shownAlone (d := d + 0) o (ho) x6 x4 (kx_u1 M 46 (x5).toNatClampNeg x6) v4 hv5) ?_
        show kx_Rn _ _ _ (74, [some (.ref 44), some (.ref o), some (.int x2), some (.int x3), some (.int x4), some (.int x5), some (.int x6), some (.int ((1 : Int32) <<< (x6 &&& 31)))], [.int v4, .int x3, .int (x2 &&& (((1 : Int32) <<< (x6 &&& 31)) ^^^ (-1 : Int32))), .ref o, .ref 44], (kx_u1 M 46 (x5).toNatClampNeg x6)) _ _
        refine kx_go (pc' := 80) (L' := [some (.ref 44), some (.ref o), some (.int x2), some (.int x3), some (.int x4), some (.int x5), some (.int x6), some (.int ((1 : Int32) <<< (x6 &&& 31)))]) (st' := [.int x4, .int ((1 : Int32) <<< (x6 &&& 31)), .ref o, .int (x3 ||| v4), .int (x2 &&& (((1 : Int32) <<< (x6 &&& 31)) ^^^ (-1 : Int32))), .ref o, .ref 44]) 4 rfl ?_
        refine kx_q_callV (as := [.int ((1 : Int32) <<< (x6 &&& 31)), .int x4]) (rest := [.int (x3 ||| v4), .int (x2 &&& (((1 : Int32) <<< (x6 &&& 31)) ^^^ (-1 : Int32))), .ref o, .ref 44]) (M1 := (kx_u1 M 46 (x5).toNatClampNeg x6)) (rv := some (.int (f_X0_veilBehind o (kx_u1 M 46 (x5).toNatClampNeg x6) ((1 : Int32) <<< (x6 &&& 31)) x4))) ho.1 rfl klk_X1_59 kse_X0_veilBehind rfl rfl rfl rfl (Nat.le_of_ble_eq_true rfl) (Nat.le_of_ble_eq_true rfl) (c_X0_veilBehind (d := d + 2) o (ho) ((1 : Int32) <<< (x6 &&& 31)) x4 (kx_u1 M 46 (x5).toNatClampNeg x6) (f_X0_veilBehind o (kx_u1 M 46 (x5).toNatClampNeg x6) ((1 : Int32) <<< (x6 &&& 31)) x4) rfl) ?_
        show kx_Rn _ _ _ (83, [some (.ref 44), some (.ref o), some (.int x2), some (.int x3), some (.int x4), some (.int x5), some (.int x6), some (.int ((1 : Int32) <<< (x6 &&& 31)))], [.int (f_X0_veilBehind o (kx_u1 M 46 (x5).toNatClampNeg x6) ((1 : Int32) <<< (x6 &&& 31)) x4), .int (x3 ||| v4), .int (x2 &&& (((1 : Int32) <<< (x6 &&& 31)) ^^^ (-1 : Int32))), .ref o, .ref 44], (kx_u1 M 46 (x5).toNatClampNeg x6)) _ _
        refine kx_go (pc' := 87) (L' := [some (.ref 44), some (.ref o), some (.int x2), some (.int x3), some (.int x4), some (.int x5), some (.int x6), some (.int ((1 : Int32) <<< (x6 &&& 31)))]) (st' := [.int (x5 + (1 : Int32)), .int (f_X0_veilBehind o (kx_u1 M 46 (x5).toNatClampNeg x6) ((1 : Int32) <<< (x6 &&& 31)) x4), .int (x3 ||| v4), .int (x2 &&& (((1 : Int32) <<< (x6 &&& 31)) ^^^ (-1 : Int32))), .ref o, .ref 44]) 3 rfl ?_
        obtain ⟨M8, hv7, h⟩ := kx_bn_some h
        refine kx_r_callS (as := [.ref 44, .ref o, .int (x2 &&& (((1 : Int32) <<< (x6 &&& 31)) ^^^ (-1 : Int32))), .int (x3 ||| v4), .int (f_X0_veilBehind o (kx_u1 M 46 (x5).toNatClampNeg x6) ((1 : Int32) <<< (x6 &&& 31)) x4), .int (x5 + (1 : Int32))]) (rest := []) (M1 := M8) (rv := none) rfl klk_X1_35 kst_X1_goOn rfl rfl (Nat.le_of_ble_eq_true rfl) (Nat.le_of_ble_eq_true rfl) (hrec (x2 &&& (((1 : Int32) <<< (x6 &&& 31)) ^^^ (-1 : Int32))) (x3 ||| v4) (f_X0_veilBehind o (kx_u1 M 46 (x5).toNatClampNeg x6) ((1 : Int32) <<< (x6 &&& 31)) x4) (x5 + (1 : Int32)) (kx_u1 M 46 (x5).toNatClampNeg x6) M8 hv7) ?_
        show kx_Rn _ _ _ (90, [some (.ref 44), some (.ref o), some (.int x2), some (.int x3), some (.int x4), some (.int x5), some (.int x6), some (.int ((1 : Int32) <<< (x6 &&& 31)))], [], M8) _ _
        refine kx_go (pc' := 93) (L' := [some (.ref 44), some (.ref o), some (.int x2), some (.int x3), some (.int x4), some (.int x5), some (.int (x6 + (1))), some (.int ((1 : Int32) <<< (x6 &&& 31)))]) (st' := []) 1 rfl ?_
        refine kx_r_goto rfl ?_
        refine kx_wk [true, true, true, true, true, true, true, false] ?_
        exact ih x2 x3 x4 x5 (x6 + (1)) M8 h
set_option maxRecDepth 100000 in
set_option maxHeartbeats 4000000 in
theorem t_X1_goOn {d : Nat} {M' : kx_M} (o : Nat) (ho : kx_land EX o) (rec : Int32 → Int32 → Int32 → Int32 → kx_M → Option kx_M) (hrec : ∀ (a2 : Int32) (a3 : Int32) (a4 : Int32) (a5 : Int32) (M : kx_M) (M' : kx_M), rec a2 a3 a4 a5 M = some M' → kx_Call EX (d + 4) T_X1_goOn [.ref 44, .ref o, .int a2, .int a3, .int a4, .int a5] M none M') (a2 : Int32) (a3 : Int32) (a4 : Int32) (a5 : Int32) (M : kx_M) (h : f_X1_goOn_b o rec a2 a3 a4 a5 M = some M') : kx_Rn EX T_X1_goOn (d + 5) (0, [some (.ref 44), some (.ref o), some (.int a2), some (.int a3), some (.int a4), some (.int a5), none, none], [], M) none M' := by
  unfold f_X1_goOn_b at h
  refine kx_go (pc' := 1) (L' := [some (.ref 44), some (.ref o), some (.int a2), some (.int a3), some (.int a4), some (.int a5), none, none]) (st' := [.int a2]) 1 rfl ?_
  refine kx_r_if_eq rfl (fun hc1 => ?_) (fun hc1 => ?_)
  · rw [if_pos hc1] at h
    refine kx_go (pc' := 13) (L' := [some (.ref 44), some (.ref o), some (.int a2), some (.int a3), some (.int a4), some (.int a5), none, none]) (st' := [.int a3, .ref 44]) 2 rfl ?_
    refine kx_r_callS (as := [.int a3]) (rest := [.ref 44]) (M1 := M) (rv := some (.int (f_J6_bitCount_0f7a4 a3))) rfl klk_X1_39 kst_J6_bitCount_0f7a4 rfl rfl (Nat.le_of_ble_eq_true rfl) (Nat.le_of_ble_eq_true rfl) (c_J6_bitCount_0f7a4 (d := d + 4) a3 M (f_J6_bitCount_0f7a4 a3) rfl) ?_
    show kx_Rn _ _ _ (16, [some (.ref 44), some (.ref o), some (.int a2), some (.int a3), some (.int a4), some (.int a5), none, none], [.int (f_J6_bitCount_0f7a4 a3), .ref 44], M) _ _
    obtain ⟨M4, hv3, h⟩ := kx_bn_some h
    refine kx_q_callV (as := [.int (f_J6_bitCount_0f7a4 a3)]) (rest := []) (M1 := M4) (rv := none) kxo_44 rfl klk_X1_44 kse_X1_compare rfl rfl rfl rfl (Nat.le_of_ble_eq_true rfl) (Nat.le_of_ble_eq_true rfl) (c_X1_compare (d := d + 3) (f_J6_bitCount_0f7a4 a3) M M4 hv3) ?_
    show kx_Rn _ _ _ (19, [some (.ref 44), some (.ref o), some (.int a2), some (.int a3), some (.int a4), some (.int a5), none, none], [], M4) _ _
    cases h
    exact kx_r_vret rfl rfl
  · rw [if_neg hc1] at h
    refine kx_go (pc' := 8) (L' := [some (.ref 44), some (.ref o), some (.int a2), some (.int a3), some (.int a4), some (.int a5), none, none]) (st' := [.int (6 : Int32), .int a5]) 2 rfl ?_
    refine kx_r_icmp_lt rfl (fun hc5 => ?_) (fun hc5 => ?_)
    · rw [if_pos hc5] at h
      refine kx_go (pc' := 23) (L' := [some (.ref 44), some (.ref o), some (.int a2), some (.int a3), some (.int a4), some (.int a5), some (.int (0 : Int32)), none]) (st' := []) 2 rfl ?_
      refine kx_wk [true, true, true, true, true, true, true, false] ?_
      exact t_X1_goOn_23 o ho rec hrec kx_fuel a2 a3 a4 a5 (0 : Int32) M h
    · rw [if_neg hc5] at h
      refine kx_go (pc' := 13) (L' := [some (.ref 44), some (.ref o), some (.int a2), some (.int a3), some (.int a4), some (.int a5), none, none]) (st' := [.int a3, .ref 44]) 2 rfl ?_
      refine kx_r_callS (as := [.int a3]) (rest := [.ref 44]) (M1 := M) (rv := some (.int (f_J6_bitCount_0f7a4 a3))) rfl klk_X1_39 kst_J6_bitCount_0f7a4 rfl rfl (Nat.le_of_ble_eq_true rfl) (Nat.le_of_ble_eq_true rfl) (c_J6_bitCount_0f7a4 (d := d + 4) a3 M (f_J6_bitCount_0f7a4 a3) rfl) ?_
      show kx_Rn _ _ _ (16, [some (.ref 44), some (.ref o), some (.int a2), some (.int a3), some (.int a4), some (.int a5), none, none], [.int (f_J6_bitCount_0f7a4 a3), .ref 44], M) _ _
      obtain ⟨M8, hv7, h⟩ := kx_bn_some h
      refine kx_q_callV (as := [.int (f_J6_bitCount_0f7a4 a3)]) (rest := []) (M1 := M8) (rv := none) kxo_44 rfl klk_X1_44 kse_X1_compare rfl rfl rfl rfl (Nat.le_of_ble_eq_true rfl) (Nat.le_of_ble_eq_true rfl) (c_X1_compare (d := d + 3) (f_J6_bitCount_0f7a4 a3) M M8 hv7) ?_
      show kx_Rn _ _ _ (19, [some (.ref 44), some (.ref o), some (.int a2), some (.int a3), some (.int a4), some (.int a5), none, none], [], M8) _ _
      cases h
      exact kx_r_vret rfl rfl
theorem cr_X1_goOn {d : Nat} (o : Nat) (ho : kx_land EX o) : ∀ (n : Nat) (a2 : Int32) (a3 : Int32) (a4 : Int32) (a5 : Int32) (M : kx_M) (M' : kx_M), f_X1_goOn o n a2 a3 a4 a5 M = some M' → kx_Call EX (d + n + 4) T_X1_goOn [.ref 44, .ref o, .int a2, .int a3, .int a4, .int a5] M none M' := by
  intro n
  induction n with
  | zero =>
    intro a2 a3 a4 a5 M M' h
    cases (show (none : Option kx_M) = some _ from h)
  | succ n ih =>
    intro a2 a3 a4 a5 M M' h
    rw [f_X1_goOn.eq_2] at h
    rw [show d + (n + 1) + 4 = d + n + 5 by omega]
    exact kx_entry kok_X1_goOn (Nat.le_of_ble_eq_true rfl) rfl (t_X1_goOn (d := d + n) o ho _ (fun a2 a3 a4 a5 M M' h => ih a2 a3 a4 a5 M M' h) a2 a3 a4 a5 M h)
theorem c_X1_goOn {d : Nat} (o : Nat) (ho : kx_land EX o) (a2 : Int32) (a3 : Int32) (a4 : Int32) (a5 : Int32) (M : kx_M) (M' : kx_M) (h : f_X1_goOn o 8 a2 a3 a4 a5 M = some M') : kx_Call EX (d + 12) T_X1_goOn [.ref 44, .ref o, .int a2, .int a3, .int a4, .int a5] M none M' := cr_X1_goOn (d := d) o ho 8 a2 a3 a4 a5 M M' h
set_option maxRecDepth 100000 in
set_option maxHeartbeats 4000000 in
theorem t_X1_seek {d : Nat} {M' : kx_M} (o : Nat) (ho : kx_land EX o) (a1 : Int32) (M : kx_M) (h : f_X1_seek o a1 M = some M') : kx_Rn EX T_X1_seek (d + 13) (0, [some (.ref 44), some (.ref o), some (.int a1)], [], M) none M' := by
  unfold f_X1_seek at h
  refine kx_go (pc' := 2) (L' := [some (.ref 44), some (.ref o), some (.int a1)]) (st' := [.int (-1 : Int32), .ref 44]) 2 rfl ?_
  refine kx_q_putI (k := 1) kxo_44 rfl kfw_X1_18 rfl ?_
  refine kx_go (pc' := 10) (L' := [some (.ref 44), some (.ref o), some (.int a1)]) (st' := [.ref o, .ref o, .int a1, .ref o, .ref 44]) 5 rfl ?_
  refine kx_q_callV (as := []) (rest := [.ref o, .int a1, .ref o, .ref 44]) (M1 := (kx_u1 M 44 1 (-1 : Int32))) (rv := some (.int (f_X0_all o (kx_u1 M 44 1 (-1 : Int32))))) ho.1 rfl klk_X1_22 kse_X0_all rfl rfl rfl rfl (Nat.le_of_ble_eq_true rfl) (Nat.le_of_ble_eq_true rfl) (c_X0_all (d := d + 12) o (ho) (kx_u1 M 44 1 (-1 : Int32)) (f_X0_all o (kx_u1 M 44 1 (-1 : Int32))) rfl) ?_
  show kx_Rn _ _ _ (13, [some (.ref 44), some (.ref o), some (.int a1)], [.int (f_X0_all o (kx_u1 M 44 1 (-1 : Int32))), .ref o, .int a1, .ref o, .ref 44], (kx_u1 M 44 1 (-1 : Int32))) _ _
  obtain ⟨v1, hv2, h⟩ := kx_bn_some h
  refine kx_q_callV (as := [.int (f_X0_all o (kx_u1 M 44 1 (-1 : Int32)))]) (rest := [.int a1, .ref o, .ref 44]) (M1 := (kx_u1 M 44 1 (-1 : Int32))) (rv := some (.int v1)) ho.1 rfl klk_X1_28 kse_X0_knownBy rfl rfl rfl rfl (Nat.le_of_ble_eq_true rfl) (Nat.le_of_ble_eq_true rfl) (c_X0_knownBy (d := d + 11) o (ho) (f_X0_all o (kx_u1 M 44 1 (-1 : Int32))) (kx_u1 M 44 1 (-1 : Int32)) v1 hv2) ?_
  show kx_Rn _ _ _ (16, [some (.ref 44), some (.ref o), some (.int a1)], [.int v1, .int a1, .ref o, .ref 44], (kx_u1 M 44 1 (-1 : Int32))) _ _
  refine kx_go (pc' := 17) (L' := [some (.ref 44), some (.ref o), some (.int a1)]) (st' := [.ref o, .int v1, .int a1, .ref o, .ref 44]) 1 rfl ?_
  refine kx_q_getI (k := 8) ho.1 rfl kfl_X1_32 rfl ?_
  refine kx_go (pc' := 21) (L' := [some (.ref 44), some (.ref o), some (.int a1)]) (st' := [.int (0 : Int32), .int ((kx_u1 M 44 1 (-1 : Int32)).1 o 8), .int v1, .int a1, .ref o, .ref 44]) 1 rfl ?_
  obtain ⟨M5, hv4, h⟩ := kx_bn_some h
  refine kx_r_callS (as := [.ref 44, .ref o, .int a1, .int v1, .int ((kx_u1 M 44 1 (-1 : Int32)).1 o 8), .int (0 : Int32)]) (rest := []) (M1 := M5) (rv := none) rfl klk_X1_35 kst_X1_goOn rfl rfl (Nat.le_of_ble_eq_true rfl) (Nat.le_of_ble_eq_true rfl) (c_X1_goOn (d := d + 0) o (ho) a1 v1 ((kx_u1 M 44 1 (-1 : Int32)).1 o 8) (0 : Int32) (kx_u1 M 44 1 (-1 : Int32)) M5 hv4) ?_
  show kx_Rn _ _ _ (24, [some (.ref 44), some (.ref o), some (.int a1)], [], M5) _ _
  cases h
  exact kx_r_vret rfl rfl
theorem c_X1_seek {d : Nat} (o : Nat) (ho : kx_land EX o) (a1 : Int32) (M : kx_M) (M' : kx_M) (h : f_X1_seek o a1 M = some M') : kx_Call EX (d + 13) T_X1_seek [.ref 44, .ref o, .int a1] M none M' := kx_entry kok_X1_seek (Nat.le_of_ble_eq_true rfl) rfl (t_X1_seek (d := d) o ho a1 M h)
set_option maxRecDepth 100000 in
set_option maxHeartbeats 4000000 in
theorem t_X2_holdsRow {E : kx_E} {d : Nat} {r : Bool} (q : Nat) (hq : kx_shelf E q) (M : kx_M) (h : f_X2_holdsRow q M = r) : kx_Rn E T_X2_holdsRow (d + 1) (0, [some (.ref q)], [], M) (some (.int (kx_bi r))) M := by
  unfold f_X2_holdsRow at h
  refine kx_go (pc' := 1) (L' := [some (.ref q)]) (st' := [.ref q]) 1 rfl ?_
  refine kx_q_getI (k := 2) hq.1 rfl kfl_X2_15 rfl ?_
  refine kx_go (pc' := 6) (L' := [some (.ref q)]) (st' := [.int (4 : Int32), .int (0 : Int32), .int (M.1 q 2)]) 2 rfl ?_
  refine kx_r_callN (as := [.int (M.1 q 2), .int (0 : Int32), .int (4 : Int32)]) (rest := []) (M1 := M) (rv := some (.int (kx_bi (f_X4_isWithin (M.1 q 2) (0 : Int32) (4 : Int32))))) rfl knl_X2_19 kpd_X4_isWithin kini_X4 kcd_X4_isWithin kst_X4_isWithin rfl rfl (Nat.le_of_ble_eq_true rfl) (Nat.le_of_ble_eq_true rfl) (c_X4_isWithin (d := d + 0) (M.1 q 2) (0 : Int32) (4 : Int32) M (f_X4_isWithin (M.1 q 2) (0 : Int32) (4 : Int32)) rfl) ?_
  show kx_Rn _ _ _ (9, [some (.ref q)], [.int (kx_bi (f_X4_isWithin (M.1 q 2) (0 : Int32) (4 : Int32)))], M) _ _
  subst h
  exact kx_r_zret rfl rfl (kx_bi_or _)
theorem c_X2_holdsRow {E : kx_E} {d : Nat} (q : Nat) (hq : kx_shelf E q) (M : kx_M) (r : Bool) (h : f_X2_holdsRow q M = r) : kx_Call E (d + 1) T_X2_holdsRow [.ref q] M (some (.int (kx_bi r))) M := kx_entry kok_X2_holdsRow (Nat.le_of_ble_eq_true rfl) rfl (t_X2_holdsRow (d := d) q hq M h)
set_option maxRecDepth 100000 in
set_option maxHeartbeats 4000000 in
theorem t_X2_holdsVisitor {E : kx_E} {d : Nat} {r : Bool} (q : Nat) (hq : kx_shelf E q) (M : kx_M) (h : f_X2_holdsVisitor q M = r) : kx_Rn E T_X2_holdsVisitor (d + 0) (0, [some (.ref q)], [], M) (some (.int (kx_bi r))) M := by
  unfold f_X2_holdsVisitor at h
  refine kx_go (pc' := 1) (L' := [some (.ref q)]) (st' := [.ref q]) 1 rfl ?_
  refine kx_q_getI (k := 2) hq.1 rfl kfl_X2_15 rfl ?_
  refine kx_go (pc' := 6) (L' := [some (.ref q)]) (st' := [.int (10 : Int32), .int (M.1 q 2)]) 1 rfl ?_
  refine kx_r_icmp_lt rfl (fun hc1 => ?_) (fun hc1 => ?_)
  · rw [if_pos hc1] at h
    refine kx_go (pc' := 14) (L' := [some (.ref q)]) (st' := [.int (0 : Int32)]) 1 rfl ?_
    subst h
    exact kx_r_zret rfl rfl (Or.inl rfl)
  · rw [if_neg hc1] at h
    refine kx_go (pc' := 10) (L' := [some (.ref q)]) (st' := [.int (1 : Int32)]) 1 rfl ?_
    refine kx_r_goto rfl ?_
    subst h
    exact kx_r_zret rfl rfl (Or.inr rfl)
theorem c_X2_holdsVisitor {E : kx_E} {d : Nat} (q : Nat) (hq : kx_shelf E q) (M : kx_M) (r : Bool) (h : f_X2_holdsVisitor q M = r) : kx_Call E (d + 0) T_X2_holdsVisitor [.ref q] M (some (.int (kx_bi r))) M := kx_entry kok_X2_holdsVisitor (Nat.le_of_ble_eq_true rfl) rfl (t_X2_holdsVisitor (d := d) q hq M h)
set_option maxRecDepth 100000 in
set_option maxHeartbeats 4000000 in
theorem t_J7_fill_d0a16_6 {E : kx_E} {d : Nat} {M' : kx_M} (wn : Nat) (w : Nat) (hw : kx_ar E w 2 wn) : ∀ (n : Nat) (x1 : Int64) (x3 : Int32) (x4 : Int32) (M : kx_M), f_J7_fill_d0a16_6 wn w n x1 x3 x4 M = some M' → kx_Rn E T_J7_fill_d0a16 (d + 0) (6, [some (.ref w), some (.long x1), none, some (.int x3), some (.int x4)], [], M) none M' := by
  intro n
  induction n with
  | zero =>
    intro x1 x3 x4 M h
    cases (show (none : Option kx_M) = some _ from h)
  | succ n ih =>
    intro x1 x3 x4 M h
    rw [f_J7_fill_d0a16_6.eq_2] at h
    refine kx_go (pc' := 9) (L' := [some (.ref w), some (.long x1), none, some (.int x3), some (.int x4)]) (st' := [.int x4, .int x3]) 2 rfl ?_
    refine kx_r_icmp_ge rfl (fun hc1 => ?_) (fun hc1 => ?_)
    · rw [if_pos hc1] at h
      cases h
      exact kx_r_vret rfl rfl
    · rw [if_neg hc1] at h
      refine kx_go (pc' := 15) (L' := [some (.ref w), some (.long x1), none, some (.int x3), some (.int x4)]) (st' := [.long x1, .int x3, .ref w]) 3 rfl ?_
      obtain ⟨hi2, h⟩ := kx_ck_some h
      refine kx_q_last (hw) rfl hi2 ?_
      refine kx_go (pc' := 19) (L' := [some (.ref w), some (.long x1), none, some (.int (x3 + (1))), some (.int x4)]) (st' := []) 1 rfl ?_
      refine kx_r_goto rfl ?_
      refine kx_wk [true, true, false, true, true] ?_
      exact ih x1 (x3 + (1)) x4 (kx_u2 M w (x3).toNatClampNeg x1) h
set_option maxRecDepth 100000 in
set_option maxHeartbeats 4000000 in
theorem t_J7_fill_d0a16 {E : kx_E} {d : Nat} {M' : kx_M} (wn : Nat) (w : Nat) (hw : kx_ar E w 2 wn) (a1 : Int64) (M : kx_M) (h : f_J7_fill_d0a16 wn w a1 M = some M') : kx_Rn E T_J7_fill_d0a16 (d + 0) (0, [some (.ref w), some (.long a1), none, none, none], [], M) none M' := by
  unfold f_J7_fill_d0a16 at h
  refine kx_go (pc' := 3) (L' := [some (.ref w), some (.long a1), none, some (.int (0 : Int32)), none]) (st' := [.ref w]) 3 rfl ?_
  refine kx_q_alen (hw) rfl (by decide) ?_
  refine kx_go (pc' := 6) (L' := [some (.ref w), some (.long a1), none, some (.int (0 : Int32)), some (.int (Int32.ofNat wn))]) (st' := []) 1 rfl ?_
  refine kx_wk [true, true, false, true, true] ?_
  exact t_J7_fill_d0a16_6 wn w hw kx_fuel a1 (0 : Int32) (Int32.ofNat wn) M h
theorem c_J7_fill_d0a16 {E : kx_E} {d : Nat} (wn : Nat) (w : Nat) (hw : kx_ar E w 2 wn) (a1 : Int64) (M : kx_M) (M' : kx_M) (h : f_J7_fill_d0a16 wn w a1 M = some M') : kx_Call E (d + 0) T_J7_fill_d0a16 [.ref w, .long a1] M none M' := kx_entry kok_J7_fill_d0a16 (Nat.le_of_ble_eq_true rfl) rfl (t_J7_fill_d0a16 (d := d) wn w hw a1 M h)
set_option maxRecDepth 100000 in
set_option maxHeartbeats 4000000 in
theorem t_X2_holdRow {E : kx_E} {d : Nat} {M' : kx_M} (q : Nat) (hq : kx_shelf E q) (a0 : Int32) (a1 : Int32) (M : kx_M) (h : f_X2_holdRow q a0 a1 M = some M') : kx_Rn E T_X2_holdRow (d + 1) (0, [some (.ref q), some (.int a0), some (.int a1)], [], M) none M' := by
  unfold f_X2_holdRow at h
  refine kx_go (pc' := 2) (L' := [some (.ref q), some (.int a0), some (.int a1)]) (st' := [.int a0, .ref q]) 2 rfl ?_
  refine kx_q_putI (k := 2) hq.1 rfl kfw_X2_15 rfl ?_
  refine kx_go (pc' := 7) (L' := [some (.ref q), some (.int a0), some (.int a1)]) (st' := [.int a1, .ref q]) 2 rfl ?_
  refine kx_q_putI (k := 1) hq.1 rfl kfw_X2_23 rfl ?_
  refine kx_go (pc' := 11) (L' := [some (.ref q), some (.int a0), some (.int a1)]) (st' := [.ref q]) 1 rfl ?_
  refine kx_q_getR (k := 0) (j := (q + 1)) hq.1 rfl kfl_X2_9 rfl ?_
  refine kx_go (pc' := 15) (L' := [some (.ref q), some (.int a0), some (.int a1)]) (st' := [.long (0 : Int64), .ref (q + 1)]) 1 rfl ?_
  obtain ⟨M3, hv2, h⟩ := kx_bn_some h
  refine kx_r_callS (as := [.ref (q + 1), .long (0 : Int64)]) (rest := []) (M1 := M3) (rv := none) rfl klk_X2_26 kst_J7_fill_d0a16 rfl rfl (Nat.le_of_ble_eq_true rfl) (Nat.le_of_ble_eq_true rfl) (c_J7_fill_d0a16 (d := d + 0) 40 (q + 1) (hq.2) (0 : Int64) (kx_u1 (kx_u1 M q 2 a0) q 1 a1) M3 hv2) ?_
  show kx_Rn _ _ _ (18, [some (.ref q), some (.int a0), some (.int a1)], [], M3) _ _
  cases h
  exact kx_r_vret rfl rfl
theorem c_X2_holdRow {E : kx_E} {d : Nat} (q : Nat) (hq : kx_shelf E q) (a0 : Int32) (a1 : Int32) (M : kx_M) (M' : kx_M) (h : f_X2_holdRow q a0 a1 M = some M') : kx_Call E (d + 1) T_X2_holdRow [.ref q, .int a0, .int a1] M none M' := kx_entry kok_X2_holdRow (Nat.le_of_ble_eq_true rfl) rfl (t_X2_holdRow (d := d) q hq a0 a1 M h)
set_option maxRecDepth 100000 in
set_option maxHeartbeats 4000000 in
theorem t_X2_hasPart {E : kx_E} {d : Nat} {r : Bool} (q : Nat) (hq : kx_shelf E q) (M : kx_M) (a0 : Int32) (a1 : Int32) (h : f_X2_hasPart q M a0 a1 = r) : kx_Rn E T_X2_hasPart (d + 1) (0, [some (.ref q), some (.int a0), some (.int a1)], [], M) (some (.int (kx_bi r))) M := by
  unfold f_X2_hasPart at h
  refine kx_go (pc' := 3) (L' := [some (.ref q), some (.int a0), some (.int a1)]) (st' := [.ref q, .int (0 : Int32), .int a1]) 3 rfl ?_
  refine kx_q_getI (k := 1) hq.1 rfl kfl_X2_23 rfl ?_
  refine kx_r_callN (as := [.int a1, .int (0 : Int32), .int (M.1 q 1)]) (rest := []) (M1 := M) (rv := some (.int (kx_bi (f_X4_isWithin a1 (0 : Int32) (M.1 q 1))))) rfl knl_X2_19 kpd_X4_isWithin kini_X4 kcd_X4_isWithin kst_X4_isWithin rfl rfl (Nat.le_of_ble_eq_true rfl) (Nat.le_of_ble_eq_true rfl) (c_X4_isWithin (d := d + 0) a1 (0 : Int32) (M.1 q 1) M (f_X4_isWithin a1 (0 : Int32) (M.1 q 1)) rfl) ?_
  show kx_Rn _ _ _ (9, [some (.ref q), some (.int a0), some (.int a1)], [.int (kx_bi (f_X4_isWithin a1 (0 : Int32) (M.1 q 1)))], M) _ _
  refine kx_q_zeq rfl (fun hc1 => ?_) (fun hc1 => ?_)
  · rw [if_neg hc1] at h
    refine kx_go (pc' := 31) (L' := [some (.ref q), some (.int a0), some (.int a1)]) (st' := [.int (0 : Int32)]) 1 rfl ?_
    subst h
    exact kx_r_zret rfl rfl (Or.inl rfl)
  · rw [if_pos hc1] at h
    refine kx_go (pc' := 15) (L' := [some (.ref q), some (.int a0), some (.int a1)]) (st' := [.ref q, .int (0 : Int32), .int a0]) 3 rfl ?_
    refine kx_q_getI (k := 1) hq.1 rfl kfl_X2_23 rfl ?_
    refine kx_go (pc' := 20) (L' := [some (.ref q), some (.int a0), some (.int a1)]) (st' := [.int ((M.1 q 1) - a1), .int (0 : Int32), .int a0]) 2 rfl ?_
    refine kx_r_callN (as := [.int a0, .int (0 : Int32), .int ((M.1 q 1) - a1)]) (rest := []) (M1 := M) (rv := some (.int (kx_bi (f_X4_isWithin a0 (0 : Int32) ((M.1 q 1) - a1))))) rfl knl_X2_19 kpd_X4_isWithin kini_X4 kcd_X4_isWithin kst_X4_isWithin rfl rfl (Nat.le_of_ble_eq_true rfl) (Nat.le_of_ble_eq_true rfl) (c_X4_isWithin (d := d + 0) a0 (0 : Int32) ((M.1 q 1) - a1) M (f_X4_isWithin a0 (0 : Int32) ((M.1 q 1) - a1)) rfl) ?_
    show kx_Rn _ _ _ (23, [some (.ref q), some (.int a0), some (.int a1)], [.int (kx_bi (f_X4_isWithin a0 (0 : Int32) ((M.1 q 1) - a1)))], M) _ _
    refine kx_q_zeq rfl (fun hc2 => ?_) (fun hc2 => ?_)
    · rw [if_neg hc2] at h
      refine kx_go (pc' := 31) (L' := [some (.ref q), some (.int a0), some (.int a1)]) (st' := [.int (0 : Int32)]) 1 rfl ?_
      subst h
      exact kx_r_zret rfl rfl (Or.inl rfl)
    · rw [if_pos hc2] at h
      refine kx_go (pc' := 27) (L' := [some (.ref q), some (.int a0), some (.int a1)]) (st' := [.int (1 : Int32)]) 1 rfl ?_
      refine kx_r_goto rfl ?_
      subst h
      exact kx_r_zret rfl rfl (Or.inr rfl)
theorem c_X2_hasPart {E : kx_E} {d : Nat} (q : Nat) (hq : kx_shelf E q) (a0 : Int32) (a1 : Int32) (M : kx_M) (r : Bool) (h : f_X2_hasPart q M a0 a1 = r) : kx_Call E (d + 1) T_X2_hasPart [.ref q, .int a0, .int a1] M (some (.int (kx_bi r))) M := kx_entry kok_X2_hasPart (Nat.le_of_ble_eq_true rfl) rfl (t_X2_hasPart (d := d) q hq M a0 a1 h)
set_option maxRecDepth 100000 in
set_option maxHeartbeats 4000000 in
theorem t_X2_asKept {E : kx_E} {d : Nat} {r : Int64} (M : kx_M) (a0 : Int32) (a1 : Int64) (h : f_X2_asKept a0 a1 = r) : kx_Rn E T_X2_asKept (d + 0) (0, [some (.int a0), some (.long a1), none], [], M) (some (.long r)) M := by
  unfold f_X2_asKept at h
  refine kx_go (pc' := 1) (L' := [some (.int a0), some (.long a1), none]) (st' := [.int a0]) 1 rfl ?_
  by_cases hc1 : a0 = (0 : Int32)
  · rw [if_pos hc1] at h
    refine kx_q_tsI (0 : Int32) (tgt := 32) (show decode T_X2_asKept.2.1 1 = .ok (.tableswitch 47 0 3 #[31, 36, 41, 45], 31) from by decide +kernel) hc1 (by decide) (by decide) rfl (by decide) ?_
    refine kx_go (pc' := 36) (L' := [some (.int a0), some (.long a1), none]) (st' := [.long (((a1).toInt32).toInt8.toInt32).toInt64]) 4 rfl ?_
    subst h
    exact kx_r_lret rfl rfl
  · rw [if_neg hc1] at h
    by_cases hc2 : a0 = (1 : Int32)
    · rw [if_pos hc2] at h
      refine kx_q_tsI (1 : Int32) (tgt := 37) (show decode T_X2_asKept.2.1 1 = .ok (.tableswitch 47 0 3 #[31, 36, 41, 45], 31) from by decide +kernel) hc2 (by decide) (by decide) rfl (by decide) ?_
      refine kx_go (pc' := 41) (L' := [some (.int a0), some (.long a1), none]) (st' := [.long (((a1).toInt32).toInt16.toInt32).toInt64]) 4 rfl ?_
      subst h
      exact kx_r_lret rfl rfl
    · rw [if_neg hc2] at h
      by_cases hc3 : a0 = (2 : Int32)
      · rw [if_pos hc3] at h
        refine kx_q_tsI (2 : Int32) (tgt := 42) (show decode T_X2_asKept.2.1 1 = .ok (.tableswitch 47 0 3 #[31, 36, 41, 45], 31) from by decide +kernel) hc3 (by decide) (by decide) rfl (by decide) ?_
        refine kx_go (pc' := 45) (L' := [some (.int a0), some (.long a1), none]) (st' := [.long ((a1).toInt32).toInt64]) 3 rfl ?_
        subst h
        exact kx_r_lret rfl rfl
      · rw [if_neg hc3] at h
        by_cases hc4 : a0 = (3 : Int32)
        · rw [if_pos hc4] at h
          refine kx_q_tsI (3 : Int32) (tgt := 46) (show decode T_X2_asKept.2.1 1 = .ok (.tableswitch 47 0 3 #[31, 36, 41, 45], 31) from by decide +kernel) hc4 (by decide) (by decide) rfl (by decide) ?_
          refine kx_go (pc' := 47) (L' := [some (.int a0), some (.long a1), none]) (st' := [.long a1]) 1 rfl ?_
          subst h
          exact kx_r_lret rfl rfl
        · rw [if_neg hc4] at h
          have ghc1 : ¬ (a0).toInt = 0 := fun q => hc1 (Int32.toInt_inj.mp (q.trans (by decide)))
          have ghc2 : ¬ (a0).toInt = 1 := fun q => hc2 (Int32.toInt_inj.mp (q.trans (by decide)))
          have ghc3 : ¬ (a0).toInt = 2 := fun q => hc3 (Int32.toInt_inj.mp (q.trans (by decide)))
          have ghc4 : ¬ (a0).toInt = 3 := fun q => hc4 (Int32.toInt_inj.mp (q.trans (by decide)))
          refine kx_q_tsO (tgt := 48) (show decode T_X2_asKept.2.1 1 = .ok (.tableswitch 47 0 3 #[31, 36, 41, 45], 31) from by decide +kernel) (by omega) (by decide) ?_
          refine kx_go (pc' := 51) (L' := [some (.int a0), some (.long a1), none]) (st' := [.int (lg_cmp a1 (0 : Int64))]) 3 rfl ?_
          refine kx_r_if_eq rfl (fun hc5 => ?_) (fun hc5 => ?_)
          · rw [if_pos hc5] at h
            refine kx_go (pc' := 59) (L' := [some (.int a0), some (.long a1), none]) (st' := [.long (0 : Int64)]) 1 rfl ?_
            subst h
            exact kx_r_lret rfl rfl
          · rw [if_neg hc5] at h
            refine kx_go (pc' := 55) (L' := [some (.int a0), some (.long a1), none]) (st' := [.long (1 : Int64)]) 1 rfl ?_
            refine kx_r_goto rfl ?_
            subst h
            exact kx_r_lret rfl rfl
theorem c_X2_asKept {E : kx_E} {d : Nat} (a0 : Int32) (a1 : Int64) (M : kx_M) (r : Int64) (h : f_X2_asKept a0 a1 = r) : kx_Call E (d + 0) T_X2_asKept [.int a0, .long a1] M (some (.long r)) M := kx_entry kok_X2_asKept (Nat.le_of_ble_eq_true rfl) rfl (t_X2_asKept (d := d) M a0 a1 h)
set_option maxRecDepth 100000 in
set_option maxHeartbeats 4000000 in
theorem t_X2_put {E : kx_E} {d : Nat} {M' : kx_M} (q : Nat) (hq : kx_shelf E q) (a0 : Int32) (a1 : Int64) (M : kx_M) (h : f_X2_put q a0 a1 M = some M') : kx_Rn E T_X2_put (d + 1) (0, [some (.ref q), some (.int a0), some (.long a1), none], [], M) none M' := by
  unfold f_X2_put at h
  refine kx_go (pc' := 1) (L' := [some (.ref q), some (.int a0), some (.long a1), none]) (st' := [.ref q]) 1 rfl ?_
  refine kx_q_getR (k := 0) (j := (q + 1)) hq.1 rfl kfl_X2_9 rfl ?_
  refine kx_go (pc' := 6) (L' := [some (.ref q), some (.int a0), some (.long a1), none]) (st' := [.ref q, .int a0, .ref (q + 1)]) 2 rfl ?_
  refine kx_q_getI (k := 2) hq.1 rfl kfl_X2_15 rfl ?_
  refine kx_go (pc' := 10) (L' := [some (.ref q), some (.int a0), some (.long a1), none]) (st' := [.long a1, .int (M.1 q 2), .int a0, .ref (q + 1)]) 1 rfl ?_
  refine kx_r_callS (as := [.int (M.1 q 2), .long a1]) (rest := [.int a0, .ref (q + 1)]) (M1 := M) (rv := some (.long (f_X2_asKept (M.1 q 2) a1))) rfl klk_X2_32 kst_X2_asKept rfl rfl (Nat.le_of_ble_eq_true rfl) (Nat.le_of_ble_eq_true rfl) (c_X2_asKept (d := d + 0) (M.1 q 2) a1 M (f_X2_asKept (M.1 q 2) a1) rfl) ?_
  show kx_Rn _ _ _ (13, [some (.ref q), some (.int a0), some (.long a1), none], [.long (f_X2_asKept (M.1 q 2) a1), .int a0, .ref (q + 1)], M) _ _
  obtain ⟨hi1, h⟩ := kx_ck_some h
  refine kx_q_last (hq.2) rfl hi1 ?_
  cases h
  exact kx_r_vret rfl rfl
theorem c_X2_put {E : kx_E} {d : Nat} (q : Nat) (hq : kx_shelf E q) (a0 : Int32) (a1 : Int64) (M : kx_M) (M' : kx_M) (h : f_X2_put q a0 a1 M = some M') : kx_Call E (d + 1) T_X2_put [.ref q, .int a0, .long a1] M none M' := kx_entry kok_X2_put (Nat.le_of_ble_eq_true rfl) rfl (t_X2_put (d := d) q hq a0 a1 M h)
set_option maxRecDepth 100000 in
set_option maxHeartbeats 4000000 in
theorem t_X3_hasRoom {d : Nat} {r : Bool} (M : kx_M) (h : f_X3_hasRoom M = r) : kx_Rn EX T_X3_hasRoom (d + 0) (0, [some (.ref 42)], [], M) (some (.int (kx_bi r))) M := by
  unfold f_X3_hasRoom at h
  refine kx_go (pc' := 1) (L' := [some (.ref 42)]) (st' := [.ref 42]) 1 rfl ?_
  refine kx_q_getI (k := 1) kxo_42 rfl kfl_X3_15 rfl ?_
  refine kx_go (pc' := 7) (L' := [some (.ref 42)]) (st' := [.int (250 : Int32), .int (M.1 42 1)]) 1 rfl ?_
  refine kx_r_icmp_ge rfl (fun hc1 => ?_) (fun hc1 => ?_)
  · rw [if_pos hc1] at h
    refine kx_go (pc' := 15) (L' := [some (.ref 42)]) (st' := [.int (0 : Int32)]) 1 rfl ?_
    subst h
    exact kx_r_zret rfl rfl (Or.inl rfl)
  · rw [if_neg hc1] at h
    refine kx_go (pc' := 11) (L' := [some (.ref 42)]) (st' := [.int (1 : Int32)]) 1 rfl ?_
    refine kx_r_goto rfl ?_
    subst h
    exact kx_r_zret rfl rfl (Or.inr rfl)
theorem c_X3_hasRoom {d : Nat} (M : kx_M) (r : Bool) (h : f_X3_hasRoom M = r) : kx_Call EX (d + 0) T_X3_hasRoom [.ref 42] M (some (.int (kx_bi r))) M := kx_entry kok_X3_hasRoom (Nat.le_of_ble_eq_true rfl) rfl (t_X3_hasRoom (d := d) M h)
set_option maxRecDepth 100000 in
set_option maxHeartbeats 4000000 in
theorem t_X3_add {d : Nat} {M' : kx_M} (a0 : Int32) (M : kx_M) (h : f_X3_add a0 M = some M') : kx_Rn EX T_X3_add (d + 0) (0, [some (.ref 42), some (.int a0)], [], M) none M' := by
  unfold f_X3_add at h
  refine kx_go (pc' := 1) (L' := [some (.ref 42), some (.int a0)]) (st' := [.ref 42]) 1 rfl ?_
  refine kx_q_getR (k := 0) (j := 43) kxo_42 rfl kfl_X3_9 rfl ?_
  refine kx_go (pc' := 5) (L' := [some (.ref 42), some (.int a0)]) (st' := [.ref 42, .ref 43]) 1 rfl ?_
  refine kx_q_getI (k := 1) kxo_42 rfl kfl_X3_15 rfl ?_
  refine kx_go (pc' := 10) (L' := [some (.ref 42), some (.int a0)]) (st' := [.int ((a0).toUInt32 % 65536).toInt32, .int (M.1 42 1), .ref 43]) 2 rfl ?_
  obtain ⟨hi1, h⟩ := kx_ck_some h
  refine kx_q_cast (kxa_43) rfl hi1 ?_
  refine kx_go (pc' := 13) (L' := [some (.ref 42), some (.int a0)]) (st' := [.ref 42, .ref 42]) 2 rfl ?_
  refine kx_q_getI (k := 1) kxo_42 rfl kfl_X3_15 rfl ?_
  refine kx_go (pc' := 18) (L' := [some (.ref 42), some (.int a0)]) (st' := [.int (((kx_u1 M 43 ((M.1 42 1)).toNatClampNeg (vp_nar .char ((a0).toUInt32 % 65536).toInt32)).1 42 1) + (1 : Int32)), .ref 42]) 2 rfl ?_
  refine kx_q_putI (k := 1) kxo_42 rfl kfw_X3_15 rfl ?_
  obtain ⟨M2, hM2, h⟩ := kx_lt_ex h
  rw [← hM2]
  cases h
  exact kx_r_vret rfl rfl
theorem c_X3_add {d : Nat} (a0 : Int32) (M : kx_M) (M' : kx_M) (h : f_X3_add a0 M = some M') : kx_Call EX (d + 0) T_X3_add [.ref 42, .int a0] M none M' := kx_entry kok_X3_add (Nat.le_of_ble_eq_true rfl) rfl (t_X3_add (d := d) a0 M h)
set_option maxRecDepth 100000 in
set_option maxHeartbeats 4000000 in
theorem t_X3_sortOf_14 {E : kx_E} {d : Nat} {r : Int32} (M : kx_M) (x0 : Int32) (h : f_X3_sortOf_14 x0 = r) : kx_Rn E T_X3_sortOf (d + 0) (14, [some (.int x0)], [], M) (some (.int r)) M := by
  unfold f_X3_sortOf_14 at h
  refine kx_go (pc' := 17) (L' := [some (.int x0)]) (st' := [.int (48 : Int32), .int x0]) 2 rfl ?_
  refine kx_r_icmp_lt rfl (fun hc1 => ?_) (fun hc1 => ?_)
  · rw [if_pos hc1] at h
    refine kx_go (pc' := 31) (L' := [some (.int x0)]) (st' := [.int (59 : Int32), .int x0]) 2 rfl ?_
    refine kx_r_icmp_ne rfl (fun hc2 => ?_) (fun hc2 => ?_)
    · rw [if_neg hc2] at h
      refine kx_go (pc' := 39) (L' := [some (.int x0)]) (st' := [.int (4 : Int32)]) 1 rfl ?_
      subst h
      exact kx_r_iret rfl rfl
    · rw [if_pos hc2] at h
      refine kx_go (pc' := 35) (L' := [some (.int x0)]) (st' := [.int (3 : Int32)]) 1 rfl ?_
      refine kx_r_goto rfl ?_
      subst h
      exact kx_r_iret rfl rfl
  · rw [if_neg hc1] at h
    refine kx_go (pc' := 23) (L' := [some (.int x0)]) (st' := [.int (57 : Int32), .int x0]) 2 rfl ?_
    refine kx_r_icmp_gt rfl (fun hc3 => ?_) (fun hc3 => ?_)
    · rw [if_pos hc3] at h
      refine kx_go (pc' := 31) (L' := [some (.int x0)]) (st' := [.int (59 : Int32), .int x0]) 2 rfl ?_
      refine kx_r_icmp_ne rfl (fun hc4 => ?_) (fun hc4 => ?_)
      · rw [if_neg hc4] at h
        refine kx_go (pc' := 39) (L' := [some (.int x0)]) (st' := [.int (4 : Int32)]) 1 rfl ?_
        subst h
        exact kx_r_iret rfl rfl
      · rw [if_pos hc4] at h
        refine kx_go (pc' := 35) (L' := [some (.int x0)]) (st' := [.int (3 : Int32)]) 1 rfl ?_
        refine kx_r_goto rfl ?_
        subst h
        exact kx_r_iret rfl rfl
    · rw [if_neg hc3] at h
      refine kx_go (pc' := 27) (L' := [some (.int x0)]) (st' := [.int (2 : Int32)]) 1 rfl ?_
      subst h
      exact kx_r_iret rfl rfl
set_option maxRecDepth 100000 in
set_option maxHeartbeats 4000000 in
theorem t_X3_sortOf {E : kx_E} {d : Nat} {r : Int32} (M : kx_M) (a0 : Int32) (h : f_X3_sortOf a0 = r) : kx_Rn E T_X3_sortOf (d + 0) (0, [some (.int a0)], [], M) (some (.int r)) M := by
  unfold f_X3_sortOf at h
  refine kx_go (pc' := 3) (L' := [some (.int a0)]) (st' := [.int (97 : Int32), .int a0]) 2 rfl ?_
  refine kx_r_icmp_lt rfl (fun hc1 => ?_) (fun hc1 => ?_)
  · rw [if_pos hc1] at h
    refine kx_wk [true] ?_
    exact t_X3_sortOf_14 M a0 h
  · rw [if_neg hc1] at h
    refine kx_go (pc' := 9) (L' := [some (.int a0)]) (st' := [.int (122 : Int32), .int a0]) 2 rfl ?_
    refine kx_r_icmp_gt rfl (fun hc2 => ?_) (fun hc2 => ?_)
    · rw [if_pos hc2] at h
      refine kx_wk [true] ?_
      exact t_X3_sortOf_14 M a0 h
    · rw [if_neg hc2] at h
      refine kx_go (pc' := 13) (L' := [some (.int a0)]) (st' := [.int (1 : Int32)]) 1 rfl ?_
      subst h
      exact kx_r_iret rfl rfl
theorem c_X3_sortOf {E : kx_E} {d : Nat} (a0 : Int32) (M : kx_M) (r : Int32) (h : f_X3_sortOf a0 = r) : kx_Call E (d + 0) T_X3_sortOf [.int a0] M (some (.int r)) M := kx_entry kok_X3_sortOf (Nat.le_of_ble_eq_true rfl) rfl (t_X3_sortOf (d := d) M a0 h)
set_option maxRecDepth 100000 in
set_option maxHeartbeats 4000000 in
theorem t_X3_step_113 {d : Nat} {M' : kx_M} : ∀ (n : Nat) (M : kx_M), f_X3_step_113 n M = some M' → kx_Rn EX T_X3_step (d + 1) (113, [some (.ref 42)], [], M) none M' := by
  intro n
  induction n with
  | zero =>
    intro M h
    cases (show (none : Option kx_M) = some _ from h)
  | succ n ih =>
    intro M h
    rw [f_X3_step_113.eq_2] at h
    refine kx_go (pc' := 114) (L' := [some (.ref 42)]) (st' := [.ref 42]) 1 rfl ?_
    refine kx_q_getI (k := 3) kxo_42 rfl kfl_X3_19 rfl ?_
    refine kx_go (pc' := 118) (L' := [some (.ref 42)]) (st' := [.ref 42, .int (M.1 42 3)]) 1 rfl ?_
    refine kx_q_getI (k := 1) kxo_42 rfl kfl_X3_15 rfl ?_
    refine kx_r_icmp_ge rfl (fun hc1 => ?_) (fun hc1 => ?_)
    · rw [if_pos hc1] at h
      cases h
      exact kx_r_vret rfl rfl
    · rw [if_neg hc1] at h
      refine kx_go (pc' := 125) (L' := [some (.ref 42)]) (st' := [.ref 42]) 1 rfl ?_
      refine kx_q_getR (k := 0) (j := 43) kxo_42 rfl kfl_X3_9 rfl ?_
      refine kx_go (pc' := 129) (L' := [some (.ref 42)]) (st' := [.ref 42, .ref 43]) 1 rfl ?_
      refine kx_q_getI (k := 3) kxo_42 rfl kfl_X3_19 rfl ?_
      obtain ⟨hi2, h⟩ := kx_ck_some h
      refine kx_q_cald (kxa_43) rfl hi2 ?_
      refine kx_r_callS (as := [.int (M.1 43 ((M.1 42 3)).toNatClampNeg)]) (rest := []) (M1 := M) (rv := some (.int (f_X3_sortOf (M.1 43 ((M.1 42 3)).toNatClampNeg)))) rfl klk_X3_128 kst_X3_sortOf rfl rfl (Nat.le_of_ble_eq_true rfl) (Nat.le_of_ble_eq_true rfl) (c_X3_sortOf (d := d + 0) (M.1 43 ((M.1 42 3)).toNatClampNeg) M (f_X3_sortOf (M.1 43 ((M.1 42 3)).toNatClampNeg)) rfl) ?_
      show kx_Rn _ _ _ (136, [some (.ref 42)], [.int (f_X3_sortOf (M.1 43 ((M.1 42 3)).toNatClampNeg))], M) _ _
      refine kx_go (pc' := 137) (L' := [some (.ref 42)]) (st' := [.ref 42, .int (f_X3_sortOf (M.1 43 ((M.1 42 3)).toNatClampNeg))]) 1 rfl ?_
      refine kx_q_getI (k := 4) kxo_42 rfl kfl_X3_32 rfl ?_
      refine kx_r_icmp_ne rfl (fun hc3 => ?_) (fun hc3 => ?_)
      · rw [if_neg hc3] at h
        cases h
        exact kx_r_vret rfl rfl
      · rw [if_pos hc3] at h
        refine kx_go (pc' := 145) (L' := [some (.ref 42)]) (st' := [.ref 42, .ref 42]) 2 rfl ?_
        refine kx_q_getI (k := 3) kxo_42 rfl kfl_X3_19 rfl ?_
        refine kx_go (pc' := 150) (L' := [some (.ref 42)]) (st' := [.int ((M.1 42 3) + (1 : Int32)), .ref 42]) 2 rfl ?_
        refine kx_q_putI (k := 3) kxo_42 rfl kfw_X3_19 rfl ?_
        refine kx_r_goto rfl ?_
        refine kx_wk [true] ?_
        exact ih (kx_u1 M 42 3 ((M.1 42 3) + (1 : Int32))) h
set_option maxRecDepth 100000 in
set_option maxHeartbeats 4000000 in
theorem t_X3_step_46 {d : Nat} {M' : kx_M} (M : kx_M) (h : f_X3_step_46 M = some M') : kx_Rn EX T_X3_step (d + 1) (46, [some (.ref 42)], [], M) none M' := by
  unfold f_X3_step_46 at h
  refine kx_go (pc' := 48) (L' := [some (.ref 42)]) (st' := [.ref 42, .ref 42]) 2 rfl ?_
  refine kx_q_getI (k := 2) kxo_42 rfl kfl_X3_26 rfl ?_
  refine kx_q_putI (k := 3) kxo_42 rfl kfw_X3_19 rfl ?_
  refine kx_go (pc' := 55) (L' := [some (.ref 42)]) (st' := [.ref 42]) 1 rfl ?_
  refine kx_q_getI (k := 2) kxo_42 rfl kfl_X3_26 rfl ?_
  refine kx_go (pc' := 59) (L' := [some (.ref 42)]) (st' := [.ref 42, .int ((kx_u1 M 42 3 (M.1 42 2)).1 42 2)]) 1 rfl ?_
  refine kx_q_getI (k := 1) kxo_42 rfl kfl_X3_15 rfl ?_
  refine kx_r_icmp_lt rfl (fun hc1 => ?_) (fun hc1 => ?_)
  · rw [if_pos hc1] at h
    refine kx_go (pc' := 73) (L' := [some (.ref 42)]) (st' := [.ref 42, .ref 42]) 2 rfl ?_
    refine kx_q_getR (k := 0) (j := 43) kxo_42 rfl kfl_X3_9 rfl ?_
    refine kx_go (pc' := 77) (L' := [some (.ref 42)]) (st' := [.ref 42, .ref 43, .ref 42]) 1 rfl ?_
    refine kx_q_getI (k := 2) kxo_42 rfl kfl_X3_26 rfl ?_
    obtain ⟨hi2, h⟩ := kx_ck_some h
    refine kx_q_cald (kxa_43) rfl hi2 ?_
    refine kx_r_callS (as := [.int ((kx_u1 M 42 3 (M.1 42 2)).1 43 (((kx_u1 M 42 3 (M.1 42 2)).1 42 2)).toNatClampNeg)]) (rest := [.ref 42]) (M1 := (kx_u1 M 42 3 (M.1 42 2))) (rv := some (.int (f_X3_sortOf ((kx_u1 M 42 3 (M.1 42 2)).1 43 (((kx_u1 M 42 3 (M.1 42 2)).1 42 2)).toNatClampNeg)))) rfl klk_X3_128 kst_X3_sortOf rfl rfl (Nat.le_of_ble_eq_true rfl) (Nat.le_of_ble_eq_true rfl) (c_X3_sortOf (d := d + 0) ((kx_u1 M 42 3 (M.1 42 2)).1 43 (((kx_u1 M 42 3 (M.1 42 2)).1 42 2)).toNatClampNeg) (kx_u1 M 42 3 (M.1 42 2)) (f_X3_sortOf ((kx_u1 M 42 3 (M.1 42 2)).1 43 (((kx_u1 M 42 3 (M.1 42 2)).1 42 2)).toNatClampNeg)) rfl) ?_
    show kx_Rn _ _ _ (84, [some (.ref 42)], [.int (f_X3_sortOf ((kx_u1 M 42 3 (M.1 42 2)).1 43 (((kx_u1 M 42 3 (M.1 42 2)).1 42 2)).toNatClampNeg)), .ref 42], (kx_u1 M 42 3 (M.1 42 2))) _ _
    refine kx_q_putI (k := 4) kxo_42 rfl kfw_X3_32 rfl ?_
    obtain ⟨M3, hM3, h⟩ := kx_lt_ex h
    rw [← hM3]
    refine kx_go (pc' := 89) (L' := [some (.ref 42)]) (st' := [.ref 42, .ref 42]) 2 rfl ?_
    refine kx_q_getI (k := 3) kxo_42 rfl kfl_X3_19 rfl ?_
    refine kx_go (pc' := 94) (L' := [some (.ref 42)]) (st' := [.int ((M3.1 42 3) + (1 : Int32)), .ref 42]) 2 rfl ?_
    refine kx_q_putI (k := 3) kxo_42 rfl kfw_X3_19 rfl ?_
    refine kx_go (pc' := 98) (L' := [some (.ref 42)]) (st' := [.ref 42]) 1 rfl ?_
    refine kx_q_getI (k := 4) kxo_42 rfl kfl_X3_32 rfl ?_
    refine kx_go (pc' := 102) (L' := [some (.ref 42)]) (st' := [.int (1 : Int32), .int ((kx_u1 M3 42 3 ((M3.1 42 3) + (1 : Int32))).1 42 4)]) 1 rfl ?_
    refine kx_r_icmp_eq rfl (fun hc4 => ?_) (fun hc4 => ?_)
    · rw [if_pos hc4] at h
      refine kx_wk [true] ?_
      exact t_X3_step_113 kx_fuel (kx_u1 M3 42 3 ((M3.1 42 3) + (1 : Int32))) h
    · rw [if_neg hc4] at h
      refine kx_go (pc' := 106) (L' := [some (.ref 42)]) (st' := [.ref 42]) 1 rfl ?_
      refine kx_q_getI (k := 4) kxo_42 rfl kfl_X3_32 rfl ?_
      refine kx_go (pc' := 110) (L' := [some (.ref 42)]) (st' := [.int (2 : Int32), .int ((kx_u1 M3 42 3 ((M3.1 42 3) + (1 : Int32))).1 42 4)]) 1 rfl ?_
      refine kx_r_icmp_ne rfl (fun hc5 => ?_) (fun hc5 => ?_)
      · rw [if_neg hc5] at h
        cases h
        exact kx_r_vret rfl rfl
      · rw [if_pos hc5] at h
        refine kx_wk [true] ?_
        exact t_X3_step_113 kx_fuel (kx_u1 M3 42 3 ((M3.1 42 3) + (1 : Int32))) h
  · rw [if_neg hc1] at h
    refine kx_go (pc' := 67) (L' := [some (.ref 42)]) (st' := [.int (0 : Int32), .ref 42]) 2 rfl ?_
    refine kx_q_putI (k := 4) kxo_42 rfl kfw_X3_32 rfl ?_
    cases h
    exact kx_r_vret rfl rfl
set_option maxRecDepth 100000 in
set_option maxHeartbeats 4000000 in
theorem t_X3_step_8 {d : Nat} {M' : kx_M} : ∀ (n : Nat) (M : kx_M), f_X3_step_8 n M = some M' → kx_Rn EX T_X3_step (d + 1) (8, [some (.ref 42)], [], M) none M' := by
  intro n
  induction n with
  | zero =>
    intro M h
    cases (show (none : Option kx_M) = some _ from h)
  | succ n ih =>
    intro M h
    rw [f_X3_step_8.eq_2] at h
    refine kx_go (pc' := 9) (L' := [some (.ref 42)]) (st' := [.ref 42]) 1 rfl ?_
    refine kx_q_getI (k := 2) kxo_42 rfl kfl_X3_26 rfl ?_
    refine kx_go (pc' := 13) (L' := [some (.ref 42)]) (st' := [.ref 42, .int (M.1 42 2)]) 1 rfl ?_
    refine kx_q_getI (k := 1) kxo_42 rfl kfl_X3_15 rfl ?_
    refine kx_r_icmp_ge rfl (fun hc1 => ?_) (fun hc1 => ?_)
    · rw [if_pos hc1] at h
      refine kx_wk [true] ?_
      exact t_X3_step_46 M h
    · rw [if_neg hc1] at h
      refine kx_go (pc' := 20) (L' := [some (.ref 42)]) (st' := [.ref 42]) 1 rfl ?_
      refine kx_q_getR (k := 0) (j := 43) kxo_42 rfl kfl_X3_9 rfl ?_
      refine kx_go (pc' := 24) (L' := [some (.ref 42)]) (st' := [.ref 42, .ref 43]) 1 rfl ?_
      refine kx_q_getI (k := 2) kxo_42 rfl kfl_X3_26 rfl ?_
      obtain ⟨hi2, h⟩ := kx_ck_some h
      refine kx_q_cald (kxa_43) rfl hi2 ?_
      refine kx_go (pc' := 30) (L' := [some (.ref 42)]) (st' := [.int (32 : Int32), .int (M.1 43 ((M.1 42 2)).toNatClampNeg)]) 1 rfl ?_
      refine kx_r_icmp_ne rfl (fun hc3 => ?_) (fun hc3 => ?_)
      · rw [if_neg hc3] at h
        refine kx_wk [true] ?_
        exact t_X3_step_46 M h
      · rw [if_pos hc3] at h
        refine kx_go (pc' := 35) (L' := [some (.ref 42)]) (st' := [.ref 42, .ref 42]) 2 rfl ?_
        refine kx_q_getI (k := 2) kxo_42 rfl kfl_X3_26 rfl ?_
        refine kx_go (pc' := 40) (L' := [some (.ref 42)]) (st' := [.int ((M.1 42 2) + (1 : Int32)), .ref 42]) 2 rfl ?_
        refine kx_q_putI (k := 2) kxo_42 rfl kfw_X3_26 rfl ?_
        refine kx_r_goto rfl ?_
        refine kx_wk [true] ?_
        exact ih (kx_u1 M 42 2 ((M.1 42 2) + (1 : Int32))) h
set_option maxRecDepth 100000 in
set_option maxHeartbeats 4000000 in
theorem t_X3_step {d : Nat} {M' : kx_M} (M : kx_M) (h : f_X3_step M = some M') : kx_Rn EX T_X3_step (d + 1) (0, [some (.ref 42)], [], M) none M' := by
  unfold f_X3_step at h
  refine kx_go (pc' := 2) (L' := [some (.ref 42)]) (st' := [.ref 42, .ref 42]) 2 rfl ?_
  refine kx_q_getI (k := 3) kxo_42 rfl kfl_X3_19 rfl ?_
  refine kx_q_putI (k := 2) kxo_42 rfl kfw_X3_26 rfl ?_
  refine kx_wk [true] ?_
  exact t_X3_step_8 kx_fuel (kx_u1 M 42 2 (M.1 42 3)) h
theorem c_X3_step {d : Nat} (M : kx_M) (M' : kx_M) (h : f_X3_step M = some M') : kx_Call EX (d + 1) T_X3_step [.ref 42] M none M' := kx_entry kok_X3_step (Nat.le_of_ble_eq_true rfl) rfl (t_X3_step (d := d) M h)
set_option maxRecDepth 100000 in
set_option maxHeartbeats 4000000 in
theorem t_X3_readNumber_37 {d : Nat} {r : Bool} {M' : kx_M} : ∀ (n : Nat) (x1 : Int32) (x2 : Int32) (x3 : Int32) (M : kx_M), f_X3_readNumber_37 n x1 x2 x3 M = some (r, M') → kx_Rn EX T_X3_readNumber (d + 2) (37, [some (.ref 42), some (.int x1), some (.int x2), some (.int x3)], [], M) (some (.int (kx_bi r))) M' := by
  intro n
  induction n with
  | zero =>
    intro x1 x2 x3 M h
    cases (show (none : Option (Bool × kx_M)) = some _ from h)
  | succ n ih =>
    intro x1 x2 x3 M h
    rw [f_X3_readNumber_37.eq_2] at h
    refine kx_go (pc' := 39) (L' := [some (.ref 42), some (.int x1), some (.int x2), some (.int x3)]) (st' := [.ref 42, .int x3]) 2 rfl ?_
    refine kx_q_getI (k := 3) kxo_42 rfl kfl_X3_19 rfl ?_
    refine kx_r_icmp_ge rfl (fun hc1 => ?_) (fun hc1 => ?_)
    · rw [if_pos hc1] at h
      refine kx_go (pc' := 73) (L' := [some (.ref 42), some (.int x1), some (.int x2), some (.int x3)]) (st' := [.ref 42]) 1 rfl ?_
      refine kx_q_getI (k := 5) kxo_42 rfl kfl_X3_82 rfl ?_
      refine kx_go (pc' := 78) (L' := [some (.ref 42), some (.int x1), some (.int x2), some (.int x3)]) (st' := [.int x2, .int x1, .int (M.1 42 5)]) 2 rfl ?_
      refine kx_r_callN (as := [.int (M.1 42 5), .int x1, .int x2]) (rest := []) (M1 := M) (rv := some (.int (kx_bi (f_X4_isWithin (M.1 42 5) x1 x2)))) rfl knl_X3_114 kpd_X4_isWithin kini_X4 kcd_X4_isWithin kst_X4_isWithin rfl rfl (Nat.le_of_ble_eq_true rfl) (Nat.le_of_ble_eq_true rfl) (c_X4_isWithin (d := d + 1) (M.1 42 5) x1 x2 M (f_X4_isWithin (M.1 42 5) x1 x2) rfl) ?_
      show kx_Rn _ _ _ (81, [some (.ref 42), some (.int x1), some (.int x2), some (.int x3)], [.int (kx_bi (f_X4_isWithin (M.1 42 5) x1 x2))], M) _ _
      cases h
      exact kx_r_zret rfl rfl (kx_bi_or _)
    · rw [if_neg hc1] at h
      refine kx_go (pc' := 49) (L' := [some (.ref 42), some (.int x1), some (.int x2), some (.int x3)]) (st' := [.ref 42, .int (10 : Int32), .ref 42]) 3 rfl ?_
      refine kx_q_getI (k := 5) kxo_42 rfl kfl_X3_82 rfl ?_
      refine kx_go (pc' := 54) (L' := [some (.ref 42), some (.int x1), some (.int x2), some (.int x3)]) (st' := [.ref 42, .int ((10 : Int32) * (M.1 42 5)), .ref 42]) 2 rfl ?_
      refine kx_q_getR (k := 0) (j := 43) kxo_42 rfl kfl_X3_9 rfl ?_
      refine kx_go (pc' := 58) (L' := [some (.ref 42), some (.int x1), some (.int x2), some (.int x3)]) (st' := [.int x3, .ref 43, .int ((10 : Int32) * (M.1 42 5)), .ref 42]) 1 rfl ?_
      obtain ⟨hi2, h⟩ := kx_ck_some h
      refine kx_q_cald (kxa_43) rfl hi2 ?_
      refine kx_go (pc' := 63) (L' := [some (.ref 42), some (.int x1), some (.int x2), some (.int x3)]) (st' := [.int (((10 : Int32) * (M.1 42 5)) + ((M.1 43 (x3).toNatClampNeg) - (48 : Int32))), .ref 42]) 3 rfl ?_
      refine kx_q_putI (k := 5) kxo_42 rfl kfw_X3_82 rfl ?_
      refine kx_go (pc' := 69) (L' := [some (.ref 42), some (.int x1), some (.int x2), some (.int (x3 + (1)))]) (st' := []) 1 rfl ?_
      refine kx_r_goto rfl ?_
      refine kx_wk [true, true, true, true] ?_
      exact ih x1 x2 (x3 + (1)) (kx_u1 M 42 5 (((10 : Int32) * (M.1 42 5)) + ((M.1 43 (x3).toNatClampNeg) - (48 : Int32)))) h
set_option maxRecDepth 100000 in
set_option maxHeartbeats 4000000 in
theorem t_X3_readNumber {d : Nat} {r : Bool} {M' : kx_M} (a0 : Int32) (a1 : Int32) (M : kx_M) (h : f_X3_readNumber a0 a1 M = some (r, M')) : kx_Rn EX T_X3_readNumber (d + 2) (0, [some (.ref 42), some (.int a0), some (.int a1), none], [], M) (some (.int (kx_bi r))) M' := by
  unfold f_X3_readNumber at h
  refine kx_go (pc' := 1) (L' := [some (.ref 42), some (.int a0), some (.int a1), none]) (st' := [.ref 42]) 1 rfl ?_
  obtain ⟨M3, hv2, h⟩ := kx_bn_some h
  refine kx_q_callV (as := []) (rest := []) (M1 := M3) (rv := none) kxo_42 rfl klk_X3_29 kse_X3_step rfl rfl rfl rfl (Nat.le_of_ble_eq_true rfl) (Nat.le_of_ble_eq_true rfl) (c_X3_step (d := d + 0) M M3 hv2) ?_
  show kx_Rn _ _ _ (4, [some (.ref 42), some (.int a0), some (.int a1), none], [], M3) _ _
  refine kx_go (pc' := 5) (L' := [some (.ref 42), some (.int a0), some (.int a1), none]) (st' := [.ref 42]) 1 rfl ?_
  refine kx_q_getI (k := 4) kxo_42 rfl kfl_X3_32 rfl ?_
  refine kx_go (pc' := 9) (L' := [some (.ref 42), some (.int a0), some (.int a1), none]) (st' := [.int (2 : Int32), .int (M3.1 42 4)]) 1 rfl ?_
  refine kx_r_icmp_ne rfl (fun hc4 => ?_) (fun hc4 => ?_)
  · rw [if_neg hc4] at h
    refine kx_go (pc' := 26) (L' := [some (.ref 42), some (.int a0), some (.int a1), none]) (st' := [.int (0 : Int32)]) 1 rfl ?_
    cases h
    exact kx_r_zret rfl rfl (Or.inl rfl)
  · rw [if_pos hc4] at h
    refine kx_go (pc' := 13) (L' := [some (.ref 42), some (.int a0), some (.int a1), none]) (st' := [.ref 42]) 1 rfl ?_
    refine kx_q_getI (k := 3) kxo_42 rfl kfl_X3_19 rfl ?_
    refine kx_go (pc' := 17) (L' := [some (.ref 42), some (.int a0), some (.int a1), none]) (st' := [.ref 42, .int (M3.1 42 3)]) 1 rfl ?_
    refine kx_q_getI (k := 2) kxo_42 rfl kfl_X3_26 rfl ?_
    refine kx_go (pc' := 22) (L' := [some (.ref 42), some (.int a0), some (.int a1), none]) (st' := [.int (3 : Int32), .int ((M3.1 42 3) - (M3.1 42 2))]) 2 rfl ?_
    refine kx_r_icmp_le rfl (fun hc5 => ?_) (fun hc5 => ?_)
    · rw [if_pos hc5] at h
      refine kx_go (pc' := 29) (L' := [some (.ref 42), some (.int a0), some (.int a1), none]) (st' := [.int (0 : Int32), .ref 42]) 2 rfl ?_
      refine kx_q_putI (k := 5) kxo_42 rfl kfw_X3_82 rfl ?_
      refine kx_go (pc' := 33) (L' := [some (.ref 42), some (.int a0), some (.int a1), none]) (st' := [.ref 42]) 1 rfl ?_
      refine kx_q_getI (k := 2) kxo_42 rfl kfl_X3_26 rfl ?_
      refine kx_go (pc' := 37) (L' := [some (.ref 42), some (.int a0), some (.int a1), some (.int ((kx_u1 M3 42 5 (0 : Int32)).1 42 2))]) (st' := []) 1 rfl ?_
      refine kx_wk [true, true, true, true] ?_
      exact t_X3_readNumber_37 kx_fuel a0 a1 ((kx_u1 M3 42 5 (0 : Int32)).1 42 2) (kx_u1 M3 42 5 (0 : Int32)) h
    · rw [if_neg hc5] at h
      refine kx_go (pc' := 26) (L' := [some (.ref 42), some (.int a0), some (.int a1), none]) (st' := [.int (0 : Int32)]) 1 rfl ?_
      cases h
      exact kx_r_zret rfl rfl (Or.inl rfl)
theorem c_X3_readNumber {d : Nat} (a0 : Int32) (a1 : Int32) (M : kx_M) (r : Bool) (M' : kx_M) (h : f_X3_readNumber a0 a1 M = some (r, M')) : kx_Call EX (d + 2) T_X3_readNumber [.ref 42, .int a0, .int a1] M (some (.int (kx_bi r))) M' := kx_entry kok_X3_readNumber (Nat.le_of_ble_eq_true rfl) rfl (t_X3_readNumber (d := d) a0 a1 M h)
set_option maxRecDepth 100000 in
set_option maxHeartbeats 4000000 in
theorem t_X3_readCells {d : Nat} {r : Bool} {M' : kx_M} (o : Nat) (ho : kx_land EX o) (M : kx_M) (h : f_X3_readCells o M = some (r, M')) : kx_Rn EX T_X3_readCells (d + 3) (0, [some (.ref 42), some (.ref o)], [], M) (some (.int (kx_bi r))) M' := by
  unfold f_X3_readCells at h
  refine kx_go (pc' := 2) (L' := [some (.ref 42), some (.ref o)]) (st' := [.ref o, .ref 42]) 2 rfl ?_
  refine kx_q_getI (k := 7) ho.1 rfl kfl_X3_74 rfl ?_
  refine kx_go (pc' := 7) (L' := [some (.ref 42), some (.ref o)]) (st' := [.int (24 : Int32), .int (M.1 o 7), .ref 42]) 1 rfl ?_
  obtain ⟨v1, M3, hv2, h⟩ := kx_bd_some h
  refine kx_q_callV (as := [.int (M.1 o 7), .int (24 : Int32)]) (rest := []) (M1 := M3) (rv := some (.int (kx_bi v1))) kxo_42 rfl klk_X3_78 kse_X3_readNumber rfl rfl rfl rfl (Nat.le_of_ble_eq_true rfl) (Nat.le_of_ble_eq_true rfl) (c_X3_readNumber (d := d + 0) (M.1 o 7) (24 : Int32) M v1 M3 hv2) ?_
  show kx_Rn _ _ _ (10, [some (.ref 42), some (.ref o)], [.int (kx_bi v1)], M3) _ _
  refine kx_q_zne rfl (fun hc4 => ?_) (fun hc4 => ?_)
  · rw [if_pos hc4] at h
    refine kx_go (pc' := 17) (L' := [some (.ref 42), some (.ref o)]) (st' := [.ref 42, .ref o]) 2 rfl ?_
    refine kx_q_getI (k := 5) kxo_42 rfl kfl_X3_82 rfl ?_
    obtain ⟨M7, hv6, h⟩ := kx_bn_some h
    refine kx_q_callV (as := [.int (M3.1 42 5)]) (rest := []) (M1 := M7) (rv := none) ho.1 rfl klk_X3_85 kse_X0_paveTo rfl rfl rfl rfl (Nat.le_of_ble_eq_true rfl) (Nat.le_of_ble_eq_true rfl) (c_X0_paveTo (d := d + 0) o (ho) (M3.1 42 5) M3 M7 hv6) ?_
    show kx_Rn _ _ _ (23, [some (.ref 42), some (.ref o)], [], M7) _ _
    refine kx_go (pc' := 24) (L' := [some (.ref 42), some (.ref o)]) (st' := [.int (1 : Int32)]) 1 rfl ?_
    cases h
    exact kx_r_zret rfl rfl (Or.inr rfl)
  · rw [if_neg hc4] at h
    refine kx_go (pc' := 14) (L' := [some (.ref 42), some (.ref o)]) (st' := [.int (0 : Int32)]) 1 rfl ?_
    cases h
    exact kx_r_zret rfl rfl (Or.inl rfl)
theorem c_X3_readCells {d : Nat} (o : Nat) (ho : kx_land EX o) (M : kx_M) (r : Bool) (M' : kx_M) (h : f_X3_readCells o M = some (r, M')) : kx_Call EX (d + 3) T_X3_readCells [.ref 42, .ref o] M (some (.int (kx_bi r))) M' := kx_entry kok_X3_readCells (Nat.le_of_ble_eq_true rfl) rfl (t_X3_readCells (d := d) o ho M h)
set_option maxRecDepth 100000 in
set_option maxHeartbeats 4000000 in
theorem t_X3_readVisitor {d : Nat} {r : Bool} {M' : kx_M} (o : Nat) (ho : kx_land EX o) (M : kx_M) (h : f_X3_readVisitor o M = some (r, M')) : kx_Rn EX T_X3_readVisitor (d + 3) (0, [some (.ref 42), some (.ref o), none, none], [], M) (some (.int (kx_bi r))) M' := by
  unfold f_X3_readVisitor at h
  refine kx_go (pc' := 1) (L' := [some (.ref 42), some (.ref o), none, none]) (st' := [.ref o]) 1 rfl ?_
  refine kx_q_callV (as := []) (rest := []) (M1 := M) (rv := some (.int (kx_bi (f_X0_hasRoom o M)))) ho.1 rfl klk_X3_89 kse_X0_hasRoom rfl rfl rfl rfl (Nat.le_of_ble_eq_true rfl) (Nat.le_of_ble_eq_true rfl) (c_X0_hasRoom (d := d + 2) o (ho) M (f_X0_hasRoom o M) rfl) ?_
  show kx_Rn _ _ _ (4, [some (.ref 42), some (.ref o), none, none], [.int (kx_bi (f_X0_hasRoom o M))], M) _ _
  refine kx_q_zeq rfl (fun hc1 => ?_) (fun hc1 => ?_)
  · rw [if_neg hc1] at h
    refine kx_go (pc' := 17) (L' := [some (.ref 42), some (.ref o), none, none]) (st' := [.int (0 : Int32)]) 1 rfl ?_
    cases h
    exact kx_r_zret rfl rfl (Or.inl rfl)
  · rw [if_pos hc1] at h
    refine kx_go (pc' := 10) (L' := [some (.ref 42), some (.ref o), none, none]) (st' := [.int (5 : Int32), .int (0 : Int32), .ref 42]) 3 rfl ?_
    obtain ⟨v2, M4, hv3, h⟩ := kx_bd_some h
    refine kx_q_callV (as := [.int (0 : Int32), .int (5 : Int32)]) (rest := []) (M1 := M4) (rv := some (.int (kx_bi v2))) kxo_42 rfl klk_X3_78 kse_X3_readNumber rfl rfl rfl rfl (Nat.le_of_ble_eq_true rfl) (Nat.le_of_ble_eq_true rfl) (c_X3_readNumber (d := d + 0) (0 : Int32) (5 : Int32) M v2 M4 hv3) ?_
    show kx_Rn _ _ _ (13, [some (.ref 42), some (.ref o), none, none], [.int (kx_bi v2)], M4) _ _
    refine kx_q_zne rfl (fun hc5 => ?_) (fun hc5 => ?_)
    · rw [if_pos hc5] at h
      refine kx_go (pc' := 19) (L' := [some (.ref 42), some (.ref o), none, none]) (st' := [.ref 42]) 1 rfl ?_
      refine kx_q_getI (k := 5) kxo_42 rfl kfl_X3_82 rfl ?_
      refine kx_go (pc' := 27) (L' := [some (.ref 42), some (.ref o), some (.int (M4.1 42 5)), none]) (st' := [.int (9 : Int32), .int (0 : Int32), .ref 42]) 4 rfl ?_
      obtain ⟨v6, M8, hv7, h⟩ := kx_bd_some h
      refine kx_q_callV (as := [.int (0 : Int32), .int (9 : Int32)]) (rest := []) (M1 := M8) (rv := some (.int (kx_bi v6))) kxo_42 rfl klk_X3_78 kse_X3_readNumber rfl rfl rfl rfl (Nat.le_of_ble_eq_true rfl) (Nat.le_of_ble_eq_true rfl) (c_X3_readNumber (d := d + 0) (0 : Int32) (9 : Int32) M4 v6 M8 hv7) ?_
      show kx_Rn _ _ _ (30, [some (.ref 42), some (.ref o), some (.int (M4.1 42 5)), none], [.int (kx_bi v6)], M8) _ _
      refine kx_q_zne rfl (fun hc9 => ?_) (fun hc9 => ?_)
      · rw [if_pos hc9] at h
        refine kx_go (pc' := 36) (L' := [some (.ref 42), some (.ref o), some (.int (M4.1 42 5)), none]) (st' := [.ref 42]) 1 rfl ?_
        refine kx_q_getI (k := 5) kxo_42 rfl kfl_X3_82 rfl ?_
        refine kx_go (pc' := 44) (L' := [some (.ref 42), some (.ref o), some (.int (M4.1 42 5)), some (.int (M8.1 42 5))]) (st' := [.int (20 : Int32), .int (0 : Int32), .ref 42]) 4 rfl ?_
        obtain ⟨v10, M12, hv11, h⟩ := kx_bd_some h
        refine kx_q_callV (as := [.int (0 : Int32), .int (20 : Int32)]) (rest := []) (M1 := M12) (rv := some (.int (kx_bi v10))) kxo_42 rfl klk_X3_78 kse_X3_readNumber rfl rfl rfl rfl (Nat.le_of_ble_eq_true rfl) (Nat.le_of_ble_eq_true rfl) (c_X3_readNumber (d := d + 0) (0 : Int32) (20 : Int32) M8 v10 M12 hv11) ?_
        show kx_Rn _ _ _ (47, [some (.ref 42), some (.ref o), some (.int (M4.1 42 5)), some (.int (M8.1 42 5))], [.int (kx_bi v10)], M12) _ _
        refine kx_q_zne rfl (fun hc13 => ?_) (fun hc13 => ?_)
        · rw [if_pos hc13] at h
          refine kx_go (pc' := 56) (L' := [some (.ref 42), some (.ref o), some (.int (M4.1 42 5)), some (.int (M8.1 42 5))]) (st' := [.ref 42, .int (M8.1 42 5), .int (M4.1 42 5), .ref o]) 4 rfl ?_
          refine kx_q_getI (k := 5) kxo_42 rfl kfl_X3_82 rfl ?_
          obtain ⟨M16, hv15, h⟩ := kx_bn_some h
          refine kx_q_callV (as := [.int (M4.1 42 5), .int (M8.1 42 5), .int (M12.1 42 5)]) (rest := []) (M1 := M16) (rv := none) ho.1 rfl klk_X3_93 kse_X0_let rfl rfl rfl rfl (Nat.le_of_ble_eq_true rfl) (Nat.le_of_ble_eq_true rfl) (c_X0_let (d := d + 2) o (ho) (M4.1 42 5) (M8.1 42 5) (M12.1 42 5) M12 M16 hv15) ?_
          show kx_Rn _ _ _ (62, [some (.ref 42), some (.ref o), some (.int (M4.1 42 5)), some (.int (M8.1 42 5))], [], M16) _ _
          refine kx_go (pc' := 63) (L' := [some (.ref 42), some (.ref o), some (.int (M4.1 42 5)), some (.int (M8.1 42 5))]) (st' := [.int (1 : Int32)]) 1 rfl ?_
          cases h
          exact kx_r_zret rfl rfl (Or.inr rfl)
        · rw [if_neg hc13] at h
          refine kx_go (pc' := 51) (L' := [some (.ref 42), some (.ref o), some (.int (M4.1 42 5)), some (.int (M8.1 42 5))]) (st' := [.int (0 : Int32)]) 1 rfl ?_
          cases h
          exact kx_r_zret rfl rfl (Or.inl rfl)
      · rw [if_neg hc9] at h
        refine kx_go (pc' := 34) (L' := [some (.ref 42), some (.ref o), some (.int (M4.1 42 5)), none]) (st' := [.int (0 : Int32)]) 1 rfl ?_
        cases h
        exact kx_r_zret rfl rfl (Or.inl rfl)
    · rw [if_neg hc5] at h
      refine kx_go (pc' := 17) (L' := [some (.ref 42), some (.ref o), none, none]) (st' := [.int (0 : Int32)]) 1 rfl ?_
      cases h
      exact kx_r_zret rfl rfl (Or.inl rfl)
theorem c_X3_readVisitor {d : Nat} (o : Nat) (ho : kx_land EX o) (M : kx_M) (r : Bool) (M' : kx_M) (h : f_X3_readVisitor o M = some (r, M')) : kx_Call EX (d + 3) T_X3_readVisitor [.ref 42, .ref o] M (some (.int (kx_bi r))) M' := kx_entry kok_X3_readVisitor (Nat.le_of_ble_eq_true rfl) rfl (t_X3_readVisitor (d := d) o ho M h)
set_option maxRecDepth 100000 in
set_option maxHeartbeats 4000000 in
theorem t_X3_readShy {d : Nat} {r : Bool} {M' : kx_M} (o : Nat) (ho : kx_land EX o) (M : kx_M) (h : f_X3_readShy o M = some (r, M')) : kx_Rn EX T_X3_readShy (d + 3) (0, [some (.ref 42), some (.ref o), none], [], M) (some (.int (kx_bi r))) M' := by
  unfold f_X3_readShy at h
  refine kx_go (pc' := 3) (L' := [some (.ref 42), some (.ref o), none]) (st' := [.ref o, .int (0 : Int32), .ref 42]) 3 rfl ?_
  refine kx_q_getI (k := 7) ho.1 rfl kfl_X3_74 rfl ?_
  refine kx_go (pc' := 8) (L' := [some (.ref 42), some (.ref o), none]) (st' := [.int ((M.1 o 7) - (1 : Int32)), .int (0 : Int32), .ref 42]) 2 rfl ?_
  obtain ⟨v1, M3, hv2, h⟩ := kx_bd_some h
  refine kx_q_callV (as := [.int (0 : Int32), .int ((M.1 o 7) - (1 : Int32))]) (rest := []) (M1 := M3) (rv := some (.int (kx_bi v1))) kxo_42 rfl klk_X3_78 kse_X3_readNumber rfl rfl rfl rfl (Nat.le_of_ble_eq_true rfl) (Nat.le_of_ble_eq_true rfl) (c_X3_readNumber (d := d + 0) (0 : Int32) ((M.1 o 7) - (1 : Int32)) M v1 M3 hv2) ?_
  show kx_Rn _ _ _ (11, [some (.ref 42), some (.ref o), none], [.int (kx_bi v1)], M3) _ _
  refine kx_q_zne rfl (fun hc4 => ?_) (fun hc4 => ?_)
  · rw [if_pos hc4] at h
    refine kx_go (pc' := 17) (L' := [some (.ref 42), some (.ref o), none]) (st' := [.ref 42]) 1 rfl ?_
    refine kx_q_getI (k := 5) kxo_42 rfl kfl_X3_82 rfl ?_
    refine kx_go (pc' := 25) (L' := [some (.ref 42), some (.ref o), some (.int (M3.1 42 5))]) (st' := [.int (20 : Int32), .int (0 : Int32), .ref 42]) 4 rfl ?_
    obtain ⟨v5, M7, hv6, h⟩ := kx_bd_some h
    refine kx_q_callV (as := [.int (0 : Int32), .int (20 : Int32)]) (rest := []) (M1 := M7) (rv := some (.int (kx_bi v5))) kxo_42 rfl klk_X3_78 kse_X3_readNumber rfl rfl rfl rfl (Nat.le_of_ble_eq_true rfl) (Nat.le_of_ble_eq_true rfl) (c_X3_readNumber (d := d + 0) (0 : Int32) (20 : Int32) M3 v5 M7 hv6) ?_
    show kx_Rn _ _ _ (28, [some (.ref 42), some (.ref o), some (.int (M3.1 42 5))], [.int (kx_bi v5)], M7) _ _
    refine kx_q_zne rfl (fun hc8 => ?_) (fun hc8 => ?_)
    · rw [if_pos hc8] at h
      refine kx_go (pc' := 36) (L' := [some (.ref 42), some (.ref o), some (.int (M3.1 42 5))]) (st' := [.ref 42, .int (M3.1 42 5), .ref o]) 3 rfl ?_
      refine kx_q_getI (k := 5) kxo_42 rfl kfl_X3_82 rfl ?_
      obtain ⟨M11, hv10, h⟩ := kx_bn_some h
      refine kx_q_callV (as := [.int (M3.1 42 5), .int (M7.1 42 5)]) (rest := []) (M1 := M11) (rv := none) ho.1 rfl klk_X3_97 kse_X0_makeShy rfl rfl rfl rfl (Nat.le_of_ble_eq_true rfl) (Nat.le_of_ble_eq_true rfl) (c_X0_makeShy (d := d + 0) o (ho) (M3.1 42 5) (M7.1 42 5) M7 M11 hv10) ?_
      show kx_Rn _ _ _ (42, [some (.ref 42), some (.ref o), some (.int (M3.1 42 5))], [], M11) _ _
      refine kx_go (pc' := 43) (L' := [some (.ref 42), some (.ref o), some (.int (M3.1 42 5))]) (st' := [.int (1 : Int32)]) 1 rfl ?_
      cases h
      exact kx_r_zret rfl rfl (Or.inr rfl)
    · rw [if_neg hc8] at h
      refine kx_go (pc' := 32) (L' := [some (.ref 42), some (.ref o), some (.int (M3.1 42 5))]) (st' := [.int (0 : Int32)]) 1 rfl ?_
      cases h
      exact kx_r_zret rfl rfl (Or.inl rfl)
  · rw [if_neg hc4] at h
    refine kx_go (pc' := 15) (L' := [some (.ref 42), some (.ref o), none]) (st' := [.int (0 : Int32)]) 1 rfl ?_
    cases h
    exact kx_r_zret rfl rfl (Or.inl rfl)
theorem c_X3_readShy {d : Nat} (o : Nat) (ho : kx_land EX o) (M : kx_M) (r : Bool) (M' : kx_M) (h : f_X3_readShy o M = some (r, M')) : kx_Call EX (d + 3) T_X3_readShy [.ref 42, .ref o] M (some (.int (kx_bi r))) M' := kx_entry kok_X3_readShy (Nat.le_of_ble_eq_true rfl) rfl (t_X3_readShy (d := d) o ho M h)
set_option maxRecDepth 100000 in
set_option maxHeartbeats 4000000 in
theorem t_X3_readThing {d : Nat} {r : Bool} {M' : kx_M} (o : Nat) (ho : kx_land EX o) (M : kx_M) (h : f_X3_readThing o M = some (r, M')) : kx_Rn EX T_X3_readThing (d + 3) (0, [some (.ref 42), some (.ref o), none], [], M) (some (.int (kx_bi r))) M' := by
  unfold f_X3_readThing at h
  refine kx_go (pc' := 3) (L' := [some (.ref 42), some (.ref o), none]) (st' := [.ref o, .int (0 : Int32), .ref 42]) 3 rfl ?_
  refine kx_q_getI (k := 7) ho.1 rfl kfl_X3_74 rfl ?_
  refine kx_go (pc' := 8) (L' := [some (.ref 42), some (.ref o), none]) (st' := [.int ((M.1 o 7) - (1 : Int32)), .int (0 : Int32), .ref 42]) 2 rfl ?_
  obtain ⟨v1, M3, hv2, h⟩ := kx_bd_some h
  refine kx_q_callV (as := [.int (0 : Int32), .int ((M.1 o 7) - (1 : Int32))]) (rest := []) (M1 := M3) (rv := some (.int (kx_bi v1))) kxo_42 rfl klk_X3_78 kse_X3_readNumber rfl rfl rfl rfl (Nat.le_of_ble_eq_true rfl) (Nat.le_of_ble_eq_true rfl) (c_X3_readNumber (d := d + 0) (0 : Int32) ((M.1 o 7) - (1 : Int32)) M v1 M3 hv2) ?_
  show kx_Rn _ _ _ (11, [some (.ref 42), some (.ref o), none], [.int (kx_bi v1)], M3) _ _
  refine kx_q_zne rfl (fun hc4 => ?_) (fun hc4 => ?_)
  · rw [if_pos hc4] at h
    refine kx_go (pc' := 17) (L' := [some (.ref 42), some (.ref o), none]) (st' := [.ref 42]) 1 rfl ?_
    refine kx_q_getI (k := 5) kxo_42 rfl kfl_X3_82 rfl ?_
    refine kx_go (pc' := 25) (L' := [some (.ref 42), some (.ref o), some (.int (M3.1 42 5))]) (st' := [.int (9 : Int32), .int (0 : Int32), .ref 42]) 4 rfl ?_
    obtain ⟨v5, M7, hv6, h⟩ := kx_bd_some h
    refine kx_q_callV (as := [.int (0 : Int32), .int (9 : Int32)]) (rest := []) (M1 := M7) (rv := some (.int (kx_bi v5))) kxo_42 rfl klk_X3_78 kse_X3_readNumber rfl rfl rfl rfl (Nat.le_of_ble_eq_true rfl) (Nat.le_of_ble_eq_true rfl) (c_X3_readNumber (d := d + 0) (0 : Int32) (9 : Int32) M3 v5 M7 hv6) ?_
    show kx_Rn _ _ _ (28, [some (.ref 42), some (.ref o), some (.int (M3.1 42 5))], [.int (kx_bi v5)], M7) _ _
    refine kx_q_zne rfl (fun hc8 => ?_) (fun hc8 => ?_)
    · rw [if_pos hc8] at h
      refine kx_go (pc' := 34) (L' := [some (.ref 42), some (.ref o), some (.int (M3.1 42 5))]) (st' := [.ref o]) 1 rfl ?_
      refine kx_q_getR (k := 1) (j := (o + 2)) ho.1 rfl kfl_X3_101 rfl ?_
      refine kx_go (pc' := 39) (L' := [some (.ref 42), some (.ref o), some (.int (M3.1 42 5))]) (st' := [.ref 42, .int (M3.1 42 5), .ref (o + 2)]) 2 rfl ?_
      refine kx_q_getI (k := 5) kxo_42 rfl kfl_X3_82 rfl ?_
      obtain ⟨hi9, h⟩ := kx_ck_some h
      refine kx_q_iast (ho.2.2.1) rfl hi9 ?_
      refine kx_go (pc' := 44) (L' := [some (.ref 42), some (.ref o), some (.int (M3.1 42 5))]) (st' := [.int (1 : Int32)]) 1 rfl ?_
      cases h
      exact kx_r_zret rfl rfl (Or.inr rfl)
    · rw [if_neg hc8] at h
      refine kx_go (pc' := 32) (L' := [some (.ref 42), some (.ref o), some (.int (M3.1 42 5))]) (st' := [.int (0 : Int32)]) 1 rfl ?_
      cases h
      exact kx_r_zret rfl rfl (Or.inl rfl)
  · rw [if_neg hc4] at h
    refine kx_go (pc' := 15) (L' := [some (.ref 42), some (.ref o), none]) (st' := [.int (0 : Int32)]) 1 rfl ?_
    cases h
    exact kx_r_zret rfl rfl (Or.inl rfl)
theorem c_X3_readThing {d : Nat} (o : Nat) (ho : kx_land EX o) (M : kx_M) (r : Bool) (M' : kx_M) (h : f_X3_readThing o M = some (r, M')) : kx_Call EX (d + 3) T_X3_readThing [.ref 42, .ref o] M (some (.int (kx_bi r))) M' := kx_entry kok_X3_readThing (Nat.le_of_ble_eq_true rfl) rfl (t_X3_readThing (d := d) o ho M h)
set_option maxRecDepth 100000 in
set_option maxHeartbeats 4000000 in
theorem t_X3_readSaw {d : Nat} {r : Bool} {M' : kx_M} (o : Nat) (ho : kx_land EX o) (M : kx_M) (h : f_X3_readSaw o M = some (r, M')) : kx_Rn EX T_X3_readSaw (d + 3) (0, [some (.ref 42), some (.ref o), none], [], M) (some (.int (kx_bi r))) M' := by
  unfold f_X3_readSaw at h
  refine kx_go (pc' := 3) (L' := [some (.ref 42), some (.ref o), none]) (st' := [.ref o, .int (0 : Int32), .ref 42]) 3 rfl ?_
  refine kx_q_getI (k := 11) ho.1 rfl kfl_X3_104 rfl ?_
  refine kx_go (pc' := 8) (L' := [some (.ref 42), some (.ref o), none]) (st' := [.int ((M.1 o 11) - (1 : Int32)), .int (0 : Int32), .ref 42]) 2 rfl ?_
  obtain ⟨v1, M3, hv2, h⟩ := kx_bd_some h
  refine kx_q_callV (as := [.int (0 : Int32), .int ((M.1 o 11) - (1 : Int32))]) (rest := []) (M1 := M3) (rv := some (.int (kx_bi v1))) kxo_42 rfl klk_X3_78 kse_X3_readNumber rfl rfl rfl rfl (Nat.le_of_ble_eq_true rfl) (Nat.le_of_ble_eq_true rfl) (c_X3_readNumber (d := d + 0) (0 : Int32) ((M.1 o 11) - (1 : Int32)) M v1 M3 hv2) ?_
  show kx_Rn _ _ _ (11, [some (.ref 42), some (.ref o), none], [.int (kx_bi v1)], M3) _ _
  refine kx_q_zne rfl (fun hc4 => ?_) (fun hc4 => ?_)
  · rw [if_pos hc4] at h
    refine kx_go (pc' := 17) (L' := [some (.ref 42), some (.ref o), none]) (st' := [.ref 42]) 1 rfl ?_
    refine kx_q_getI (k := 5) kxo_42 rfl kfl_X3_82 rfl ?_
    refine kx_go (pc' := 24) (L' := [some (.ref 42), some (.ref o), some (.int (M3.1 42 5))]) (st' := [.ref o, .int (0 : Int32), .ref 42]) 4 rfl ?_
    refine kx_q_getI (k := 7) ho.1 rfl kfl_X3_74 rfl ?_
    refine kx_go (pc' := 29) (L' := [some (.ref 42), some (.ref o), some (.int (M3.1 42 5))]) (st' := [.int ((M3.1 o 7) - (1 : Int32)), .int (0 : Int32), .ref 42]) 2 rfl ?_
    obtain ⟨v5, M7, hv6, h⟩ := kx_bd_some h
    refine kx_q_callV (as := [.int (0 : Int32), .int ((M3.1 o 7) - (1 : Int32))]) (rest := []) (M1 := M7) (rv := some (.int (kx_bi v5))) kxo_42 rfl klk_X3_78 kse_X3_readNumber rfl rfl rfl rfl (Nat.le_of_ble_eq_true rfl) (Nat.le_of_ble_eq_true rfl) (c_X3_readNumber (d := d + 0) (0 : Int32) ((M3.1 o 7) - (1 : Int32)) M3 v5 M7 hv6) ?_
    show kx_Rn _ _ _ (32, [some (.ref 42), some (.ref o), some (.int (M3.1 42 5))], [.int (kx_bi v5)], M7) _ _
    refine kx_q_zne rfl (fun hc8 => ?_) (fun hc8 => ?_)
    · rw [if_pos hc8] at h
      refine kx_go (pc' := 38) (L' := [some (.ref 42), some (.ref o), some (.int (M3.1 42 5))]) (st' := [.ref o]) 1 rfl ?_
      refine kx_q_getR (k := 6) (j := (o + 7)) ho.1 rfl kfl_X3_107 rfl ?_
      refine kx_go (pc' := 43) (L' := [some (.ref 42), some (.ref o), some (.int (M3.1 42 5))]) (st' := [.int (M3.1 42 5), .ref (o + 7), .int (M3.1 42 5), .ref (o + 7)]) 2 rfl ?_
      obtain ⟨hi9, h⟩ := kx_ck_some h
      refine kx_q_iald (ho.2.2.2.2.2.2.2) rfl hi9 ?_
      refine kx_go (pc' := 46) (L' := [some (.ref 42), some (.ref o), some (.int (M3.1 42 5))]) (st' := [.ref 42, .int (1 : Int32), .int (M7.1 (o + 7) ((M3.1 42 5)).toNatClampNeg), .int (M3.1 42 5), .ref (o + 7)]) 2 rfl ?_
      refine kx_q_getI (k := 5) kxo_42 rfl kfl_X3_82 rfl ?_
      refine kx_go (pc' := 51) (L' := [some (.ref 42), some (.ref o), some (.int (M3.1 42 5))]) (st' := [.int ((M7.1 (o + 7) ((M3.1 42 5)).toNatClampNeg) ||| ((1 : Int32) <<< ((M7.1 42 5) &&& 31))), .int (M3.1 42 5), .ref (o + 7)]) 2 rfl ?_
      obtain ⟨hi10, h⟩ := kx_ck_some h
      refine kx_q_iast (ho.2.2.2.2.2.2.2) rfl hi10 ?_
      obtain ⟨M11, hM11, h⟩ := kx_lt_ex h
      rw [← hM11]
      refine kx_go (pc' := 53) (L' := [some (.ref 42), some (.ref o), some (.int (M3.1 42 5))]) (st' := [.int (1 : Int32)]) 1 rfl ?_
      cases h
      exact kx_r_zret rfl rfl (Or.inr rfl)
    · rw [if_neg hc8] at h
      refine kx_go (pc' := 36) (L' := [some (.ref 42), some (.ref o), some (.int (M3.1 42 5))]) (st' := [.int (0 : Int32)]) 1 rfl ?_
      cases h
      exact kx_r_zret rfl rfl (Or.inl rfl)
  · rw [if_neg hc4] at h
    refine kx_go (pc' := 15) (L' := [some (.ref 42), some (.ref o), none]) (st' := [.int (0 : Int32)]) 1 rfl ?_
    cases h
    exact kx_r_zret rfl rfl (Or.inl rfl)
theorem c_X3_readSaw {d : Nat} (o : Nat) (ho : kx_land EX o) (M : kx_M) (r : Bool) (M' : kx_M) (h : f_X3_readSaw o M = some (r, M')) : kx_Call EX (d + 3) T_X3_readSaw [.ref 42, .ref o] M (some (.int (kx_bi r))) M' := kx_entry kok_X3_readSaw (Nat.le_of_ble_eq_true rfl) rfl (t_X3_readSaw (d := d) o ho M h)
set_option maxRecDepth 100000 in
set_option maxHeartbeats 4000000 in
theorem t_X3_readVeil {d : Nat} {r : Bool} {M' : kx_M} (o : Nat) (ho : kx_land EX o) (M : kx_M) (h : f_X3_readVeil o M = some (r, M')) : kx_Rn EX T_X3_readVeil (d + 3) (0, [some (.ref 42), some (.ref o)], [], M) (some (.int (kx_bi r))) M' := by
  unfold f_X3_readVeil at h
  refine kx_go (pc' := 4) (L' := [some (.ref 42), some (.ref o)]) (st' := [.int (20 : Int32), .int (0 : Int32), .ref 42]) 3 rfl ?_
  obtain ⟨v1, M3, hv2, h⟩ := kx_bd_some h
  refine kx_q_callV (as := [.int (0 : Int32), .int (20 : Int32)]) (rest := []) (M1 := M3) (rv := some (.int (kx_bi v1))) kxo_42 rfl klk_X3_78 kse_X3_readNumber rfl rfl rfl rfl (Nat.le_of_ble_eq_true rfl) (Nat.le_of_ble_eq_true rfl) (c_X3_readNumber (d := d + 0) (0 : Int32) (20 : Int32) M v1 M3 hv2) ?_
  show kx_Rn _ _ _ (7, [some (.ref 42), some (.ref o)], [.int (kx_bi v1)], M3) _ _
  refine kx_q_zne rfl (fun hc4 => ?_) (fun hc4 => ?_)
  · rw [if_pos hc4] at h
    refine kx_go (pc' := 14) (L' := [some (.ref 42), some (.ref o)]) (st' := [.ref 42, .ref o]) 2 rfl ?_
    refine kx_q_getI (k := 5) kxo_42 rfl kfl_X3_82 rfl ?_
    refine kx_q_putI (k := 8) ho.1 rfl kfw_X3_110 rfl ?_
    refine kx_go (pc' := 21) (L' := [some (.ref 42), some (.ref o)]) (st' := [.int (1 : Int32)]) 1 rfl ?_
    cases h
    exact kx_r_zret rfl rfl (Or.inr rfl)
  · rw [if_neg hc4] at h
    refine kx_go (pc' := 11) (L' := [some (.ref 42), some (.ref o)]) (st' := [.int (0 : Int32)]) 1 rfl ?_
    cases h
    exact kx_r_zret rfl rfl (Or.inl rfl)
theorem c_X3_readVeil {d : Nat} (o : Nat) (ho : kx_land EX o) (M : kx_M) (r : Bool) (M' : kx_M) (h : f_X3_readVeil o M = some (r, M')) : kx_Call EX (d + 3) T_X3_readVeil [.ref 42, .ref o] M (some (.int (kx_bi r))) M' := kx_entry kok_X3_readVeil (Nat.le_of_ble_eq_true rfl) rfl (t_X3_readVeil (d := d) o ho M h)
set_option maxRecDepth 100000 in
set_option maxHeartbeats 4000000 in
theorem t_X3_readDay {d : Nat} {r : Bool} {M' : kx_M} (o : Nat) (ho : kx_land EX o) (M : kx_M) (h : f_X3_readDay o M = some (r, M')) : kx_Rn EX T_X3_readDay (d + 3) (0, [some (.ref 42), some (.ref o)], [], M) (some (.int (kx_bi r))) M' := by
  unfold f_X3_readDay at h
  refine kx_go (pc' := 5) (L' := [some (.ref 42), some (.ref o)]) (st' := [.int (999 : Int32), .int (0 : Int32), .ref 42]) 3 rfl ?_
  obtain ⟨v1, M3, hv2, h⟩ := kx_bd_some h
  refine kx_q_callV (as := [.int (0 : Int32), .int (999 : Int32)]) (rest := []) (M1 := M3) (rv := some (.int (kx_bi v1))) kxo_42 rfl klk_X3_78 kse_X3_readNumber rfl rfl rfl rfl (Nat.le_of_ble_eq_true rfl) (Nat.le_of_ble_eq_true rfl) (c_X3_readNumber (d := d + 0) (0 : Int32) (999 : Int32) M v1 M3 hv2) ?_
  show kx_Rn _ _ _ (8, [some (.ref 42), some (.ref o)], [.int (kx_bi v1)], M3) _ _
  refine kx_q_zne rfl (fun hc4 => ?_) (fun hc4 => ?_)
  · rw [if_pos hc4] at h
    refine kx_go (pc' := 15) (L' := [some (.ref 42), some (.ref o)]) (st' := [.ref 42, .ref o]) 2 rfl ?_
    refine kx_q_getI (k := 5) kxo_42 rfl kfl_X3_82 rfl ?_
    refine kx_q_putI (k := 9) ho.1 rfl kfw_X3_112 rfl ?_
    refine kx_go (pc' := 22) (L' := [some (.ref 42), some (.ref o)]) (st' := [.int (1 : Int32)]) 1 rfl ?_
    cases h
    exact kx_r_zret rfl rfl (Or.inr rfl)
  · rw [if_neg hc4] at h
    refine kx_go (pc' := 12) (L' := [some (.ref 42), some (.ref o)]) (st' := [.int (0 : Int32)]) 1 rfl ?_
    cases h
    exact kx_r_zret rfl rfl (Or.inl rfl)
theorem c_X3_readDay {d : Nat} (o : Nat) (ho : kx_land EX o) (M : kx_M) (r : Bool) (M' : kx_M) (h : f_X3_readDay o M = some (r, M')) : kx_Call EX (d + 3) T_X3_readDay [.ref 42, .ref o] M (some (.int (kx_bi r))) M' := kx_entry kok_X3_readDay (Nat.le_of_ble_eq_true rfl) rfl (t_X3_readDay (d := d) o ho M h)
set_option maxRecDepth 100000 in
set_option maxHeartbeats 4000000 in
theorem t_X4_isShelf {E : kx_E} {d : Nat} {r : Bool} (M : kx_M) (a0 : Int32) (h : f_X4_isShelf a0 = r) : kx_Rn E T_X4_isShelf (d + 1) (0, [some (.int a0)], [], M) (some (.int (kx_bi r))) M := by
  unfold f_X4_isShelf at h
  refine kx_go (pc' := 4) (L' := [some (.int a0)]) (st' := [.int (7 : Int32), .int (0 : Int32), .int a0]) 3 rfl ?_
  refine kx_r_callS (as := [.int a0, .int (0 : Int32), .int (7 : Int32)]) (rest := []) (M1 := M) (rv := some (.int (kx_bi (f_X4_isWithin a0 (0 : Int32) (7 : Int32))))) rfl klk_X4_55 kst_X4_isWithin rfl rfl (Nat.le_of_ble_eq_true rfl) (Nat.le_of_ble_eq_true rfl) (c_X4_isWithin (d := d + 0) a0 (0 : Int32) (7 : Int32) M (f_X4_isWithin a0 (0 : Int32) (7 : Int32)) rfl) ?_
  show kx_Rn _ _ _ (7, [some (.int a0)], [.int (kx_bi (f_X4_isWithin a0 (0 : Int32) (7 : Int32)))], M) _ _
  subst h
  exact kx_r_zret rfl rfl (kx_bi_or _)
theorem c_X4_isShelf {E : kx_E} {d : Nat} (a0 : Int32) (M : kx_M) (r : Bool) (h : f_X4_isShelf a0 = r) : kx_Call E (d + 1) T_X4_isShelf [.int a0] M (some (.int (kx_bi r))) M := kx_entry kok_X4_isShelf (Nat.le_of_ble_eq_true rfl) rfl (t_X4_isShelf (d := d) M a0 h)
set_option maxRecDepth 100000 in
set_option maxHeartbeats 4000000 in
theorem t_X4_refuse {d : Nat} {r : Int32} {M' : kx_M} (a0 : Int32) (M : kx_M) (h : f_X4_refuse a0 M = some (r, M')) : kx_Rn EX T_X4_refuse (d + 1) (0, [some (.ref 0), some (.int a0), none], [], M) (some (.int r)) M' := by
  unfold f_X4_refuse at h
  refine kx_go (pc' := 8) (L' := [some (.ref 0), some (.int a0), some (.int ((-2 : Int32) - a0))]) (st' := [.int (4 : Int32), .int (0 : Int32), .int ((-2 : Int32) - a0)]) 7 rfl ?_
  refine kx_r_callS (as := [.int ((-2 : Int32) - a0), .int (0 : Int32), .int (4 : Int32)]) (rest := []) (M1 := M) (rv := some (.int (kx_bi (f_X4_isWithin ((-2 : Int32) - a0) (0 : Int32) (4 : Int32))))) rfl klk_X4_55 kst_X4_isWithin rfl rfl (Nat.le_of_ble_eq_true rfl) (Nat.le_of_ble_eq_true rfl) (c_X4_isWithin (d := d + 0) ((-2 : Int32) - a0) (0 : Int32) (4 : Int32) M (f_X4_isWithin ((-2 : Int32) - a0) (0 : Int32) (4 : Int32)) rfl) ?_
  show kx_Rn _ _ _ (11, [some (.ref 0), some (.int a0), some (.int ((-2 : Int32) - a0))], [.int (kx_bi (f_X4_isWithin ((-2 : Int32) - a0) (0 : Int32) (4 : Int32)))], M) _ _
  refine kx_q_zeq rfl (fun hc1 => ?_) (fun hc1 => ?_)
  · rw [if_neg hc1] at h
    refine kx_go (pc' := 25) (L' := [some (.ref 0), some (.int a0), some (.int ((-2 : Int32) - a0))]) (st' := [.int a0]) 1 rfl ?_
    cases h
    exact kx_r_iret rfl rfl
  · rw [if_pos hc1] at h
    refine kx_go (pc' := 15) (L' := [some (.ref 0), some (.int a0), some (.int ((-2 : Int32) - a0))]) (st' := [.ref 0]) 1 rfl ?_
    refine kx_q_getR (k := 6) (j := 47) kxo_0 rfl kfl_X4_43 rfl ?_
    refine kx_go (pc' := 20) (L' := [some (.ref 0), some (.int a0), some (.int ((-2 : Int32) - a0))]) (st' := [.int ((-2 : Int32) - a0), .ref 47, .int ((-2 : Int32) - a0), .ref 47]) 2 rfl ?_
    obtain ⟨hi2, h⟩ := kx_ck_some h
    refine kx_q_iald (kxa_47) rfl hi2 ?_
    refine kx_go (pc' := 23) (L' := [some (.ref 0), some (.int a0), some (.int ((-2 : Int32) - a0))]) (st' := [.int ((M.1 47 (((-2 : Int32) - a0)).toNatClampNeg) + (1 : Int32)), .int ((-2 : Int32) - a0), .ref 47]) 2 rfl ?_
    obtain ⟨hi3, h⟩ := kx_ck_some h
    refine kx_q_iast (kxa_47) rfl hi3 ?_
    refine kx_go (pc' := 25) (L' := [some (.ref 0), some (.int a0), some (.int ((-2 : Int32) - a0))]) (st' := [.int a0]) 1 rfl ?_
    cases h
    exact kx_r_iret rfl rfl
theorem c_X4_refuse {d : Nat} (a0 : Int32) (M : kx_M) (r : Int32) (M' : kx_M) (h : f_X4_refuse a0 M = some (r, M')) : kx_Call EX (d + 1) T_X4_refuse [.ref 0, .int a0] M (some (.int r)) M' := kx_entry kok_X4_refuse (Nat.le_of_ble_eq_true rfl) rfl (t_X4_refuse (d := d) a0 M h)
set_option maxRecDepth 100000 in
set_option maxHeartbeats 4000000 in
theorem t_X4_row {d : Nat} {r : Int32} {M' : kx_M} (a0 : Int32) (a1 : Int32) (a2 : Int32) (M : kx_M) (h : f_X4_row a0 a1 a2 M = some (r, M')) : kx_Rn EX T_X4_row (d + 2) (0, [some (.ref 0), some (.int a0), some (.int a1), some (.int a2)], [], M) (some (.int r)) M' := by
  unfold f_X4_row at h
  refine kx_go (pc' := 1) (L' := [some (.ref 0), some (.int a0), some (.int a1), some (.int a2)]) (st' := [.int a0]) 1 rfl ?_
  refine kx_r_callS (as := [.int a0]) (rest := []) (M1 := M) (rv := some (.int (kx_bi (f_X4_isShelf a0)))) rfl klk_X4_51 kst_X4_isShelf rfl rfl (Nat.le_of_ble_eq_true rfl) (Nat.le_of_ble_eq_true rfl) (c_X4_isShelf (d := d + 0) a0 M (f_X4_isShelf a0) rfl) ?_
  show kx_Rn _ _ _ (4, [some (.ref 0), some (.int a0), some (.int a1), some (.int a2)], [.int (kx_bi (f_X4_isShelf a0))], M) _ _
  refine kx_q_zeq rfl (fun hc1 => ?_) (fun hc1 => ?_)
  · rw [if_neg hc1] at h
    refine kx_go (pc' := 29) (L' := [some (.ref 0), some (.int a0), some (.int a1), some (.int a2)]) (st' := [.int (-2 : Int32), .ref 0]) 2 rfl ?_
    obtain ⟨v2, M4, hv3, h⟩ := kx_bd_some h
    refine kx_q_callV (as := [.int (-2 : Int32)]) (rest := []) (M1 := M4) (rv := some (.int v2)) kxo_0 rfl klk_X4_59 kse_X4_refuse rfl rfl rfl rfl (Nat.le_of_ble_eq_true rfl) (Nat.le_of_ble_eq_true rfl) (c_X4_refuse (d := d + 0) (-2 : Int32) M v2 M4 hv3) ?_
    show kx_Rn _ _ _ (32, [some (.ref 0), some (.int a0), some (.int a1), some (.int a2)], [.int v2], M4) _ _
    cases h
    exact kx_r_iret rfl rfl
  · rw [if_pos hc1] at h
    refine kx_go (pc' := 10) (L' := [some (.ref 0), some (.int a0), some (.int a1), some (.int a2)]) (st' := [.int (4 : Int32), .int (0 : Int32), .int a1]) 3 rfl ?_
    refine kx_r_callS (as := [.int a1, .int (0 : Int32), .int (4 : Int32)]) (rest := []) (M1 := M) (rv := some (.int (kx_bi (f_X4_isWithin a1 (0 : Int32) (4 : Int32))))) rfl klk_X4_55 kst_X4_isWithin rfl rfl (Nat.le_of_ble_eq_true rfl) (Nat.le_of_ble_eq_true rfl) (c_X4_isWithin (d := d + 1) a1 (0 : Int32) (4 : Int32) M (f_X4_isWithin a1 (0 : Int32) (4 : Int32)) rfl) ?_
    show kx_Rn _ _ _ (13, [some (.ref 0), some (.int a0), some (.int a1), some (.int a2)], [.int (kx_bi (f_X4_isWithin a1 (0 : Int32) (4 : Int32)))], M) _ _
    refine kx_q_zeq rfl (fun hc5 => ?_) (fun hc5 => ?_)
    · rw [if_neg hc5] at h
      refine kx_go (pc' := 29) (L' := [some (.ref 0), some (.int a0), some (.int a1), some (.int a2)]) (st' := [.int (-2 : Int32), .ref 0]) 2 rfl ?_
      obtain ⟨v6, M8, hv7, h⟩ := kx_bd_some h
      refine kx_q_callV (as := [.int (-2 : Int32)]) (rest := []) (M1 := M8) (rv := some (.int v6)) kxo_0 rfl klk_X4_59 kse_X4_refuse rfl rfl rfl rfl (Nat.le_of_ble_eq_true rfl) (Nat.le_of_ble_eq_true rfl) (c_X4_refuse (d := d + 0) (-2 : Int32) M v6 M8 hv7) ?_
      show kx_Rn _ _ _ (32, [some (.ref 0), some (.int a0), some (.int a1), some (.int a2)], [.int v6], M8) _ _
      cases h
      exact kx_r_iret rfl rfl
    · rw [if_pos hc5] at h
      refine kx_go (pc' := 20) (L' := [some (.ref 0), some (.int a0), some (.int a1), some (.int a2)]) (st' := [.int (40 : Int32), .int (0 : Int32), .int a2]) 3 rfl ?_
      refine kx_r_callS (as := [.int a2, .int (0 : Int32), .int (40 : Int32)]) (rest := []) (M1 := M) (rv := some (.int (kx_bi (f_X4_isWithin a2 (0 : Int32) (40 : Int32))))) rfl klk_X4_55 kst_X4_isWithin rfl rfl (Nat.le_of_ble_eq_true rfl) (Nat.le_of_ble_eq_true rfl) (c_X4_isWithin (d := d + 1) a2 (0 : Int32) (40 : Int32) M (f_X4_isWithin a2 (0 : Int32) (40 : Int32)) rfl) ?_
      show kx_Rn _ _ _ (23, [some (.ref 0), some (.int a0), some (.int a1), some (.int a2)], [.int (kx_bi (f_X4_isWithin a2 (0 : Int32) (40 : Int32)))], M) _ _
      refine kx_q_zne rfl (fun hc9 => ?_) (fun hc9 => ?_)
      · rw [if_pos hc9] at h
        refine kx_go (pc' := 34) (L' := [some (.ref 0), some (.int a0), some (.int a1), some (.int a2)]) (st' := [.ref 0]) 1 rfl ?_
        refine kx_q_getR (k := 3) (j := 25) kxo_0 rfl kfl_X4_24 rfl ?_
        refine kx_go (pc' := 38) (L' := [some (.ref 0), some (.int a0), some (.int a1), some (.int a2)]) (st' := [.int a0, .ref 25]) 1 rfl ?_
        obtain ⟨hi10, h⟩ := kx_ck_some h
        refine kx_q_aald rfl hi10 ?_
        refine kx_go (pc' := 41) (L' := [some (.ref 0), some (.int a0), some (.int a1), some (.int a2)]) (st' := [.int a2, .int a1, .ref (26 + 2 * (a0).toNatClampNeg)]) 2 rfl ?_
        obtain ⟨M13, hv12, h⟩ := kx_bn_some h
        refine kx_q_callV (as := [.int a1, .int a2]) (rest := []) (M1 := M13) (rv := none) (kxs_in hi10).1 rfl klk_X4_63 kse_X2_holdRow rfl rfl rfl rfl (Nat.le_of_ble_eq_true rfl) (Nat.le_of_ble_eq_true rfl) (c_X2_holdRow (d := d + 0) (26 + 2 * (a0).toNatClampNeg) ((kxs_in hi10)) a1 a2 M M13 hv12) ?_
        show kx_Rn _ _ _ (44, [some (.ref 0), some (.int a0), some (.int a1), some (.int a2)], [], M13) _ _
        refine kx_go (pc' := 45) (L' := [some (.ref 0), some (.int a0), some (.int a1), some (.int a2)]) (st' := [.int (1 : Int32)]) 1 rfl ?_
        cases h
        exact kx_r_iret rfl rfl
      · rw [if_neg hc9] at h
        refine kx_go (pc' := 29) (L' := [some (.ref 0), some (.int a0), some (.int a1), some (.int a2)]) (st' := [.int (-2 : Int32), .ref 0]) 2 rfl ?_
        obtain ⟨v14, M16, hv15, h⟩ := kx_bd_some h
        refine kx_q_callV (as := [.int (-2 : Int32)]) (rest := []) (M1 := M16) (rv := some (.int v14)) kxo_0 rfl klk_X4_59 kse_X4_refuse rfl rfl rfl rfl (Nat.le_of_ble_eq_true rfl) (Nat.le_of_ble_eq_true rfl) (c_X4_refuse (d := d + 0) (-2 : Int32) M v14 M16 hv15) ?_
        show kx_Rn _ _ _ (32, [some (.ref 0), some (.int a0), some (.int a1), some (.int a2)], [.int v14], M16) _ _
        cases h
        exact kx_r_iret rfl rfl
theorem c_X4_row {d : Nat} (a0 : Int32) (a1 : Int32) (a2 : Int32) (M : kx_M) (r : Int32) (M' : kx_M) (h : f_X4_row a0 a1 a2 M = some (r, M')) : kx_Call EX (d + 2) T_X4_row [.ref 0, .int a0, .int a1, .int a2] M (some (.int r)) M' := kx_entry kok_X4_row (Nat.le_of_ble_eq_true rfl) rfl (t_X4_row (d := d) a0 a1 a2 M h)
set_option maxRecDepth 100000 in
set_option maxHeartbeats 4000000 in
theorem t_X4_rowFault {d : Nat} {r : Int32} (M : kx_M) (a0 : Int32) (a1 : Bool) (a2 : Int32) (h : f_X4_rowFault M a0 a1 a2 = some r) : kx_Rn EX T_X4_rowFault (d + 2) (0, [some (.ref 0), some (.int a0), some (.int (kx_bi a1)), some (.int a2)], [], M) (some (.int r)) M := by
  unfold f_X4_rowFault at h
  refine kx_go (pc' := 1) (L' := [some (.ref 0), some (.int a0), some (.int (kx_bi a1)), some (.int a2)]) (st' := [.int a0]) 1 rfl ?_
  refine kx_r_callS (as := [.int a0]) (rest := []) (M1 := M) (rv := some (.int (kx_bi (f_X4_isShelf a0)))) rfl klk_X4_51 kst_X4_isShelf rfl rfl (Nat.le_of_ble_eq_true rfl) (Nat.le_of_ble_eq_true rfl) (c_X4_isShelf (d := d + 0) a0 M (f_X4_isShelf a0) rfl) ?_
  show kx_Rn _ _ _ (4, [some (.ref 0), some (.int a0), some (.int (kx_bi a1)), some (.int a2)], [.int (kx_bi (f_X4_isShelf a0))], M) _ _
  refine kx_q_zeq rfl (fun hc1 => ?_) (fun hc1 => ?_)
  · rw [if_neg hc1] at h
    refine kx_go (pc' := 13) (L' := [some (.ref 0), some (.int a0), some (.int (kx_bi a1)), some (.int a2)]) (st' := [.int (-2 : Int32)]) 1 rfl ?_
    cases h
    exact kx_r_iret rfl rfl
  · rw [if_pos hc1] at h
    refine kx_go (pc' := 8) (L' := [some (.ref 0), some (.int a0), some (.int (kx_bi a1)), some (.int a2)]) (st' := [.int (kx_bi a1)]) 1 rfl ?_
    refine kx_q_zne rfl (fun hc2 => ?_) (fun hc2 => ?_)
    · rw [if_pos hc2] at h
      refine kx_go (pc' := 15) (L' := [some (.ref 0), some (.int a0), some (.int (kx_bi a1)), some (.int a2)]) (st' := [.ref 0]) 1 rfl ?_
      refine kx_q_getR (k := 3) (j := 25) kxo_0 rfl kfl_X4_24 rfl ?_
      refine kx_go (pc' := 19) (L' := [some (.ref 0), some (.int a0), some (.int (kx_bi a1)), some (.int a2)]) (st' := [.int a0, .ref 25]) 1 rfl ?_
      obtain ⟨hi3, h⟩ := kx_ck_some h
      refine kx_q_aald rfl hi3 ?_
      refine kx_q_callV (as := []) (rest := []) (M1 := M) (rv := some (.int (kx_bi (f_X2_holdsVisitor (26 + 2 * (a0).toNatClampNeg) M)))) (kxs_in hi3).1 rfl klk_X4_110 kse_X2_holdsVisitor rfl rfl rfl rfl (Nat.le_of_ble_eq_true rfl) (Nat.le_of_ble_eq_true rfl) (c_X2_holdsVisitor (d := d + 1) (26 + 2 * (a0).toNatClampNeg) ((kxs_in hi3)) M (f_X2_holdsVisitor (26 + 2 * (a0).toNatClampNeg) M) rfl) ?_
      show kx_Rn _ _ _ (23, [some (.ref 0), some (.int a0), some (.int (kx_bi a1)), some (.int a2)], [.int (kx_bi (f_X2_holdsVisitor (26 + 2 * (a0).toNatClampNeg) M))], M) _ _
      refine kx_q_zeq rfl (fun hc4 => ?_) (fun hc4 => ?_)
      · rw [if_neg hc4] at h
        refine kx_go (pc' := 30) (L' := [some (.ref 0), some (.int a0), some (.int (kx_bi a1)), some (.int a2)]) (st' := [.ref 0]) 1 rfl ?_
        refine kx_q_getR (k := 3) (j := 25) kxo_0 rfl kfl_X4_24 rfl ?_
        refine kx_go (pc' := 34) (L' := [some (.ref 0), some (.int a0), some (.int (kx_bi a1)), some (.int a2)]) (st' := [.int a0, .ref 25]) 1 rfl ?_
        obtain ⟨hi5, h⟩ := kx_ck_some h
        refine kx_q_aald rfl hi5 ?_
        refine kx_q_callV (as := []) (rest := []) (M1 := M) (rv := some (.int (kx_bi (f_X2_holdsRow (26 + 2 * (a0).toNatClampNeg) M)))) (kxs_in hi5).1 rfl klk_X4_97 kse_X2_holdsRow rfl rfl rfl rfl (Nat.le_of_ble_eq_true rfl) (Nat.le_of_ble_eq_true rfl) (c_X2_holdsRow (d := d + 0) (26 + 2 * (a0).toNatClampNeg) ((kxs_in hi5)) M (f_X2_holdsRow (26 + 2 * (a0).toNatClampNeg) M) rfl) ?_
        show kx_Rn _ _ _ (38, [some (.ref 0), some (.int a0), some (.int (kx_bi a1)), some (.int a2)], [.int (kx_bi (f_X2_holdsRow (26 + 2 * (a0).toNatClampNeg) M))], M) _ _
        refine kx_q_zne rfl (fun hc6 => ?_) (fun hc6 => ?_)
        · rw [if_pos hc6] at h
          refine kx_go (pc' := 45) (L' := [some (.ref 0), some (.int a0), some (.int (kx_bi a1)), some (.int a2)]) (st' := [.ref 0]) 1 rfl ?_
          refine kx_q_getR (k := 3) (j := 25) kxo_0 rfl kfl_X4_24 rfl ?_
          refine kx_go (pc' := 49) (L' := [some (.ref 0), some (.int a0), some (.int (kx_bi a1)), some (.int a2)]) (st' := [.int a0, .ref 25]) 1 rfl ?_
          obtain ⟨hi7, h⟩ := kx_ck_some h
          refine kx_q_aald rfl hi7 ?_
          refine kx_q_getI (k := 1) (kxs_in hi7).1 rfl kfl_X4_71 rfl ?_
          refine kx_go (pc' := 54) (L' := [some (.ref 0), some (.int a0), some (.int (kx_bi a1)), some (.int a2)]) (st' := [.int a2, .int (M.1 (26 + 2 * (a0).toNatClampNeg) 1)]) 1 rfl ?_
          refine kx_r_icmp_ge rfl (fun hc8 => ?_) (fun hc8 => ?_)
          · rw [if_pos hc8] at h
            refine kx_go (pc' := 63) (L' := [some (.ref 0), some (.int a0), some (.int (kx_bi a1)), some (.int a2)]) (st' := [.int (0 : Int32)]) 1 rfl ?_
            cases h
            exact kx_r_iret rfl rfl
          · rw [if_neg hc8] at h
            refine kx_go (pc' := 59) (L' := [some (.ref 0), some (.int a0), some (.int (kx_bi a1)), some (.int a2)]) (st' := [.int (-2 : Int32)]) 1 rfl ?_
            refine kx_r_goto rfl ?_
            cases h
            exact kx_r_iret rfl rfl
        · rw [if_neg hc6] at h
          refine kx_go (pc' := 43) (L' := [some (.ref 0), some (.int a0), some (.int (kx_bi a1)), some (.int a2)]) (st' := [.int (-4 : Int32)]) 1 rfl ?_
          cases h
          exact kx_r_iret rfl rfl
      · rw [if_pos hc4] at h
        refine kx_go (pc' := 28) (L' := [some (.ref 0), some (.int a0), some (.int (kx_bi a1)), some (.int a2)]) (st' := [.int (-3 : Int32)]) 1 rfl ?_
        cases h
        exact kx_r_iret rfl rfl
    · rw [if_neg hc2] at h
      refine kx_go (pc' := 13) (L' := [some (.ref 0), some (.int a0), some (.int (kx_bi a1)), some (.int a2)]) (st' := [.int (-2 : Int32)]) 1 rfl ?_
      cases h
      exact kx_r_iret rfl rfl
theorem c_X4_rowFault {d : Nat} (a0 : Int32) (a1 : Bool) (a2 : Int32) (M : kx_M) (r : Int32) (h : f_X4_rowFault M a0 a1 a2 = some r) : kx_Call EX (d + 2) T_X4_rowFault [.ref 0, .int a0, .int (kx_bi a1), .int a2] M (some (.int r)) M := kx_entry kok_X4_rowFault (Nat.le_of_ble_eq_true rfl) rfl (t_X4_rowFault (d := d) M a0 a1 a2 h)
set_option maxRecDepth 100000 in
set_option maxHeartbeats 4000000 in
theorem t_X4_set_37 {d : Nat} {r : Int32} {M' : kx_M} (x1 : Int32) (x2 : Int32) (x3 : Int64) (x5 : Int32) (M : kx_M) (h : f_X4_set_37 x1 x2 x3 x5 M = some (r, M')) : kx_Rn EX T_X4_set (d + 3) (37, [some (.ref 0), some (.int x1), some (.int x2), some (.long x3), none, some (.int x5)], [], M) (some (.int r)) M' := by
  unfold f_X4_set_37 at h
  refine kx_go (pc' := 39) (L' := [some (.ref 0), some (.int x1), some (.int x2), some (.long x3), none, some (.int x5)]) (st' := [.int x5]) 1 rfl ?_
  refine kx_r_if_eq rfl (fun hc1 => ?_) (fun hc1 => ?_)
  · rw [if_pos hc1] at h
    refine kx_go (pc' := 50) (L' := [some (.ref 0), some (.int x1), some (.int x2), some (.long x3), none, some (.int x5)]) (st' := [.ref 0]) 1 rfl ?_
    refine kx_q_getR (k := 3) (j := 25) kxo_0 rfl kfl_X4_24 rfl ?_
    refine kx_go (pc' := 54) (L' := [some (.ref 0), some (.int x1), some (.int x2), some (.long x3), none, some (.int x5)]) (st' := [.int x1, .ref 25]) 1 rfl ?_
    obtain ⟨hi2, h⟩ := kx_ck_some h
    refine kx_q_aald rfl hi2 ?_
    refine kx_go (pc' := 57) (L' := [some (.ref 0), some (.int x1), some (.int x2), some (.long x3), none, some (.int x5)]) (st' := [.long x3, .int x2, .ref (26 + 2 * (x1).toNatClampNeg)]) 2 rfl ?_
    obtain ⟨M5, hv4, h⟩ := kx_bn_some h
    refine kx_q_callV (as := [.int x2, .long x3]) (rest := []) (M1 := M5) (rv := none) (kxs_in hi2).1 rfl klk_X4_75 kse_X2_put rfl rfl rfl rfl (Nat.le_of_ble_eq_true rfl) (Nat.le_of_ble_eq_true rfl) (c_X2_put (d := d + 1) (26 + 2 * (x1).toNatClampNeg) ((kxs_in hi2)) x2 x3 M M5 hv4) ?_
    show kx_Rn _ _ _ (60, [some (.ref 0), some (.int x1), some (.int x2), some (.long x3), none, some (.int x5)], [], M5) _ _
    refine kx_go (pc' := 61) (L' := [some (.ref 0), some (.int x1), some (.int x2), some (.long x3), none, some (.int x5)]) (st' := [.int (1 : Int32)]) 1 rfl ?_
    cases h
    exact kx_r_iret rfl rfl
  · rw [if_neg hc1] at h
    refine kx_go (pc' := 45) (L' := [some (.ref 0), some (.int x1), some (.int x2), some (.long x3), none, some (.int x5)]) (st' := [.int x5, .ref 0]) 2 rfl ?_
    obtain ⟨v6, M8, hv7, h⟩ := kx_bd_some h
    refine kx_q_callV (as := [.int x5]) (rest := []) (M1 := M8) (rv := some (.int v6)) kxo_0 rfl klk_X4_59 kse_X4_refuse rfl rfl rfl rfl (Nat.le_of_ble_eq_true rfl) (Nat.le_of_ble_eq_true rfl) (c_X4_refuse (d := d + 1) x5 M v6 M8 hv7) ?_
    show kx_Rn _ _ _ (48, [some (.ref 0), some (.int x1), some (.int x2), some (.long x3), none, some (.int x5)], [.int v6], M8) _ _
    cases h
    exact kx_r_iret rfl rfl
set_option maxRecDepth 100000 in
set_option maxHeartbeats 4000000 in
theorem t_X4_set {d : Nat} {r : Int32} {M' : kx_M} (a0 : Int32) (a1 : Int32) (a2 : Int64) (M : kx_M) (h : f_X4_set a0 a1 a2 M = some (r, M')) : kx_Rn EX T_X4_set (d + 3) (0, [some (.ref 0), some (.int a0), some (.int a1), some (.long a2), none, none], [], M) (some (.int r)) M' := by
  unfold f_X4_set at h
  refine kx_go (pc' := 4) (L' := [some (.ref 0), some (.int a0), some (.int a1), some (.long a2), none, none]) (st' := [.int (0 : Int32), .int (1 : Int32), .int a0, .ref 0]) 4 rfl ?_
  obtain ⟨v1, hv2, h⟩ := kx_bn_some h
  refine kx_q_callV (as := [.int a0, .int (kx_bi true), .int (0 : Int32)]) (rest := []) (M1 := M) (rv := some (.int v1)) kxo_0 rfl klk_X4_67 kse_X4_rowFault rfl rfl rfl rfl (Nat.le_of_ble_eq_true rfl) (Nat.le_of_ble_eq_true rfl) (c_X4_rowFault (d := d + 0) a0 true (0 : Int32) M v1 hv2) ?_
  show kx_Rn _ _ _ (7, [some (.ref 0), some (.int a0), some (.int a1), some (.long a2), none, none], [.int v1], M) _ _
  refine kx_go (pc' := 11) (L' := [some (.ref 0), some (.int a0), some (.int a1), some (.long a2), none, some (.int v1)]) (st' := [.int v1]) 2 rfl ?_
  refine kx_r_if_ne rfl (fun hc3 => ?_) (fun hc3 => ?_)
  · rw [if_neg hc3] at h
    refine kx_wk [true, true, true, true, false, true] ?_
    exact t_X4_set_37 a0 a1 a2 v1 M h
  · rw [if_pos hc3] at h
    refine kx_go (pc' := 17) (L' := [some (.ref 0), some (.int a0), some (.int a1), some (.long a2), none, some (.int v1)]) (st' := [.ref 0, .int (0 : Int32), .int a1]) 3 rfl ?_
    refine kx_q_getR (k := 3) (j := 25) kxo_0 rfl kfl_X4_24 rfl ?_
    refine kx_go (pc' := 21) (L' := [some (.ref 0), some (.int a0), some (.int a1), some (.long a2), none, some (.int v1)]) (st' := [.int a0, .ref 25, .int (0 : Int32), .int a1]) 1 rfl ?_
    obtain ⟨hi4, h⟩ := kx_ck_some h
    refine kx_q_aald rfl hi4 ?_
    refine kx_q_getI (k := 1) (kxs_in hi4).1 rfl kfl_X4_71 rfl ?_
    refine kx_go (pc' := 27) (L' := [some (.ref 0), some (.int a0), some (.int a1), some (.long a2), none, some (.int v1)]) (st' := [.int ((M.1 (26 + 2 * (a0).toNatClampNeg) 1) - (1 : Int32)), .int (0 : Int32), .int a1]) 2 rfl ?_
    refine kx_r_callS (as := [.int a1, .int (0 : Int32), .int ((M.1 (26 + 2 * (a0).toNatClampNeg) 1) - (1 : Int32))]) (rest := []) (M1 := M) (rv := some (.int (kx_bi (f_X4_isWithin a1 (0 : Int32) ((M.1 (26 + 2 * (a0).toNatClampNeg) 1) - (1 : Int32)))))) rfl klk_X4_55 kst_X4_isWithin rfl rfl (Nat.le_of_ble_eq_true rfl) (Nat.le_of_ble_eq_true rfl) (c_X4_isWithin (d := d + 2) a1 (0 : Int32) ((M.1 (26 + 2 * (a0).toNatClampNeg) 1) - (1 : Int32)) M (f_X4_isWithin a1 (0 : Int32) ((M.1 (26 + 2 * (a0).toNatClampNeg) 1) - (1 : Int32))) rfl) ?_
    show kx_Rn _ _ _ (30, [some (.ref 0), some (.int a0), some (.int a1), some (.long a2), none, some (.int v1)], [.int (kx_bi (f_X4_isWithin a1 (0 : Int32) ((M.1 (26 + 2 * (a0).toNatClampNeg) 1) - (1 : Int32))))], M) _ _
    refine kx_q_zne rfl (fun hc5 => ?_) (fun hc5 => ?_)
    · rw [if_pos hc5] at h
      refine kx_wk [true, true, true, true, false, true] ?_
      exact t_X4_set_37 a0 a1 a2 v1 M h
    · rw [if_neg hc5] at h
      refine kx_go (pc' := 37) (L' := [some (.ref 0), some (.int a0), some (.int a1), some (.long a2), none, some (.int (-2 : Int32))]) (st' := []) 2 rfl ?_
      refine kx_wk [true, true, true, true, false, true] ?_
      exact t_X4_set_37 a0 a1 a2 (-2 : Int32) M h
theorem c_X4_set {d : Nat} (a0 : Int32) (a1 : Int32) (a2 : Int64) (M : kx_M) (r : Int32) (M' : kx_M) (h : f_X4_set a0 a1 a2 M = some (r, M')) : kx_Call EX (d + 3) T_X4_set [.ref 0, .int a0, .int a1, .long a2] M (some (.int r)) M' := kx_entry kok_X4_set (Nat.le_of_ble_eq_true rfl) rfl (t_X4_set (d := d) a0 a1 a2 M h)
set_option maxRecDepth 100000 in
set_option maxHeartbeats 4000000 in
theorem t_X4_copyFault {d : Nat} {r : Int32} (M : kx_M) (a0 : Int32) (a1 : Int32) (h : f_X4_copyFault M a0 a1 = some r) : kx_Rn EX T_X4_copyFault (d + 2) (0, [some (.ref 0), some (.int a0), some (.int a1), none, none], [], M) (some (.int r)) M := by
  unfold f_X4_copyFault at h
  refine kx_go (pc' := 1) (L' := [some (.ref 0), some (.int a0), some (.int a1), none, none]) (st' := [.int a0]) 1 rfl ?_
  refine kx_r_callS (as := [.int a0]) (rest := []) (M1 := M) (rv := some (.int (kx_bi (f_X4_isShelf a0)))) rfl klk_X4_51 kst_X4_isShelf rfl rfl (Nat.le_of_ble_eq_true rfl) (Nat.le_of_ble_eq_true rfl) (c_X4_isShelf (d := d + 0) a0 M (f_X4_isShelf a0) rfl) ?_
  show kx_Rn _ _ _ (4, [some (.ref 0), some (.int a0), some (.int a1), none, none], [.int (kx_bi (f_X4_isShelf a0))], M) _ _
  refine kx_q_zeq rfl (fun hc1 => ?_) (fun hc1 => ?_)
  · rw [if_neg hc1] at h
    refine kx_go (pc' := 16) (L' := [some (.ref 0), some (.int a0), some (.int a1), none, none]) (st' := [.int (-2 : Int32)]) 1 rfl ?_
    cases h
    exact kx_r_iret rfl rfl
  · rw [if_pos hc1] at h
    refine kx_go (pc' := 8) (L' := [some (.ref 0), some (.int a0), some (.int a1), none, none]) (st' := [.int a1]) 1 rfl ?_
    refine kx_r_callS (as := [.int a1]) (rest := []) (M1 := M) (rv := some (.int (kx_bi (f_X4_isShelf a1)))) rfl klk_X4_51 kst_X4_isShelf rfl rfl (Nat.le_of_ble_eq_true rfl) (Nat.le_of_ble_eq_true rfl) (c_X4_isShelf (d := d + 0) a1 M (f_X4_isShelf a1) rfl) ?_
    show kx_Rn _ _ _ (11, [some (.ref 0), some (.int a0), some (.int a1), none, none], [.int (kx_bi (f_X4_isShelf a1))], M) _ _
    refine kx_q_zne rfl (fun hc2 => ?_) (fun hc2 => ?_)
    · rw [if_pos hc2] at h
      refine kx_go (pc' := 18) (L' := [some (.ref 0), some (.int a0), some (.int a1), none, none]) (st' := [.ref 0]) 1 rfl ?_
      refine kx_q_getR (k := 3) (j := 25) kxo_0 rfl kfl_X4_24 rfl ?_
      refine kx_go (pc' := 22) (L' := [some (.ref 0), some (.int a0), some (.int a1), none, none]) (st' := [.int a0, .ref 25]) 1 rfl ?_
      obtain ⟨hi3, h⟩ := kx_ck_some h
      refine kx_q_aald rfl hi3 ?_
      refine kx_go (pc' := 25) (L' := [some (.ref 0), some (.int a0), some (.int a1), some (.ref (26 + 2 * (a0).toNatClampNeg)), none]) (st' := [.ref 0]) 2 rfl ?_
      refine kx_q_getR (k := 3) (j := 25) kxo_0 rfl kfl_X4_24 rfl ?_
      refine kx_go (pc' := 29) (L' := [some (.ref 0), some (.int a0), some (.int a1), some (.ref (26 + 2 * (a0).toNatClampNeg)), none]) (st' := [.int a1, .ref 25]) 1 rfl ?_
      obtain ⟨hi4, h⟩ := kx_ck_some h
      refine kx_q_aald rfl hi4 ?_
      refine kx_go (pc' := 33) (L' := [some (.ref 0), some (.int a0), some (.int a1), some (.ref (26 + 2 * (a0).toNatClampNeg)), some (.ref (26 + 2 * (a1).toNatClampNeg))]) (st' := [.ref (26 + 2 * (a0).toNatClampNeg)]) 2 rfl ?_
      refine kx_q_callV (as := []) (rest := []) (M1 := M) (rv := some (.int (kx_bi (f_X2_holdsVisitor (26 + 2 * (a0).toNatClampNeg) M)))) (kxs_in hi3).1 rfl klk_X4_110 kse_X2_holdsVisitor rfl rfl rfl rfl (Nat.le_of_ble_eq_true rfl) (Nat.le_of_ble_eq_true rfl) (c_X2_holdsVisitor (d := d + 1) (26 + 2 * (a0).toNatClampNeg) ((kxs_in hi3)) M (f_X2_holdsVisitor (26 + 2 * (a0).toNatClampNeg) M) rfl) ?_
      show kx_Rn _ _ _ (36, [some (.ref 0), some (.int a0), some (.int a1), some (.ref (26 + 2 * (a0).toNatClampNeg)), some (.ref (26 + 2 * (a1).toNatClampNeg))], [.int (kx_bi (f_X2_holdsVisitor (26 + 2 * (a0).toNatClampNeg) M))], M) _ _
      refine kx_q_zne rfl (fun hc5 => ?_) (fun hc5 => ?_)
      · rw [if_pos hc5] at h
        refine kx_go (pc' := 49) (L' := [some (.ref 0), some (.int a0), some (.int a1), some (.ref (26 + 2 * (a0).toNatClampNeg)), some (.ref (26 + 2 * (a1).toNatClampNeg))]) (st' := [.int (-3 : Int32)]) 1 rfl ?_
        cases h
        exact kx_r_iret rfl rfl
      · rw [if_neg hc5] at h
        refine kx_go (pc' := 41) (L' := [some (.ref 0), some (.int a0), some (.int a1), some (.ref (26 + 2 * (a0).toNatClampNeg)), some (.ref (26 + 2 * (a1).toNatClampNeg))]) (st' := [.ref (26 + 2 * (a1).toNatClampNeg)]) 1 rfl ?_
        refine kx_q_callV (as := []) (rest := []) (M1 := M) (rv := some (.int (kx_bi (f_X2_holdsVisitor (26 + 2 * (a1).toNatClampNeg) M)))) (kxs_in hi4).1 rfl klk_X4_110 kse_X2_holdsVisitor rfl rfl rfl rfl (Nat.le_of_ble_eq_true rfl) (Nat.le_of_ble_eq_true rfl) (c_X2_holdsVisitor (d := d + 1) (26 + 2 * (a1).toNatClampNeg) ((kxs_in hi4)) M (f_X2_holdsVisitor (26 + 2 * (a1).toNatClampNeg) M) rfl) ?_
        show kx_Rn _ _ _ (44, [some (.ref 0), some (.int a0), some (.int a1), some (.ref (26 + 2 * (a0).toNatClampNeg)), some (.ref (26 + 2 * (a1).toNatClampNeg))], [.int (kx_bi (f_X2_holdsVisitor (26 + 2 * (a1).toNatClampNeg) M))], M) _ _
        refine kx_q_zeq rfl (fun hc6 => ?_) (fun hc6 => ?_)
        · rw [if_neg hc6] at h
          refine kx_go (pc' := 51) (L' := [some (.ref 0), some (.int a0), some (.int a1), some (.ref (26 + 2 * (a0).toNatClampNeg)), some (.ref (26 + 2 * (a1).toNatClampNeg))]) (st' := [.ref (26 + 2 * (a0).toNatClampNeg)]) 1 rfl ?_
          refine kx_q_callV (as := []) (rest := []) (M1 := M) (rv := some (.int (kx_bi (f_X2_holdsRow (26 + 2 * (a0).toNatClampNeg) M)))) (kxs_in hi3).1 rfl klk_X4_97 kse_X2_holdsRow rfl rfl rfl rfl (Nat.le_of_ble_eq_true rfl) (Nat.le_of_ble_eq_true rfl) (c_X2_holdsRow (d := d + 0) (26 + 2 * (a0).toNatClampNeg) ((kxs_in hi3)) M (f_X2_holdsRow (26 + 2 * (a0).toNatClampNeg) M) rfl) ?_
          show kx_Rn _ _ _ (54, [some (.ref 0), some (.int a0), some (.int a1), some (.ref (26 + 2 * (a0).toNatClampNeg)), some (.ref (26 + 2 * (a1).toNatClampNeg))], [.int (kx_bi (f_X2_holdsRow (26 + 2 * (a0).toNatClampNeg) M))], M) _ _
          refine kx_q_zeq rfl (fun hc7 => ?_) (fun hc7 => ?_)
          · rw [if_neg hc7] at h
            refine kx_go (pc' := 67) (L' := [some (.ref 0), some (.int a0), some (.int a1), some (.ref (26 + 2 * (a0).toNatClampNeg)), some (.ref (26 + 2 * (a1).toNatClampNeg))]) (st' := [.int (-4 : Int32)]) 1 rfl ?_
            cases h
            exact kx_r_iret rfl rfl
          · rw [if_pos hc7] at h
            refine kx_go (pc' := 59) (L' := [some (.ref 0), some (.int a0), some (.int a1), some (.ref (26 + 2 * (a0).toNatClampNeg)), some (.ref (26 + 2 * (a1).toNatClampNeg))]) (st' := [.ref (26 + 2 * (a1).toNatClampNeg)]) 1 rfl ?_
            refine kx_q_callV (as := []) (rest := []) (M1 := M) (rv := some (.int (kx_bi (f_X2_holdsRow (26 + 2 * (a1).toNatClampNeg) M)))) (kxs_in hi4).1 rfl klk_X4_97 kse_X2_holdsRow rfl rfl rfl rfl (Nat.le_of_ble_eq_true rfl) (Nat.le_of_ble_eq_true rfl) (c_X2_holdsRow (d := d + 0) (26 + 2 * (a1).toNatClampNeg) ((kxs_in hi4)) M (f_X2_holdsRow (26 + 2 * (a1).toNatClampNeg) M) rfl) ?_
            show kx_Rn _ _ _ (62, [some (.ref 0), some (.int a0), some (.int a1), some (.ref (26 + 2 * (a0).toNatClampNeg)), some (.ref (26 + 2 * (a1).toNatClampNeg))], [.int (kx_bi (f_X2_holdsRow (26 + 2 * (a1).toNatClampNeg) M))], M) _ _
            refine kx_q_zne rfl (fun hc8 => ?_) (fun hc8 => ?_)
            · rw [if_pos hc8] at h
              refine kx_go (pc' := 69) (L' := [some (.ref 0), some (.int a0), some (.int a1), some (.ref (26 + 2 * (a0).toNatClampNeg)), some (.ref (26 + 2 * (a1).toNatClampNeg))]) (st' := [.ref (26 + 2 * (a0).toNatClampNeg)]) 1 rfl ?_
              refine kx_q_getI (k := 2) (kxs_in hi3).1 rfl kfl_X4_101 rfl ?_
              refine kx_go (pc' := 74) (L' := [some (.ref 0), some (.int a0), some (.int a1), some (.ref (26 + 2 * (a0).toNatClampNeg)), some (.ref (26 + 2 * (a1).toNatClampNeg))]) (st' := [.ref (26 + 2 * (a1).toNatClampNeg), .int (M.1 (26 + 2 * (a0).toNatClampNeg) 2)]) 1 rfl ?_
              refine kx_q_getI (k := 2) (kxs_in hi4).1 rfl kfl_X4_101 rfl ?_
              refine kx_r_icmp_ne rfl (fun hc9 => ?_) (fun hc9 => ?_)
              · rw [if_neg hc9] at h
                refine kx_go (pc' := 86) (L' := [some (.ref 0), some (.int a0), some (.int a1), some (.ref (26 + 2 * (a0).toNatClampNeg)), some (.ref (26 + 2 * (a1).toNatClampNeg))]) (st' := [.int (-3 : Int32)]) 1 rfl ?_
                cases h
                exact kx_r_iret rfl rfl
              · rw [if_pos hc9] at h
                refine kx_go (pc' := 81) (L' := [some (.ref 0), some (.int a0), some (.int a1), some (.ref (26 + 2 * (a0).toNatClampNeg)), some (.ref (26 + 2 * (a1).toNatClampNeg))]) (st' := [.int (0 : Int32)]) 1 rfl ?_
                refine kx_r_goto rfl ?_
                cases h
                exact kx_r_iret rfl rfl
            · rw [if_neg hc8] at h
              refine kx_go (pc' := 67) (L' := [some (.ref 0), some (.int a0), some (.int a1), some (.ref (26 + 2 * (a0).toNatClampNeg)), some (.ref (26 + 2 * (a1).toNatClampNeg))]) (st' := [.int (-4 : Int32)]) 1 rfl ?_
              cases h
              exact kx_r_iret rfl rfl
        · rw [if_pos hc6] at h
          refine kx_go (pc' := 49) (L' := [some (.ref 0), some (.int a0), some (.int a1), some (.ref (26 + 2 * (a0).toNatClampNeg)), some (.ref (26 + 2 * (a1).toNatClampNeg))]) (st' := [.int (-3 : Int32)]) 1 rfl ?_
          cases h
          exact kx_r_iret rfl rfl
    · rw [if_neg hc2] at h
      refine kx_go (pc' := 16) (L' := [some (.ref 0), some (.int a0), some (.int a1), none, none]) (st' := [.int (-2 : Int32)]) 1 rfl ?_
      cases h
      exact kx_r_iret rfl rfl
theorem c_X4_copyFault {d : Nat} (a0 : Int32) (a1 : Int32) (M : kx_M) (r : Int32) (h : f_X4_copyFault M a0 a1 = some r) : kx_Call EX (d + 2) T_X4_copyFault [.ref 0, .int a0, .int a1] M (some (.int r)) M := kx_entry kok_X4_copyFault (Nat.le_of_ble_eq_true rfl) rfl (t_X4_copyFault (d := d) M a0 a1 h)
set_option maxRecDepth 100000 in
set_option maxHeartbeats 4000000 in
theorem t_X4_copy_48 {d : Nat} {r : Int32} {M' : kx_M} (x1 : Int32) (x2 : Int32) (x3 : Int32) (x4 : Int32) (x5 : Int32) (x6 : Int32) (M : kx_M) (h : f_X4_copy_48 x1 x2 x3 x4 x5 x6 M = some (r, M')) : kx_Rn EX T_X4_copy (d + 3) (48, [some (.ref 0), some (.int x1), some (.int x2), some (.int x3), some (.int x4), some (.int x5), some (.int x6)], [], M) (some (.int r)) M' := by
  unfold f_X4_copy_48 at h
  refine kx_go (pc' := 50) (L' := [some (.ref 0), some (.int x1), some (.int x2), some (.int x3), some (.int x4), some (.int x5), some (.int x6)]) (st' := [.int x6]) 1 rfl ?_
  refine kx_r_if_eq rfl (fun hc1 => ?_) (fun hc1 => ?_)
  · rw [if_pos hc1] at h
    refine kx_go (pc' := 61) (L' := [some (.ref 0), some (.int x1), some (.int x2), some (.int x3), some (.int x4), some (.int x5), some (.int x6)]) (st' := [.ref 0]) 1 rfl ?_
    refine kx_q_getR (k := 3) (j := 25) kxo_0 rfl kfl_X4_24 rfl ?_
    refine kx_go (pc' := 65) (L' := [some (.ref 0), some (.int x1), some (.int x2), some (.int x3), some (.int x4), some (.int x5), some (.int x6)]) (st' := [.int x1, .ref 25]) 1 rfl ?_
    obtain ⟨hi2, h⟩ := kx_ck_some h
    refine kx_q_aald rfl hi2 ?_
    refine kx_q_getR (k := 0) (j := ((26 + 2 * (x1).toNatClampNeg) + 1)) (kxs_in hi2).1 rfl kfl_X4_87 rfl ?_
    refine kx_go (pc' := 71) (L' := [some (.ref 0), some (.int x1), some (.int x2), some (.int x3), some (.int x4), some (.int x5), some (.int x6)]) (st' := [.ref 0, .int x3, .ref ((26 + 2 * (x1).toNatClampNeg) + 1)]) 2 rfl ?_
    refine kx_q_getR (k := 3) (j := 25) kxo_0 rfl kfl_X4_24 rfl ?_
    refine kx_go (pc' := 75) (L' := [some (.ref 0), some (.int x1), some (.int x2), some (.int x3), some (.int x4), some (.int x5), some (.int x6)]) (st' := [.int x2, .ref 25, .int x3, .ref ((26 + 2 * (x1).toNatClampNeg) + 1)]) 1 rfl ?_
    obtain ⟨hi3, h⟩ := kx_ck_some h
    refine kx_q_aald rfl hi3 ?_
    refine kx_q_getR (k := 0) (j := ((26 + 2 * (x2).toNatClampNeg) + 1)) (kxs_in hi3).1 rfl kfl_X4_87 rfl ?_
    refine kx_go (pc' := 83) (L' := [some (.ref 0), some (.int x1), some (.int x2), some (.int x3), some (.int x4), some (.int x5), some (.int x6)]) (st' := [.int x5, .int x4, .ref ((26 + 2 * (x2).toNatClampNeg) + 1), .int x3, .ref ((26 + 2 * (x1).toNatClampNeg) + 1)]) 2 rfl ?_
    obtain ⟨hi4, h⟩ := kx_cg_some h
    refine kx_q_cpyL ((kxs_in hi2).2) ((kxs_in hi3).2) rfl kml_X4_91 kna_copy kst_copy kini_sys hi4 (Nat.le_of_ble_eq_true rfl) ?_
    obtain ⟨M5, hM5, h⟩ := kx_lt_ex h
    rw [← hM5]
    refine kx_go (pc' := 88) (L' := [some (.ref 0), some (.int x1), some (.int x2), some (.int x3), some (.int x4), some (.int x5), some (.int x6)]) (st' := [.int x5]) 1 rfl ?_
    cases h
    exact kx_r_iret rfl rfl
  · rw [if_neg hc1] at h
    refine kx_go (pc' := 56) (L' := [some (.ref 0), some (.int x1), some (.int x2), some (.int x3), some (.int x4), some (.int x5), some (.int x6)]) (st' := [.int x6, .ref 0]) 2 rfl ?_
    obtain ⟨v6, M8, hv7, h⟩ := kx_bd_some h
    refine kx_q_callV (as := [.int x6]) (rest := []) (M1 := M8) (rv := some (.int v6)) kxo_0 rfl klk_X4_59 kse_X4_refuse rfl rfl rfl rfl (Nat.le_of_ble_eq_true rfl) (Nat.le_of_ble_eq_true rfl) (c_X4_refuse (d := d + 1) x6 M v6 M8 hv7) ?_
    show kx_Rn _ _ _ (59, [some (.ref 0), some (.int x1), some (.int x2), some (.int x3), some (.int x4), some (.int x5), some (.int x6)], [.int v6], M8) _ _
    cases h
    exact kx_r_iret rfl rfl
set_option maxRecDepth 100000 in
set_option maxHeartbeats 4000000 in
theorem t_X4_copy {d : Nat} {r : Int32} {M' : kx_M} (a0 : Int32) (a1 : Int32) (a2 : Int32) (a3 : Int32) (a4 : Int32) (M : kx_M) (h : f_X4_copy a0 a1 a2 a3 a4 M = some (r, M')) : kx_Rn EX T_X4_copy (d + 3) (0, [some (.ref 0), some (.int a0), some (.int a1), some (.int a2), some (.int a3), some (.int a4), none], [], M) (some (.int r)) M' := by
  unfold f_X4_copy at h
  refine kx_go (pc' := 3) (L' := [some (.ref 0), some (.int a0), some (.int a1), some (.int a2), some (.int a3), some (.int a4), none]) (st' := [.int a1, .int a0, .ref 0]) 3 rfl ?_
  obtain ⟨v1, hv2, h⟩ := kx_bn_some h
  refine kx_q_callV (as := [.int a0, .int a1]) (rest := []) (M1 := M) (rv := some (.int v1)) kxo_0 rfl klk_X4_79 kse_X4_copyFault rfl rfl rfl rfl (Nat.le_of_ble_eq_true rfl) (Nat.le_of_ble_eq_true rfl) (c_X4_copyFault (d := d + 0) a0 a1 M v1 hv2) ?_
  show kx_Rn _ _ _ (6, [some (.ref 0), some (.int a0), some (.int a1), some (.int a2), some (.int a3), some (.int a4), none], [.int v1], M) _ _
  refine kx_go (pc' := 10) (L' := [some (.ref 0), some (.int a0), some (.int a1), some (.int a2), some (.int a3), some (.int a4), some (.int v1)]) (st' := [.int v1]) 2 rfl ?_
  refine kx_r_if_ne rfl (fun hc3 => ?_) (fun hc3 => ?_)
  · rw [if_neg hc3] at h
    refine kx_wk [true, true, true, true, true, true, true] ?_
    exact t_X4_copy_48 a0 a1 a2 a3 a4 v1 M h
  · rw [if_pos hc3] at h
    refine kx_go (pc' := 14) (L' := [some (.ref 0), some (.int a0), some (.int a1), some (.int a2), some (.int a3), some (.int a4), some (.int v1)]) (st' := [.ref 0]) 1 rfl ?_
    refine kx_q_getR (k := 3) (j := 25) kxo_0 rfl kfl_X4_24 rfl ?_
    refine kx_go (pc' := 18) (L' := [some (.ref 0), some (.int a0), some (.int a1), some (.int a2), some (.int a3), some (.int a4), some (.int v1)]) (st' := [.int a0, .ref 25]) 1 rfl ?_
    obtain ⟨hi4, h⟩ := kx_ck_some h
    refine kx_q_aald rfl hi4 ?_
    refine kx_go (pc' := 22) (L' := [some (.ref 0), some (.int a0), some (.int a1), some (.int a2), some (.int a3), some (.int a4), some (.int v1)]) (st' := [.int a4, .int a2, .ref (26 + 2 * (a0).toNatClampNeg)]) 2 rfl ?_
    refine kx_q_callV (as := [.int a2, .int a4]) (rest := []) (M1 := M) (rv := some (.int (kx_bi (f_X2_hasPart (26 + 2 * (a0).toNatClampNeg) M a2 a4)))) (kxs_in hi4).1 rfl klk_X4_83 kse_X2_hasPart rfl rfl rfl rfl (Nat.le_of_ble_eq_true rfl) (Nat.le_of_ble_eq_true rfl) (c_X2_hasPart (d := d + 1) (26 + 2 * (a0).toNatClampNeg) ((kxs_in hi4)) a2 a4 M (f_X2_hasPart (26 + 2 * (a0).toNatClampNeg) M a2 a4) rfl) ?_
    show kx_Rn _ _ _ (25, [some (.ref 0), some (.int a0), some (.int a1), some (.int a2), some (.int a3), some (.int a4), some (.int v1)], [.int (kx_bi (f_X2_hasPart (26 + 2 * (a0).toNatClampNeg) M a2 a4))], M) _ _
    refine kx_q_zeq rfl (fun hc5 => ?_) (fun hc5 => ?_)
    · rw [if_neg hc5] at h
      refine kx_go (pc' := 48) (L' := [some (.ref 0), some (.int a0), some (.int a1), some (.int a2), some (.int a3), some (.int a4), some (.int (-2 : Int32))]) (st' := []) 2 rfl ?_
      refine kx_wk [true, true, true, true, true, true, true] ?_
      exact t_X4_copy_48 a0 a1 a2 a3 a4 (-2 : Int32) M h
    · rw [if_pos hc5] at h
      refine kx_go (pc' := 29) (L' := [some (.ref 0), some (.int a0), some (.int a1), some (.int a2), some (.int a3), some (.int a4), some (.int v1)]) (st' := [.ref 0]) 1 rfl ?_
      refine kx_q_getR (k := 3) (j := 25) kxo_0 rfl kfl_X4_24 rfl ?_
      refine kx_go (pc' := 33) (L' := [some (.ref 0), some (.int a0), some (.int a1), some (.int a2), some (.int a3), some (.int a4), some (.int v1)]) (st' := [.int a1, .ref 25]) 1 rfl ?_
      obtain ⟨hi6, h⟩ := kx_ck_some h
      refine kx_q_aald rfl hi6 ?_
      refine kx_go (pc' := 38) (L' := [some (.ref 0), some (.int a0), some (.int a1), some (.int a2), some (.int a3), some (.int a4), some (.int v1)]) (st' := [.int a4, .int a3, .ref (26 + 2 * (a1).toNatClampNeg)]) 2 rfl ?_
      refine kx_q_callV (as := [.int a3, .int a4]) (rest := []) (M1 := M) (rv := some (.int (kx_bi (f_X2_hasPart (26 + 2 * (a1).toNatClampNeg) M a3 a4)))) (kxs_in hi6).1 rfl klk_X4_83 kse_X2_hasPart rfl rfl rfl rfl (Nat.le_of_ble_eq_true rfl) (Nat.le_of_ble_eq_true rfl) (c_X2_hasPart (d := d + 1) (26 + 2 * (a1).toNatClampNeg) ((kxs_in hi6)) a3 a4 M (f_X2_hasPart (26 + 2 * (a1).toNatClampNeg) M a3 a4) rfl) ?_
      show kx_Rn _ _ _ (41, [some (.ref 0), some (.int a0), some (.int a1), some (.int a2), some (.int a3), some (.int a4), some (.int v1)], [.int (kx_bi (f_X2_hasPart (26 + 2 * (a1).toNatClampNeg) M a3 a4))], M) _ _
      refine kx_q_zne rfl (fun hc7 => ?_) (fun hc7 => ?_)
      · rw [if_pos hc7] at h
        refine kx_wk [true, true, true, true, true, true, true] ?_
        exact t_X4_copy_48 a0 a1 a2 a3 a4 v1 M h
      · rw [if_neg hc7] at h
        refine kx_go (pc' := 48) (L' := [some (.ref 0), some (.int a0), some (.int a1), some (.int a2), some (.int a3), some (.int a4), some (.int (-2 : Int32))]) (st' := []) 2 rfl ?_
        refine kx_wk [true, true, true, true, true, true, true] ?_
        exact t_X4_copy_48 a0 a1 a2 a3 a4 (-2 : Int32) M h
theorem c_X4_copy {d : Nat} (a0 : Int32) (a1 : Int32) (a2 : Int32) (a3 : Int32) (a4 : Int32) (M : kx_M) (r : Int32) (M' : kx_M) (h : f_X4_copy a0 a1 a2 a3 a4 M = some (r, M')) : kx_Call EX (d + 3) T_X4_copy [.ref 0, .int a0, .int a1, .int a2, .int a3, .int a4] M (some (.int r)) M' := kx_entry kok_X4_copy (Nat.le_of_ble_eq_true rfl) rfl (t_X4_copy (d := d) a0 a1 a2 a3 a4 M h)
set_option maxRecDepth 100000 in
set_option maxHeartbeats 4000000 in
theorem t_X4_element {d : Nat} {r : Int64} (M : kx_M) (a0 : Int32) (a1 : Int32) (h : f_X4_element M a0 a1 = some r) : kx_Rn EX T_X4_element (d + 2) (0, [some (.ref 0), some (.int a0), some (.int a1)], [], M) (some (.long r)) M := by
  unfold f_X4_element at h
  refine kx_go (pc' := 1) (L' := [some (.ref 0), some (.int a0), some (.int a1)]) (st' := [.int a0]) 1 rfl ?_
  refine kx_r_callS (as := [.int a0]) (rest := []) (M1 := M) (rv := some (.int (kx_bi (f_X4_isShelf a0)))) rfl klk_X4_51 kst_X4_isShelf rfl rfl (Nat.le_of_ble_eq_true rfl) (Nat.le_of_ble_eq_true rfl) (c_X4_isShelf (d := d + 0) a0 M (f_X4_isShelf a0) rfl) ?_
  show kx_Rn _ _ _ (4, [some (.ref 0), some (.int a0), some (.int a1)], [.int (kx_bi (f_X4_isShelf a0))], M) _ _
  refine kx_q_zeq rfl (fun hc1 => ?_) (fun hc1 => ?_)
  · rw [if_neg hc1] at h
    refine kx_go (pc' := 39) (L' := [some (.ref 0), some (.int a0), some (.int a1)]) (st' := [.long (0 : Int64)]) 1 rfl ?_
    cases h
    exact kx_r_lret rfl rfl
  · rw [if_pos hc1] at h
    refine kx_go (pc' := 8) (L' := [some (.ref 0), some (.int a0), some (.int a1)]) (st' := [.ref 0]) 1 rfl ?_
    refine kx_q_getR (k := 3) (j := 25) kxo_0 rfl kfl_X4_24 rfl ?_
    refine kx_go (pc' := 12) (L' := [some (.ref 0), some (.int a0), some (.int a1)]) (st' := [.int a0, .ref 25]) 1 rfl ?_
    obtain ⟨hi2, h⟩ := kx_ck_some h
    refine kx_q_aald rfl hi2 ?_
    refine kx_q_callV (as := []) (rest := []) (M1 := M) (rv := some (.int (kx_bi (f_X2_holdsRow (26 + 2 * (a0).toNatClampNeg) M)))) (kxs_in hi2).1 rfl klk_X4_97 kse_X2_holdsRow rfl rfl rfl rfl (Nat.le_of_ble_eq_true rfl) (Nat.le_of_ble_eq_true rfl) (c_X2_holdsRow (d := d + 0) (26 + 2 * (a0).toNatClampNeg) ((kxs_in hi2)) M (f_X2_holdsRow (26 + 2 * (a0).toNatClampNeg) M) rfl) ?_
    show kx_Rn _ _ _ (16, [some (.ref 0), some (.int a0), some (.int a1)], [.int (kx_bi (f_X2_holdsRow (26 + 2 * (a0).toNatClampNeg) M))], M) _ _
    refine kx_q_zeq rfl (fun hc3 => ?_) (fun hc3 => ?_)
    · rw [if_neg hc3] at h
      refine kx_go (pc' := 39) (L' := [some (.ref 0), some (.int a0), some (.int a1)]) (st' := [.long (0 : Int64)]) 1 rfl ?_
      cases h
      exact kx_r_lret rfl rfl
    · rw [if_pos hc3] at h
      refine kx_go (pc' := 22) (L' := [some (.ref 0), some (.int a0), some (.int a1)]) (st' := [.ref 0, .int (0 : Int32), .int a1]) 3 rfl ?_
      refine kx_q_getR (k := 3) (j := 25) kxo_0 rfl kfl_X4_24 rfl ?_
      refine kx_go (pc' := 26) (L' := [some (.ref 0), some (.int a0), some (.int a1)]) (st' := [.int a0, .ref 25, .int (0 : Int32), .int a1]) 1 rfl ?_
      obtain ⟨hi4, h⟩ := kx_ck_some h
      refine kx_q_aald rfl hi4 ?_
      refine kx_q_getI (k := 1) (kxs_in hi4).1 rfl kfl_X4_71 rfl ?_
      refine kx_go (pc' := 32) (L' := [some (.ref 0), some (.int a0), some (.int a1)]) (st' := [.int ((M.1 (26 + 2 * (a0).toNatClampNeg) 1) - (1 : Int32)), .int (0 : Int32), .int a1]) 2 rfl ?_
      refine kx_r_callS (as := [.int a1, .int (0 : Int32), .int ((M.1 (26 + 2 * (a0).toNatClampNeg) 1) - (1 : Int32))]) (rest := []) (M1 := M) (rv := some (.int (kx_bi (f_X4_isWithin a1 (0 : Int32) ((M.1 (26 + 2 * (a0).toNatClampNeg) 1) - (1 : Int32)))))) rfl klk_X4_55 kst_X4_isWithin rfl rfl (Nat.le_of_ble_eq_true rfl) (Nat.le_of_ble_eq_true rfl) (c_X4_isWithin (d := d + 1) a1 (0 : Int32) ((M.1 (26 + 2 * (a0).toNatClampNeg) 1) - (1 : Int32)) M (f_X4_isWithin a1 (0 : Int32) ((M.1 (26 + 2 * (a0).toNatClampNeg) 1) - (1 : Int32))) rfl) ?_
      show kx_Rn _ _ _ (35, [some (.ref 0), some (.int a0), some (.int a1)], [.int (kx_bi (f_X4_isWithin a1 (0 : Int32) ((M.1 (26 + 2 * (a0).toNatClampNeg) 1) - (1 : Int32))))], M) _ _
      refine kx_q_zne rfl (fun hc5 => ?_) (fun hc5 => ?_)
      · rw [if_pos hc5] at h
        refine kx_go (pc' := 41) (L' := [some (.ref 0), some (.int a0), some (.int a1)]) (st' := [.ref 0]) 1 rfl ?_
        refine kx_q_getR (k := 3) (j := 25) kxo_0 rfl kfl_X4_24 rfl ?_
        refine kx_go (pc' := 45) (L' := [some (.ref 0), some (.int a0), some (.int a1)]) (st' := [.int a0, .ref 25]) 1 rfl ?_
        obtain ⟨hi6, h⟩ := kx_ck_some h
        refine kx_q_aald rfl hi6 ?_
        refine kx_q_getR (k := 0) (j := ((26 + 2 * (a0).toNatClampNeg) + 1)) (kxs_in hi6).1 rfl kfl_X4_87 rfl ?_
        refine kx_go (pc' := 50) (L' := [some (.ref 0), some (.int a0), some (.int a1)]) (st' := [.int a1, .ref ((26 + 2 * (a0).toNatClampNeg) + 1)]) 1 rfl ?_
        obtain ⟨hi7, h⟩ := kx_ck_some h
        refine kx_q_lald ((kxs_in hi6).2) rfl hi7 ?_
        cases h
        exact kx_r_lret rfl rfl
      · rw [if_neg hc5] at h
        refine kx_go (pc' := 39) (L' := [some (.ref 0), some (.int a0), some (.int a1)]) (st' := [.long (0 : Int64)]) 1 rfl ?_
        cases h
        exact kx_r_lret rfl rfl
theorem c_X4_element {d : Nat} (a0 : Int32) (a1 : Int32) (M : kx_M) (r : Int64) (h : f_X4_element M a0 a1 = some r) : kx_Call EX (d + 2) T_X4_element [.ref 0, .int a0, .int a1] M (some (.long r)) M := kx_entry kok_X4_element (Nat.le_of_ble_eq_true rfl) rfl (t_X4_element (d := d) M a0 a1 h)
set_option maxRecDepth 100000 in
set_option maxHeartbeats 4000000 in
theorem t_X4_holds {d : Nat} {r : Int32} (M : kx_M) (a0 : Int32) (h : f_X4_holds M a0 = some r) : kx_Rn EX T_X4_holds (d + 2) (0, [some (.ref 0), some (.int a0)], [], M) (some (.int r)) M := by
  unfold f_X4_holds at h
  refine kx_go (pc' := 1) (L' := [some (.ref 0), some (.int a0)]) (st' := [.int a0]) 1 rfl ?_
  refine kx_r_callS (as := [.int a0]) (rest := []) (M1 := M) (rv := some (.int (kx_bi (f_X4_isShelf a0)))) rfl klk_X4_51 kst_X4_isShelf rfl rfl (Nat.le_of_ble_eq_true rfl) (Nat.le_of_ble_eq_true rfl) (c_X4_isShelf (d := d + 0) a0 M (f_X4_isShelf a0) rfl) ?_
  show kx_Rn _ _ _ (4, [some (.ref 0), some (.int a0)], [.int (kx_bi (f_X4_isShelf a0))], M) _ _
  refine kx_q_zeq rfl (fun hc1 => ?_) (fun hc1 => ?_)
  · rw [if_neg hc1] at h
    refine kx_go (pc' := 20) (L' := [some (.ref 0), some (.int a0)]) (st' := [.int (-1 : Int32)]) 1 rfl ?_
    cases h
    exact kx_r_iret rfl rfl
  · rw [if_pos hc1] at h
    refine kx_go (pc' := 8) (L' := [some (.ref 0), some (.int a0)]) (st' := [.ref 0]) 1 rfl ?_
    refine kx_q_getR (k := 3) (j := 25) kxo_0 rfl kfl_X4_24 rfl ?_
    refine kx_go (pc' := 12) (L' := [some (.ref 0), some (.int a0)]) (st' := [.int a0, .ref 25]) 1 rfl ?_
    obtain ⟨hi2, h⟩ := kx_ck_some h
    refine kx_q_aald rfl hi2 ?_
    refine kx_q_getI (k := 2) (kxs_in hi2).1 rfl kfl_X4_101 rfl ?_
    refine kx_r_goto rfl ?_
    cases h
    exact kx_r_iret rfl rfl
theorem c_X4_holds {d : Nat} (a0 : Int32) (M : kx_M) (r : Int32) (h : f_X4_holds M a0 = some r) : kx_Call EX (d + 2) T_X4_holds [.ref 0, .int a0] M (some (.int r)) M := kx_entry kok_X4_holds (Nat.le_of_ble_eq_true rfl) rfl (t_X4_holds (d := d) M a0 h)
set_option maxRecDepth 100000 in
set_option maxHeartbeats 4000000 in
theorem t_X4_show_30 {d : Nat} {r : Int32} {M' : kx_M} (x1 : Int32) (x2 : Int32) (M : kx_M) (h : f_X4_show_30 x1 x2 M = some (r, M')) : kx_Rn EX T_X4_show (d + 2) (30, [some (.ref 0), some (.int x1), some (.int x2)], [], M) (some (.int r)) M' := by
  unfold f_X4_show_30 at h
  refine kx_go (pc' := 31) (L' := [some (.ref 0), some (.int x1), some (.int x2)]) (st' := [.ref 0]) 1 rfl ?_
  refine kx_q_getR (k := 3) (j := 25) kxo_0 rfl kfl_X4_24 rfl ?_
  refine kx_go (pc' := 35) (L' := [some (.ref 0), some (.int x1), some (.int x2)]) (st' := [.int x1, .ref 25]) 1 rfl ?_
  obtain ⟨hi1, h⟩ := kx_ck_some h
  refine kx_q_aald rfl hi1 ?_
  refine kx_go (pc' := 38) (L' := [some (.ref 0), some (.int x1), some (.int x2)]) (st' := [.int (-1 : Int32), .int x2, .ref (26 + 2 * (x1).toNatClampNeg)]) 2 rfl ?_
  refine kx_r_icmp_ne rfl (fun hc2 => ?_) (fun hc2 => ?_)
  · rw [if_neg hc2] at h
    refine kx_go (pc' := 49) (L' := [some (.ref 0), some (.int x1), some (.int x2)]) (st' := [.int ((10 : Int32) + x2), .ref (26 + 2 * (x1).toNatClampNeg)]) 3 rfl ?_
    refine kx_q_putI (k := 2) (kxs_in hi1).1 rfl kfw_X4_101 rfl ?_
    refine kx_go (pc' := 53) (L' := [some (.ref 0), some (.int x1), some (.int x2)]) (st' := [.int (1 : Int32)]) 1 rfl ?_
    cases h
    exact kx_r_iret rfl rfl
  · rw [if_pos hc2] at h
    refine kx_go (pc' := 42) (L' := [some (.ref 0), some (.int x1), some (.int x2)]) (st' := [.int (-1 : Int32), .ref (26 + 2 * (x1).toNatClampNeg)]) 1 rfl ?_
    refine kx_r_goto rfl ?_
    refine kx_q_putI (k := 2) (kxs_in hi1).1 rfl kfw_X4_101 rfl ?_
    refine kx_go (pc' := 53) (L' := [some (.ref 0), some (.int x1), some (.int x2)]) (st' := [.int (1 : Int32)]) 1 rfl ?_
    cases h
    exact kx_r_iret rfl rfl
set_option maxRecDepth 100000 in
set_option maxHeartbeats 4000000 in
theorem t_X4_show {d : Nat} {r : Int32} {M' : kx_M} (a0 : Int32) (a1 : Int32) (M : kx_M) (h : f_X4_show a0 a1 M = some (r, M')) : kx_Rn EX T_X4_show (d + 2) (0, [some (.ref 0), some (.int a0), some (.int a1)], [], M) (some (.int r)) M' := by
  unfold f_X4_show at h
  refine kx_go (pc' := 1) (L' := [some (.ref 0), some (.int a0), some (.int a1)]) (st' := [.int a0]) 1 rfl ?_
  refine kx_r_callS (as := [.int a0]) (rest := []) (M1 := M) (rv := some (.int (kx_bi (f_X4_isShelf a0)))) rfl klk_X4_51 kst_X4_isShelf rfl rfl (Nat.le_of_ble_eq_true rfl) (Nat.le_of_ble_eq_true rfl) (c_X4_isShelf (d := d + 0) a0 M (f_X4_isShelf a0) rfl) ?_
  show kx_Rn _ _ _ (4, [some (.ref 0), some (.int a0), some (.int a1)], [.int (kx_bi (f_X4_isShelf a0))], M) _ _
  refine kx_q_zeq rfl (fun hc1 => ?_) (fun hc1 => ?_)
  · rw [if_neg hc1] at h
    refine kx_go (pc' := 26) (L' := [some (.ref 0), some (.int a0), some (.int a1)]) (st' := [.int (-2 : Int32), .ref 0]) 2 rfl ?_
    obtain ⟨v2, M4, hv3, h⟩ := kx_bd_some h
    refine kx_q_callV (as := [.int (-2 : Int32)]) (rest := []) (M1 := M4) (rv := some (.int v2)) kxo_0 rfl klk_X4_59 kse_X4_refuse rfl rfl rfl rfl (Nat.le_of_ble_eq_true rfl) (Nat.le_of_ble_eq_true rfl) (c_X4_refuse (d := d + 0) (-2 : Int32) M v2 M4 hv3) ?_
    show kx_Rn _ _ _ (29, [some (.ref 0), some (.int a0), some (.int a1)], [.int v2], M4) _ _
    cases h
    exact kx_r_iret rfl rfl
  · rw [if_pos hc1] at h
    refine kx_go (pc' := 9) (L' := [some (.ref 0), some (.int a0), some (.int a1)]) (st' := [.int (-1 : Int32), .int a1]) 2 rfl ?_
    refine kx_r_icmp_eq rfl (fun hc5 => ?_) (fun hc5 => ?_)
    · rw [if_pos hc5] at h
      refine kx_wk [true, true, true] ?_
      exact t_X4_show_30 a0 a1 M h
    · rw [if_neg hc5] at h
      refine kx_go (pc' := 13) (L' := [some (.ref 0), some (.int a0), some (.int a1)]) (st' := [.ref 0]) 1 rfl ?_
      refine kx_q_getR (k := 0) (j := 1) kxo_0 rfl kfl_X4_10 rfl ?_
      refine kx_go (pc' := 17) (L' := [some (.ref 0), some (.int a0), some (.int a1)]) (st' := [.int a1, .ref 1]) 1 rfl ?_
      refine kx_q_callV (as := [.int a1]) (rest := []) (M1 := M) (rv := some (.int (kx_bi (f_X0_hasVisitor 1 M a1)))) kxl_1.1 rfl klk_X4_104 kse_X0_hasVisitor rfl rfl rfl rfl (Nat.le_of_ble_eq_true rfl) (Nat.le_of_ble_eq_true rfl) (c_X0_hasVisitor (d := d + 0) 1 (kxl_1) a1 M (f_X0_hasVisitor 1 M a1) rfl) ?_
      show kx_Rn _ _ _ (20, [some (.ref 0), some (.int a0), some (.int a1)], [.int (kx_bi (f_X0_hasVisitor 1 M a1))], M) _ _
      refine kx_q_zne rfl (fun hc6 => ?_) (fun hc6 => ?_)
      · rw [if_pos hc6] at h
        refine kx_wk [true, true, true] ?_
        exact t_X4_show_30 a0 a1 M h
      · rw [if_neg hc6] at h
        refine kx_go (pc' := 26) (L' := [some (.ref 0), some (.int a0), some (.int a1)]) (st' := [.int (-2 : Int32), .ref 0]) 2 rfl ?_
        obtain ⟨v7, M9, hv8, h⟩ := kx_bd_some h
        refine kx_q_callV (as := [.int (-2 : Int32)]) (rest := []) (M1 := M9) (rv := some (.int v7)) kxo_0 rfl klk_X4_59 kse_X4_refuse rfl rfl rfl rfl (Nat.le_of_ble_eq_true rfl) (Nat.le_of_ble_eq_true rfl) (c_X4_refuse (d := d + 0) (-2 : Int32) M v7 M9 hv8) ?_
        show kx_Rn _ _ _ (29, [some (.ref 0), some (.int a0), some (.int a1)], [.int v7], M9) _ _
        cases h
        exact kx_r_iret rfl rfl
theorem c_X4_show {d : Nat} (a0 : Int32) (a1 : Int32) (M : kx_M) (r : Int32) (M' : kx_M) (h : f_X4_show a0 a1 M = some (r, M')) : kx_Call EX (d + 2) T_X4_show [.ref 0, .int a0, .int a1] M (some (.int r)) M' := kx_entry kok_X4_show (Nat.le_of_ble_eq_true rfl) rfl (t_X4_show (d := d) a0 a1 M h)
set_option maxRecDepth 100000 in
set_option maxHeartbeats 4000000 in
theorem t_X4_isKind {E : kx_E} {d : Nat} {r : Bool} (M : kx_M) (a0 : Int32) (h : f_X4_isKind a0 = r) : kx_Rn E T_X4_isKind (d + 1) (0, [some (.int a0)], [], M) (some (.int (kx_bi r))) M := by
  unfold f_X4_isKind at h
  refine kx_go (pc' := 3) (L' := [some (.int a0)]) (st' := [.int (5 : Int32), .int (0 : Int32), .int a0]) 3 rfl ?_
  refine kx_r_callS (as := [.int a0, .int (0 : Int32), .int (5 : Int32)]) (rest := []) (M1 := M) (rv := some (.int (kx_bi (f_X4_isWithin a0 (0 : Int32) (5 : Int32))))) rfl klk_X4_55 kst_X4_isWithin rfl rfl (Nat.le_of_ble_eq_true rfl) (Nat.le_of_ble_eq_true rfl) (c_X4_isWithin (d := d + 0) a0 (0 : Int32) (5 : Int32) M (f_X4_isWithin a0 (0 : Int32) (5 : Int32)) rfl) ?_
  show kx_Rn _ _ _ (6, [some (.int a0)], [.int (kx_bi (f_X4_isWithin a0 (0 : Int32) (5 : Int32)))], M) _ _
  subst h
  exact kx_r_zret rfl rfl (kx_bi_or _)
theorem c_X4_isKind {E : kx_E} {d : Nat} (a0 : Int32) (M : kx_M) (r : Bool) (h : f_X4_isKind a0 = r) : kx_Call E (d + 1) T_X4_isKind [.int a0] M (some (.int (kx_bi r))) M := kx_entry kok_X4_isKind (Nat.le_of_ble_eq_true rfl) rfl (t_X4_isKind (d := d) M a0 h)
set_option maxRecDepth 100000 in
set_option maxHeartbeats 4000000 in
theorem t_X4_isUnder_19 {E : kx_E} {d : Nat} {r : Bool} (M : kx_M) (x0 : Int32) (x1 : Int32) (h : f_X4_isUnder_19 x0 x1 = r) : kx_Rn E T_X4_isUnder (d + 0) (19, [some (.int x0), some (.int x1)], [], M) (some (.int (kx_bi r))) M := by
  unfold f_X4_isUnder_19 at h
  refine kx_go (pc' := 21) (L' := [some (.int x0), some (.int x1)]) (st' := [.int (4 : Int32), .int x0]) 2 rfl ?_
  refine kx_r_icmp_ne rfl (fun hc1 => ?_) (fun hc1 => ?_)
  · rw [if_neg hc1] at h
    refine kx_go (pc' := 34) (L' := [some (.int x0), some (.int x1)]) (st' := [.int (0 : Int32)]) 1 rfl ?_
    subst h
    exact kx_r_zret rfl rfl (Or.inl rfl)
  · rw [if_pos hc1] at h
    refine kx_go (pc' := 26) (L' := [some (.int x0), some (.int x1)]) (st' := [.int (2 : Int32), .int x1]) 2 rfl ?_
    refine kx_r_icmp_ne rfl (fun hc2 => ?_) (fun hc2 => ?_)
    · rw [if_neg hc2] at h
      refine kx_go (pc' := 34) (L' := [some (.int x0), some (.int x1)]) (st' := [.int (0 : Int32)]) 1 rfl ?_
      subst h
      exact kx_r_zret rfl rfl (Or.inl rfl)
    · rw [if_pos hc2] at h
      refine kx_go (pc' := 30) (L' := [some (.int x0), some (.int x1)]) (st' := [.int (1 : Int32)]) 1 rfl ?_
      refine kx_r_goto rfl ?_
      subst h
      exact kx_r_zret rfl rfl (Or.inr rfl)
set_option maxRecDepth 100000 in
set_option maxHeartbeats 4000000 in
theorem t_X4_isUnder {E : kx_E} {d : Nat} {r : Bool} (M : kx_M) (a0 : Int32) (a1 : Int32) (h : f_X4_isUnder a0 a1 = r) : kx_Rn E T_X4_isUnder (d + 0) (0, [some (.int a0), some (.int a1)], [], M) (some (.int (kx_bi r))) M := by
  unfold f_X4_isUnder at h
  refine kx_go (pc' := 2) (L' := [some (.int a0), some (.int a1)]) (st' := [.int a1, .int a0]) 2 rfl ?_
  refine kx_r_icmp_eq rfl (fun hc1 => ?_) (fun hc1 => ?_)
  · rw [if_pos hc1] at h
    refine kx_go (pc' := 30) (L' := [some (.int a0), some (.int a1)]) (st' := [.int (1 : Int32)]) 1 rfl ?_
    refine kx_r_goto rfl ?_
    subst h
    exact kx_r_zret rfl rfl (Or.inr rfl)
  · rw [if_neg hc1] at h
    refine kx_go (pc' := 6) (L' := [some (.int a0), some (.int a1)]) (st' := [.int a1]) 1 rfl ?_
    refine kx_r_if_eq rfl (fun hc2 => ?_) (fun hc2 => ?_)
    · rw [if_pos hc2] at h
      refine kx_go (pc' := 30) (L' := [some (.int a0), some (.int a1)]) (st' := [.int (1 : Int32)]) 1 rfl ?_
      refine kx_r_goto rfl ?_
      subst h
      exact kx_r_zret rfl rfl (Or.inr rfl)
    · rw [if_neg hc2] at h
      refine kx_go (pc' := 11) (L' := [some (.int a0), some (.int a1)]) (st' := [.int (3 : Int32), .int a0]) 2 rfl ?_
      refine kx_r_icmp_ne rfl (fun hc3 => ?_) (fun hc3 => ?_)
      · rw [if_neg hc3] at h
        refine kx_wk [true, true] ?_
        exact t_X4_isUnder_19 M a0 a1 h
      · rw [if_pos hc3] at h
        refine kx_go (pc' := 16) (L' := [some (.int a0), some (.int a1)]) (st' := [.int (1 : Int32), .int a1]) 2 rfl ?_
        refine kx_r_icmp_eq rfl (fun hc4 => ?_) (fun hc4 => ?_)
        · rw [if_pos hc4] at h
          refine kx_go (pc' := 30) (L' := [some (.int a0), some (.int a1)]) (st' := [.int (1 : Int32)]) 1 rfl ?_
          refine kx_r_goto rfl ?_
          subst h
          exact kx_r_zret rfl rfl (Or.inr rfl)
        · rw [if_neg hc4] at h
          refine kx_wk [true, true] ?_
          exact t_X4_isUnder_19 M a0 a1 h
theorem c_X4_isUnder {E : kx_E} {d : Nat} (a0 : Int32) (a1 : Int32) (M : kx_M) (r : Bool) (h : f_X4_isUnder a0 a1 = r) : kx_Call E (d + 0) T_X4_isUnder [.int a0, .int a1] M (some (.int (kx_bi r))) M := kx_entry kok_X4_isUnder (Nat.le_of_ble_eq_true rfl) rfl (t_X4_isUnder (d := d) M a0 a1 h)
set_option maxRecDepth 100000 in
set_option maxHeartbeats 4000000 in
theorem t_X4_says {d : Nat} {r : Int32} {M' : kx_M} (a0 : Int32) (a1 : Int32) (M : kx_M) (h : f_X4_says a0 a1 M = some (r, M')) : kx_Rn EX T_X4_says (d + 3) (0, [some (.ref 0), some (.int a0), some (.int a1), none, none], [], M) (some (.int r)) M' := by
  unfold f_X4_says at h
  refine kx_go (pc' := 1) (L' := [some (.ref 0), some (.int a0), some (.int a1), none, none]) (st' := [.int a0]) 1 rfl ?_
  refine kx_r_callS (as := [.int a0]) (rest := []) (M1 := M) (rv := some (.int (kx_bi (f_X4_isShelf a0)))) rfl klk_X4_51 kst_X4_isShelf rfl rfl (Nat.le_of_ble_eq_true rfl) (Nat.le_of_ble_eq_true rfl) (c_X4_isShelf (d := d + 1) a0 M (f_X4_isShelf a0) rfl) ?_
  show kx_Rn _ _ _ (4, [some (.ref 0), some (.int a0), some (.int a1), none, none], [.int (kx_bi (f_X4_isShelf a0))], M) _ _
  refine kx_q_zeq rfl (fun hc1 => ?_) (fun hc1 => ?_)
  · rw [if_neg hc1] at h
    refine kx_go (pc' := 17) (L' := [some (.ref 0), some (.int a0), some (.int a1), none, none]) (st' := [.int (-2 : Int32), .ref 0]) 2 rfl ?_
    obtain ⟨v2, M4, hv3, h⟩ := kx_bd_some h
    refine kx_q_callV (as := [.int (-2 : Int32)]) (rest := []) (M1 := M4) (rv := some (.int v2)) kxo_0 rfl klk_X4_59 kse_X4_refuse rfl rfl rfl rfl (Nat.le_of_ble_eq_true rfl) (Nat.le_of_ble_eq_true rfl) (c_X4_refuse (d := d + 1) (-2 : Int32) M v2 M4 hv3) ?_
    show kx_Rn _ _ _ (20, [some (.ref 0), some (.int a0), some (.int a1), none, none], [.int v2], M4) _ _
    cases h
    exact kx_r_iret rfl rfl
  · rw [if_pos hc1] at h
    refine kx_go (pc' := 8) (L' := [some (.ref 0), some (.int a0), some (.int a1), none, none]) (st' := [.int a1]) 1 rfl ?_
    refine kx_r_callS (as := [.int a1]) (rest := []) (M1 := M) (rv := some (.int (kx_bi (f_X4_isKind a1)))) rfl klk_X4_107 kst_X4_isKind rfl rfl (Nat.le_of_ble_eq_true rfl) (Nat.le_of_ble_eq_true rfl) (c_X4_isKind (d := d + 1) a1 M (f_X4_isKind a1) rfl) ?_
    show kx_Rn _ _ _ (11, [some (.ref 0), some (.int a0), some (.int a1), none, none], [.int (kx_bi (f_X4_isKind a1))], M) _ _
    refine kx_q_zne rfl (fun hc5 => ?_) (fun hc5 => ?_)
    · rw [if_pos hc5] at h
      refine kx_go (pc' := 22) (L' := [some (.ref 0), some (.int a0), some (.int a1), none, none]) (st' := [.ref 0]) 1 rfl ?_
      refine kx_q_getR (k := 3) (j := 25) kxo_0 rfl kfl_X4_24 rfl ?_
      refine kx_go (pc' := 26) (L' := [some (.ref 0), some (.int a0), some (.int a1), none, none]) (st' := [.int a0, .ref 25]) 1 rfl ?_
      obtain ⟨hi6, h⟩ := kx_ck_some h
      refine kx_q_aald rfl hi6 ?_
      refine kx_go (pc' := 29) (L' := [some (.ref 0), some (.int a0), some (.int a1), some (.ref (26 + 2 * (a0).toNatClampNeg)), none]) (st' := [.ref (26 + 2 * (a0).toNatClampNeg)]) 2 rfl ?_
      refine kx_q_callV (as := []) (rest := []) (M1 := M) (rv := some (.int (kx_bi (f_X2_holdsRow (26 + 2 * (a0).toNatClampNeg) M)))) (kxs_in hi6).1 rfl klk_X4_97 kse_X2_holdsRow rfl rfl rfl rfl (Nat.le_of_ble_eq_true rfl) (Nat.le_of_ble_eq_true rfl) (c_X2_holdsRow (d := d + 1) (26 + 2 * (a0).toNatClampNeg) ((kxs_in hi6)) M (f_X2_holdsRow (26 + 2 * (a0).toNatClampNeg) M) rfl) ?_
      show kx_Rn _ _ _ (32, [some (.ref 0), some (.int a0), some (.int a1), some (.ref (26 + 2 * (a0).toNatClampNeg)), none], [.int (kx_bi (f_X2_holdsRow (26 + 2 * (a0).toNatClampNeg) M))], M) _ _
      refine kx_q_zeq rfl (fun hc7 => ?_) (fun hc7 => ?_)
      · rw [if_neg hc7] at h
        refine kx_go (pc' := 43) (L' := [some (.ref 0), some (.int a0), some (.int a1), some (.ref (26 + 2 * (a0).toNatClampNeg)), none]) (st' := [.ref (26 + 2 * (a0).toNatClampNeg)]) 1 rfl ?_
        refine kx_q_callV (as := []) (rest := []) (M1 := M) (rv := some (.int (kx_bi (f_X2_holdsVisitor (26 + 2 * (a0).toNatClampNeg) M)))) (kxs_in hi6).1 rfl klk_X4_110 kse_X2_holdsVisitor rfl rfl rfl rfl (Nat.le_of_ble_eq_true rfl) (Nat.le_of_ble_eq_true rfl) (c_X2_holdsVisitor (d := d + 2) (26 + 2 * (a0).toNatClampNeg) ((kxs_in hi6)) M (f_X2_holdsVisitor (26 + 2 * (a0).toNatClampNeg) M) rfl) ?_
        show kx_Rn _ _ _ (46, [some (.ref 0), some (.int a0), some (.int a1), some (.ref (26 + 2 * (a0).toNatClampNeg)), none], [.int (kx_bi (f_X2_holdsVisitor (26 + 2 * (a0).toNatClampNeg) M))], M) _ _
        refine kx_q_zne rfl (fun hc8 => ?_) (fun hc8 => ?_)
        · rw [if_pos hc8] at h
          refine kx_go (pc' := 57) (L' := [some (.ref 0), some (.int a0), some (.int a1), some (.ref (26 + 2 * (a0).toNatClampNeg)), none]) (st' := [.ref (26 + 2 * (a0).toNatClampNeg)]) 1 rfl ?_
          refine kx_q_getI (k := 2) (kxs_in hi6).1 rfl kfl_X4_101 rfl ?_
          refine kx_go (pc' := 66) (L' := [some (.ref 0), some (.int a0), some (.int a1), some (.ref (26 + 2 * (a0).toNatClampNeg)), some (.int ((M.1 (26 + 2 * (a0).toNatClampNeg) 2) - (10 : Int32)))]) (st' := [.ref 0]) 4 rfl ?_
          refine kx_q_getR (k := 0) (j := 1) kxo_0 rfl kfl_X4_10 rfl ?_
          refine kx_go (pc' := 71) (L' := [some (.ref 0), some (.int a0), some (.int a1), some (.ref (26 + 2 * (a0).toNatClampNeg)), some (.int ((M.1 (26 + 2 * (a0).toNatClampNeg) 2) - (10 : Int32)))]) (st' := [.int ((M.1 (26 + 2 * (a0).toNatClampNeg) 2) - (10 : Int32)), .ref 1]) 1 rfl ?_
          refine kx_q_callV (as := [.int ((M.1 (26 + 2 * (a0).toNatClampNeg) 2) - (10 : Int32))]) (rest := []) (M1 := M) (rv := some (.int (kx_bi (f_X0_hasVisitor 1 M ((M.1 (26 + 2 * (a0).toNatClampNeg) 2) - (10 : Int32)))))) kxl_1.1 rfl klk_X4_104 kse_X0_hasVisitor rfl rfl rfl rfl (Nat.le_of_ble_eq_true rfl) (Nat.le_of_ble_eq_true rfl) (c_X0_hasVisitor (d := d + 1) 1 (kxl_1) ((M.1 (26 + 2 * (a0).toNatClampNeg) 2) - (10 : Int32)) M (f_X0_hasVisitor 1 M ((M.1 (26 + 2 * (a0).toNatClampNeg) 2) - (10 : Int32))) rfl) ?_
          show kx_Rn _ _ _ (74, [some (.ref 0), some (.int a0), some (.int a1), some (.ref (26 + 2 * (a0).toNatClampNeg)), some (.int ((M.1 (26 + 2 * (a0).toNatClampNeg) 2) - (10 : Int32)))], [.int (kx_bi (f_X0_hasVisitor 1 M ((M.1 (26 + 2 * (a0).toNatClampNeg) 2) - (10 : Int32))))], M) _ _
          refine kx_q_zeq rfl (fun hc9 => ?_) (fun hc9 => ?_)
          · rw [if_neg hc9] at h
            refine kx_go (pc' := 97) (L' := [some (.ref 0), some (.int a0), some (.int a1), some (.ref (26 + 2 * (a0).toNatClampNeg)), some (.int ((M.1 (26 + 2 * (a0).toNatClampNeg) 2) - (10 : Int32)))]) (st' := [.int (-3 : Int32), .ref 0]) 2 rfl ?_
            obtain ⟨v10, M12, hv11, h⟩ := kx_bd_some h
            refine kx_q_callV (as := [.int (-3 : Int32)]) (rest := []) (M1 := M12) (rv := some (.int v10)) kxo_0 rfl klk_X4_59 kse_X4_refuse rfl rfl rfl rfl (Nat.le_of_ble_eq_true rfl) (Nat.le_of_ble_eq_true rfl) (c_X4_refuse (d := d + 1) (-3 : Int32) M v10 M12 hv11) ?_
            show kx_Rn _ _ _ (100, [some (.ref 0), some (.int a0), some (.int a1), some (.ref (26 + 2 * (a0).toNatClampNeg)), some (.int ((M.1 (26 + 2 * (a0).toNatClampNeg) 2) - (10 : Int32)))], [.int v10], M12) _ _
            cases h
            exact kx_r_iret rfl rfl
          · rw [if_pos hc9] at h
            refine kx_go (pc' := 78) (L' := [some (.ref 0), some (.int a0), some (.int a1), some (.ref (26 + 2 * (a0).toNatClampNeg)), some (.int ((M.1 (26 + 2 * (a0).toNatClampNeg) 2) - (10 : Int32)))]) (st' := [.ref 0]) 1 rfl ?_
            refine kx_q_getR (k := 0) (j := 1) kxo_0 rfl kfl_X4_10 rfl ?_
            refine kx_q_getR (k := 3) (j := 5) kxl_1.1 rfl kfl_X4_113 rfl ?_
            refine kx_go (pc' := 86) (L' := [some (.ref 0), some (.int a0), some (.int a1), some (.ref (26 + 2 * (a0).toNatClampNeg)), some (.int ((M.1 (26 + 2 * (a0).toNatClampNeg) 2) - (10 : Int32)))]) (st' := [.int ((M.1 (26 + 2 * (a0).toNatClampNeg) 2) - (10 : Int32)), .ref 5]) 1 rfl ?_
            obtain ⟨hi13, h⟩ := kx_ck_some h
            refine kx_q_iald (kxl_1.2.2.2.2.1) rfl hi13 ?_
            refine kx_go (pc' := 88) (L' := [some (.ref 0), some (.int a0), some (.int a1), some (.ref (26 + 2 * (a0).toNatClampNeg)), some (.int ((M.1 (26 + 2 * (a0).toNatClampNeg) 2) - (10 : Int32)))]) (st' := [.int a1, .int (M.1 5 (((M.1 (26 + 2 * (a0).toNatClampNeg) 2) - (10 : Int32))).toNatClampNeg)]) 1 rfl ?_
            refine kx_r_callS (as := [.int (M.1 5 (((M.1 (26 + 2 * (a0).toNatClampNeg) 2) - (10 : Int32))).toNatClampNeg), .int a1]) (rest := []) (M1 := M) (rv := some (.int (kx_bi (f_X4_isUnder (M.1 5 (((M.1 (26 + 2 * (a0).toNatClampNeg) 2) - (10 : Int32))).toNatClampNeg) a1)))) rfl klk_X4_116 kst_X4_isUnder rfl rfl (Nat.le_of_ble_eq_true rfl) (Nat.le_of_ble_eq_true rfl) (c_X4_isUnder (d := d + 2) (M.1 5 (((M.1 (26 + 2 * (a0).toNatClampNeg) 2) - (10 : Int32))).toNatClampNeg) a1 M (f_X4_isUnder (M.1 5 (((M.1 (26 + 2 * (a0).toNatClampNeg) 2) - (10 : Int32))).toNatClampNeg) a1) rfl) ?_
            show kx_Rn _ _ _ (91, [some (.ref 0), some (.int a0), some (.int a1), some (.ref (26 + 2 * (a0).toNatClampNeg)), some (.int ((M.1 (26 + 2 * (a0).toNatClampNeg) 2) - (10 : Int32)))], [.int (kx_bi (f_X4_isUnder (M.1 5 (((M.1 (26 + 2 * (a0).toNatClampNeg) 2) - (10 : Int32))).toNatClampNeg) a1))], M) _ _
            refine kx_q_zne rfl (fun hc14 => ?_) (fun hc14 => ?_)
            · rw [if_pos hc14] at h
              refine kx_go (pc' := 102) (L' := [some (.ref 0), some (.int a0), some (.int a1), some (.ref (26 + 2 * (a0).toNatClampNeg)), some (.int ((M.1 (26 + 2 * (a0).toNatClampNeg) 2) - (10 : Int32)))]) (st' := [.int a1]) 1 rfl ?_
              refine kx_r_if_ne rfl (fun hc15 => ?_) (fun hc15 => ?_)
              · rw [if_neg hc15] at h
                refine kx_go (pc' := 119) (L' := [some (.ref 0), some (.int a0), some (.int a1), some (.ref (26 + 2 * (a0).toNatClampNeg)), some (.int ((M.1 (26 + 2 * (a0).toNatClampNeg) 2) - (10 : Int32)))]) (st' := [.ref 0]) 1 rfl ?_
                refine kx_q_getR (k := 0) (j := 1) kxo_0 rfl kfl_X4_10 rfl ?_
                refine kx_go (pc' := 129) (L' := [some (.ref 0), some (.int a0), some (.int a1), some (.ref (26 + 2 * (a0).toNatClampNeg)), some (.int ((M.1 (26 + 2 * (a0).toNatClampNeg) 2) - (10 : Int32)))]) (st' := [.ref 0, .int ((1 : Int32) <<< (((M.1 (26 + 2 * (a0).toNatClampNeg) 2) - (10 : Int32)) &&& 31)), .int ((M.1 (26 + 2 * (a0).toNatClampNeg) 2) - (10 : Int32)), .ref 1]) 5 rfl ?_
                refine kx_q_getR (k := 0) (j := 1) kxo_0 rfl kfl_X4_10 rfl ?_
                refine kx_q_getI (k := 8) kxl_1.1 rfl kfl_X4_122 rfl ?_
                obtain ⟨v16, hv17, h⟩ := kx_bn_some h
                refine kx_q_callV (as := [.int ((M.1 (26 + 2 * (a0).toNatClampNeg) 2) - (10 : Int32)), .int ((1 : Int32) <<< (((M.1 (26 + 2 * (a0).toNatClampNeg) 2) - (10 : Int32)) &&& 31)), .int (M.1 1 8)]) (rest := []) (M1 := M) (rv := some (.int v16)) kxl_1.1 rfl klk_X4_125 kse_X0_openTo rfl rfl rfl rfl (Nat.le_of_ble_eq_true rfl) (Nat.le_of_ble_eq_true rfl) (c_X0_openTo (d := d + 0) 1 (kxl_1) ((M.1 (26 + 2 * (a0).toNatClampNeg) 2) - (10 : Int32)) ((1 : Int32) <<< (((M.1 (26 + 2 * (a0).toNatClampNeg) 2) - (10 : Int32)) &&& 31)) (M.1 1 8) M v16 hv17) ?_
                show kx_Rn _ _ _ (138, [some (.ref 0), some (.int a0), some (.int a1), some (.ref (26 + 2 * (a0).toNatClampNeg)), some (.int ((M.1 (26 + 2 * (a0).toNatClampNeg) 2) - (10 : Int32)))], [.int v16], M) _ _
                cases h
                exact kx_r_iret rfl rfl
              · rw [if_pos hc15] at h
                refine kx_go (pc' := 106) (L' := [some (.ref 0), some (.int a0), some (.int a1), some (.ref (26 + 2 * (a0).toNatClampNeg)), some (.int ((M.1 (26 + 2 * (a0).toNatClampNeg) 2) - (10 : Int32)))]) (st' := [.ref 0]) 1 rfl ?_
                refine kx_q_getR (k := 0) (j := 1) kxo_0 rfl kfl_X4_10 rfl ?_
                refine kx_q_getR (k := 5) (j := 7) kxl_1.1 rfl kfl_X4_119 rfl ?_
                refine kx_go (pc' := 114) (L' := [some (.ref 0), some (.int a0), some (.int a1), some (.ref (26 + 2 * (a0).toNatClampNeg)), some (.int ((M.1 (26 + 2 * (a0).toNatClampNeg) 2) - (10 : Int32)))]) (st' := [.int ((M.1 (26 + 2 * (a0).toNatClampNeg) 2) - (10 : Int32)), .ref 7]) 1 rfl ?_
                obtain ⟨hi18, h⟩ := kx_ck_some h
                refine kx_q_iald (kxl_1.2.2.2.2.2.2.1) rfl hi18 ?_
                refine kx_r_goto rfl ?_
                cases h
                exact kx_r_iret rfl rfl
            · rw [if_neg hc14] at h
              refine kx_go (pc' := 97) (L' := [some (.ref 0), some (.int a0), some (.int a1), some (.ref (26 + 2 * (a0).toNatClampNeg)), some (.int ((M.1 (26 + 2 * (a0).toNatClampNeg) 2) - (10 : Int32)))]) (st' := [.int (-3 : Int32), .ref 0]) 2 rfl ?_
              obtain ⟨v19, M21, hv20, h⟩ := kx_bd_some h
              refine kx_q_callV (as := [.int (-3 : Int32)]) (rest := []) (M1 := M21) (rv := some (.int v19)) kxo_0 rfl klk_X4_59 kse_X4_refuse rfl rfl rfl rfl (Nat.le_of_ble_eq_true rfl) (Nat.le_of_ble_eq_true rfl) (c_X4_refuse (d := d + 1) (-3 : Int32) M v19 M21 hv20) ?_
              show kx_Rn _ _ _ (100, [some (.ref 0), some (.int a0), some (.int a1), some (.ref (26 + 2 * (a0).toNatClampNeg)), some (.int ((M.1 (26 + 2 * (a0).toNatClampNeg) 2) - (10 : Int32)))], [.int v19], M21) _ _
              cases h
              exact kx_r_iret rfl rfl
        · rw [if_neg hc8] at h
          refine kx_go (pc' := 52) (L' := [some (.ref 0), some (.int a0), some (.int a1), some (.ref (26 + 2 * (a0).toNatClampNeg)), none]) (st' := [.int (-4 : Int32), .ref 0]) 2 rfl ?_
          obtain ⟨v22, M24, hv23, h⟩ := kx_bd_some h
          refine kx_q_callV (as := [.int (-4 : Int32)]) (rest := []) (M1 := M24) (rv := some (.int v22)) kxo_0 rfl klk_X4_59 kse_X4_refuse rfl rfl rfl rfl (Nat.le_of_ble_eq_true rfl) (Nat.le_of_ble_eq_true rfl) (c_X4_refuse (d := d + 1) (-4 : Int32) M v22 M24 hv23) ?_
          show kx_Rn _ _ _ (55, [some (.ref 0), some (.int a0), some (.int a1), some (.ref (26 + 2 * (a0).toNatClampNeg)), none], [.int v22], M24) _ _
          cases h
          exact kx_r_iret rfl rfl
      · rw [if_pos hc7] at h
        refine kx_go (pc' := 38) (L' := [some (.ref 0), some (.int a0), some (.int a1), some (.ref (26 + 2 * (a0).toNatClampNeg)), none]) (st' := [.int (-3 : Int32), .ref 0]) 2 rfl ?_
        obtain ⟨v25, M27, hv26, h⟩ := kx_bd_some h
        refine kx_q_callV (as := [.int (-3 : Int32)]) (rest := []) (M1 := M27) (rv := some (.int v25)) kxo_0 rfl klk_X4_59 kse_X4_refuse rfl rfl rfl rfl (Nat.le_of_ble_eq_true rfl) (Nat.le_of_ble_eq_true rfl) (c_X4_refuse (d := d + 1) (-3 : Int32) M v25 M27 hv26) ?_
        show kx_Rn _ _ _ (41, [some (.ref 0), some (.int a0), some (.int a1), some (.ref (26 + 2 * (a0).toNatClampNeg)), none], [.int v25], M27) _ _
        cases h
        exact kx_r_iret rfl rfl
    · rw [if_neg hc5] at h
      refine kx_go (pc' := 17) (L' := [some (.ref 0), some (.int a0), some (.int a1), none, none]) (st' := [.int (-2 : Int32), .ref 0]) 2 rfl ?_
      obtain ⟨v28, M30, hv29, h⟩ := kx_bd_some h
      refine kx_q_callV (as := [.int (-2 : Int32)]) (rest := []) (M1 := M30) (rv := some (.int v28)) kxo_0 rfl klk_X4_59 kse_X4_refuse rfl rfl rfl rfl (Nat.le_of_ble_eq_true rfl) (Nat.le_of_ble_eq_true rfl) (c_X4_refuse (d := d + 1) (-2 : Int32) M v28 M30 hv29) ?_
      show kx_Rn _ _ _ (20, [some (.ref 0), some (.int a0), some (.int a1), none, none], [.int v28], M30) _ _
      cases h
      exact kx_r_iret rfl rfl
theorem c_X4_says {d : Nat} (a0 : Int32) (a1 : Int32) (M : kx_M) (r : Int32) (M' : kx_M) (h : f_X4_says a0 a1 M = some (r, M')) : kx_Call EX (d + 3) T_X4_says [.ref 0, .int a0, .int a1] M (some (.int r)) M' := kx_entry kok_X4_says (Nat.le_of_ble_eq_true rfl) rfl (t_X4_says (d := d) a0 a1 M h)
