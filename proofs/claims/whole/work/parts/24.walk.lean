set_option maxRecDepth 100000 in
set_option maxHeartbeats 4000000 in
theorem t_X5_isShownSo_14 {d : Nat} {r : Bool} {M' : kx_M} : ∀ (n : Nat) (x1 : Int32) (x2 : Int32) (x3 : Int32) (x4 : Int32) (x5 : Bool) (x6 : Int32) (M : kx_M), f_X5_isShownSo_14 n x1 x2 x3 x4 x5 x6 M = some (r, M') → kx_Rn EM T_X5_isShownSo (d + 5) (14, [some (.ref 0), some (.int x1), some (.int x2), some (.int x3), some (.int x4), some (.int (kx_bi x5)), some (.int x6)], [], M) (some (.int (kx_bi r))) M' := by
  intro n
  induction n with
  | zero =>
    intro x1 x2 x3 x4 x5 x6 M h
    cases (show (none : Option (Bool × kx_M)) = some _ from h)
  | succ n ih =>
    intro x1 x2 x3 x4 x5 x6 M h
    rw [f_X5_isShownSo_14.eq_2] at h
    refine kx_go (pc' := 17) (L' := [some (.ref 0), some (.int x1), some (.int x2), some (.int x3), some (.int x4), some (.int (kx_bi x5)), some (.int x6)]) (st' := [.int x2, .int x6]) 2 rfl ?_
    refine kx_r_icmp_ge rfl (fun hc1 => ?_) (fun hc1 => ?_)
    · rw [if_pos hc1] at h
      refine kx_go (pc' := 76) (L' := [some (.ref 0), some (.int x1), some (.int x2), some (.int x3), some (.int x4), some (.int (kx_bi x5)), some (.int x6)]) (st' := [.ref 0]) 1 rfl ?_
      refine kx_q_getR (k := 3) (j := 3) kmo_0 rfl kfl_X5_16 rfl ?_
      refine kx_go (pc' := 82) (L' := [some (.ref 0), some (.int x1), some (.int x2), some (.int x3), some (.int x4), some (.int (kx_bi x5)), some (.int x6)]) (st' := [.int x4, .int (0 : Int32), .ref 3]) 2 rfl ?_
      obtain ⟨hi2, h⟩ := kx_ck_some h
      refine kx_q_iast (kma_3) rfl hi2 ?_
      refine kx_go (pc' := 85) (L' := [some (.ref 0), some (.int x1), some (.int x2), some (.int x3), some (.int x4), some (.int (kx_bi x5)), some (.int x6)]) (st' := [.int (kx_bi x5)]) 1 rfl ?_
      cases h
      exact kx_r_zret rfl rfl (kx_bi_or _)
    · rw [if_neg hc1] at h
      refine kx_go (pc' := 22) (L' := [some (.ref 0), some (.int x1), some (.int x2), some (.int x3), some (.int x4), some (.int (kx_bi x5)), some (.int x6)]) (st' := [.int (kx_bi x5)]) 1 rfl ?_
      refine kx_q_zeq rfl (fun hc3 => ?_) (fun hc3 => ?_)
      · rw [if_neg hc3] at h
        refine kx_go (pc' := 76) (L' := [some (.ref 0), some (.int x1), some (.int x2), some (.int x3), some (.int x4), some (.int (kx_bi x5)), some (.int x6)]) (st' := [.ref 0]) 1 rfl ?_
        refine kx_q_getR (k := 3) (j := 3) kmo_0 rfl kfl_X5_16 rfl ?_
        refine kx_go (pc' := 82) (L' := [some (.ref 0), some (.int x1), some (.int x2), some (.int x3), some (.int x4), some (.int (kx_bi x5)), some (.int x6)]) (st' := [.int x4, .int (0 : Int32), .ref 3]) 2 rfl ?_
        obtain ⟨hi4, h⟩ := kx_ck_some h
        refine kx_q_iast (kma_3) rfl hi4 ?_
        refine kx_go (pc' := 85) (L' := [some (.ref 0), some (.int x1), some (.int x2), some (.int x3), some (.int x4), some (.int (kx_bi x5)), some (.int x6)]) (st' := [.int (kx_bi x5)]) 1 rfl ?_
        cases h
        exact kx_r_zret rfl rfl (kx_bi_or _)
      · rw [if_pos hc3] at h
        refine kx_go (pc' := 26) (L' := [some (.ref 0), some (.int x1), some (.int x2), some (.int x3), some (.int x4), some (.int (kx_bi x5)), some (.int x6)]) (st' := [.ref 0]) 1 rfl ?_
        refine kx_q_getR (k := 3) (j := 3) kmo_0 rfl kfl_X5_16 rfl ?_
        refine kx_go (pc' := 36) (L' := [some (.ref 0), some (.int x1), some (.int x2), some (.int x3), some (.int x4), some (.int (kx_bi x5)), some (.int x6)]) (st' := [.int ((2 : Int32) * x6), .int x1, .ref 0, .int (0 : Int32), .ref 3]) 6 rfl ?_
        obtain ⟨v5, hv6, h⟩ := kx_bn_some h
        refine kx_q_callV (as := [.int x1, .int ((2 : Int32) * x6)]) (rest := [.int (0 : Int32), .ref 3]) (M1 := M) (rv := some (.long v5)) kmo_0 rfl klk_X5_259 kse_X5_toldAt rfl rfl rfl rfl (Nat.le_of_ble_eq_true rfl) (Nat.le_of_ble_eq_true rfl) (c_X5_toldAt (d := d + 4) x1 ((2 : Int32) * x6) M v5 hv6) ?_
        show kx_Rn _ _ _ (39, [some (.ref 0), some (.int x1), some (.int x2), some (.int x3), some (.int x4), some (.int (kx_bi x5)), some (.int x6)], [.long v5, .int (0 : Int32), .ref 3], M) _ _
        refine kx_go (pc' := 40) (L' := [some (.ref 0), some (.int x1), some (.int x2), some (.int x3), some (.int x4), some (.int (kx_bi x5)), some (.int x6)]) (st' := [.int (v5).toInt32, .int (0 : Int32), .ref 3]) 1 rfl ?_
        obtain ⟨hi7, h⟩ := kx_ck_some h
        refine kx_q_iast (kma_3) rfl hi7 ?_
        refine kx_go (pc' := 43) (L' := [some (.ref 0), some (.int x1), some (.int x2), some (.int x3), some (.int x4), some (.int (kx_bi x5)), some (.int x6)]) (st' := [.int x3, .ref 0]) 2 rfl ?_
        obtain ⟨v8, hv9, h⟩ := kx_bn_some h
        refine kx_q_callV (as := [.int x3]) (rest := []) (M1 := (kx_u1 M 3 ((0 : Int32)).toNatClampNeg (v5).toInt32)) (rv := some (.int v8)) kmo_0 rfl klk_X5_253 kse_X5_shownAlone rfl rfl rfl rfl (Nat.le_of_ble_eq_true rfl) (Nat.le_of_ble_eq_true rfl) (c_X5_shownAlone (d := d + 0) x3 (kx_u1 M 3 ((0 : Int32)).toNatClampNeg (v5).toInt32) v8 hv9) ?_
        show kx_Rn _ _ _ (46, [some (.ref 0), some (.int x1), some (.int x2), some (.int x3), some (.int x4), some (.int (kx_bi x5)), some (.int x6)], [.int v8], (kx_u1 M 3 ((0 : Int32)).toNatClampNeg (v5).toInt32)) _ _
        refine kx_go (pc' := 55) (L' := [some (.ref 0), some (.int x1), some (.int x2), some (.int x3), some (.int x4), some (.int (kx_bi x5)), some (.int x6)]) (st' := [.int (((2 : Int32) * x6) + (1 : Int32)), .int x1, .ref 0, .long (v8).toInt64]) 8 rfl ?_
        obtain ⟨v10, hv11, h⟩ := kx_bn_some h
        refine kx_q_callV (as := [.int x1, .int (((2 : Int32) * x6) + (1 : Int32))]) (rest := [.long (v8).toInt64]) (M1 := (kx_u1 M 3 ((0 : Int32)).toNatClampNeg (v5).toInt32)) (rv := some (.long v10)) kmo_0 rfl klk_X5_259 kse_X5_toldAt rfl rfl rfl rfl (Nat.le_of_ble_eq_true rfl) (Nat.le_of_ble_eq_true rfl) (c_X5_toldAt (d := d + 4) x1 (((2 : Int32) * x6) + (1 : Int32)) (kx_u1 M 3 ((0 : Int32)).toNatClampNeg (v5).toInt32) v10 hv11) ?_
        show kx_Rn _ _ _ (58, [some (.ref 0), some (.int x1), some (.int x2), some (.int x3), some (.int x4), some (.int (kx_bi x5)), some (.int x6)], [.long v10, .long (v8).toInt64], (kx_u1 M 3 ((0 : Int32)).toNatClampNeg (v5).toInt32)) _ _
        refine kx_go (pc' := 59) (L' := [some (.ref 0), some (.int x1), some (.int x2), some (.int x3), some (.int x4), some (.int (kx_bi x5)), some (.int x6)]) (st' := [.int (lg_cmp (v8).toInt64 v10)]) 1 rfl ?_
        refine kx_r_if_ne rfl (fun hc12 => ?_) (fun hc12 => ?_)
        · rw [if_neg hc12] at h
          refine kx_go (pc' := 72) (L' := [some (.ref 0), some (.int x1), some (.int x2), some (.int x3), some (.int x4), some (.int (0 : Int32)), some (.int (x6 + (1)))]) (st' := []) 3 rfl ?_
          refine kx_r_goto rfl ?_
          refine kx_wk [true, true, true, true, true, true, true] ?_
          exact ih x1 x2 x3 x4 false (x6 + (1)) (kx_u1 M 3 ((0 : Int32)).toNatClampNeg (v5).toInt32) h
        · rw [if_pos hc12] at h
          refine kx_go (pc' := 63) (L' := [some (.ref 0), some (.int x1), some (.int x2), some (.int x3), some (.int x4), some (.int (kx_bi x5)), some (.int x6)]) (st' := [.int (1 : Int32)]) 1 rfl ?_
          refine kx_r_goto rfl ?_
          refine kx_go (pc' := 72) (L' := [some (.ref 0), some (.int x1), some (.int x2), some (.int x3), some (.int x4), some (.int (1 : Int32)), some (.int (x6 + (1)))]) (st' := []) 2 rfl ?_
          refine kx_r_goto rfl ?_
          refine kx_wk [true, true, true, true, true, true, true] ?_
          exact ih x1 x2 x3 x4 true (x6 + (1)) (kx_u1 M 3 ((0 : Int32)).toNatClampNeg (v5).toInt32) h
set_option maxRecDepth 100000 in
set_option maxHeartbeats 4000000 in
theorem t_X5_isShownSo {d : Nat} {r : Bool} {M' : kx_M} (a0 : Int32) (a1 : Int32) (a2 : Int32) (M : kx_M) (h : f_X5_isShownSo a0 a1 a2 M = some (r, M')) : kx_Rn EM T_X5_isShownSo (d + 5) (0, [some (.ref 0), some (.int a0), some (.int a1), some (.int a2), none, none, none], [], M) (some (.int (kx_bi r))) M' := by
  unfold f_X5_isShownSo at h
  refine kx_go (pc' := 1) (L' := [some (.ref 0), some (.int a0), some (.int a1), some (.int a2), none, none, none]) (st' := [.ref 0]) 1 rfl ?_
  refine kx_q_getR (k := 3) (j := 3) kmo_0 rfl kfl_X5_16 rfl ?_
  refine kx_go (pc' := 5) (L' := [some (.ref 0), some (.int a0), some (.int a1), some (.int a2), none, none, none]) (st' := [.int (0 : Int32), .ref 3]) 1 rfl ?_
  obtain ⟨hi1, h⟩ := kx_ck_some h
  refine kx_q_iald (kma_3) rfl hi1 ?_
  refine kx_go (pc' := 14) (L' := [some (.ref 0), some (.int a0), some (.int a1), some (.int a2), some (.int (M.1 3 ((0 : Int32)).toNatClampNeg)), some (.int (1 : Int32)), some (.int (0 : Int32))]) (st' := []) 5 rfl ?_
  refine kx_wk [true, true, true, true, true, true, true] ?_
  exact t_X5_isShownSo_14 kx_fuel a0 a1 a2 (M.1 3 ((0 : Int32)).toNatClampNeg) true (0 : Int32) M h
theorem c_X5_isShownSo {d : Nat} (a0 : Int32) (a1 : Int32) (a2 : Int32) (M : kx_M) (r : Bool) (M' : kx_M) (h : f_X5_isShownSo a0 a1 a2 M = some (r, M')) : kx_Call EM (d + 5) T_X5_isShownSo [.ref 0, .int a0, .int a1, .int a2] M (some (.int (kx_bi r))) M' := kx_entry kok_X5_isShownSo (Nat.le_of_ble_eq_true rfl) rfl (t_X5_isShownSo (d := d) a0 a1 a2 M h)
set_option maxRecDepth 100000 in
set_option maxHeartbeats 4000000 in
theorem t_X5_fits_132 {d : Nat} {r : Int32} {M' : kx_M} (k92 : Int32 → Int32 → Int32 → Int32 → Int32 → Int32 → Int32 → kx_M → Option (Int32 × kx_M)) (hk92 : ∀ (x1 : Int32) (x2 : Int32) (x3 : Int32) (x4 : Int32) (x6 : Int32) (x7 : Int32) (x8 : Int32) (M : kx_M), k92 x1 x2 x3 x4 x6 x7 x8 M = some (r, M') → kx_Rn EM T_X5_fits (d + 6) (92, [some (.ref 0), some (.int x1), some (.int x2), some (.int x3), some (.int x4), none, some (.int x6), some (.int x7), some (.int x8)], [], M) (some (.int r)) M') (x1 : Int32) (x2 : Int32) (x3 : Int32) (x4 : Int32) (x6 : Int32) (x7 : Int32) (x8 : Int32) (M : kx_M) (h : f_X5_fits_132 k92 x1 x2 x3 x4 x6 x7 x8 M = some (r, M')) : kx_Rn EM T_X5_fits (d + 6) (132, [some (.ref 0), some (.int x1), some (.int x2), some (.int x3), some (.int x4), none, some (.int x6), some (.int x7), some (.int x8)], [], M) (some (.int r)) M' := by
  unfold f_X5_fits_132 at h
  refine kx_go (pc' := 136) (L' := [some (.ref 0), some (.int x1), some (.int x2), some (.int x3), some (.int x4), none, some (.int x6), some (.int x7), some (.int x8)]) (st' := [.int x3, .int x2, .int x1, .ref 0]) 4 rfl ?_
  obtain ⟨v1, M3, hv2, h⟩ := kx_bd_some h
  refine kx_q_callV (as := [.int x1, .int x2, .int x3]) (rest := []) (M1 := M3) (rv := some (.int (kx_bi v1))) kmo_0 rfl klk_X5_269 kse_X5_isShownSo rfl rfl rfl rfl (Nat.le_of_ble_eq_true rfl) (Nat.le_of_ble_eq_true rfl) (c_X5_isShownSo (d := d + 0) x1 x2 x3 M v1 M3 hv2) ?_
  show kx_Rn _ _ _ (139, [some (.ref 0), some (.int x1), some (.int x2), some (.int x3), some (.int x4), none, some (.int x6), some (.int x7), some (.int x8)], [.int (kx_bi v1)], M3) _ _
  refine kx_q_zeq rfl (fun hc4 => ?_) (fun hc4 => ?_)
  · rw [if_neg hc4] at h
    refine kx_go (pc' := 154) (L' := [some (.ref 0), some (.int x1), some (.int x2), some (.int x3), some (.int x4), none, some (.int x6), some (.int x7), some (.int (x8 + (1)))]) (st' := []) 1 rfl ?_
    refine kx_r_goto rfl ?_
    refine kx_wk [true, true, true, true, true, false, true, true, true] ?_
    exact hk92 x1 x2 x3 x4 x6 x7 (x8 + (1)) M3 h
  · rw [if_pos hc4] at h
    refine kx_go (pc' := 154) (L' := [some (.ref 0), some (.int x1), some (.int x2), some (.int x3), some (.int x4), none, some (.int x6), some (.int (x7 ||| ((1 : Int32) <<< (x8 &&& 31)))), some (.int (x8 + (1)))]) (st' := []) 7 rfl ?_
    refine kx_r_goto rfl ?_
    refine kx_wk [true, true, true, true, true, false, true, true, true] ?_
    exact hk92 x1 x2 x3 x4 x6 (x7 ||| ((1 : Int32) <<< (x8 &&& 31))) (x8 + (1)) M3 h
set_option maxRecDepth 100000 in
set_option maxHeartbeats 4000000 in
theorem t_X5_fits_105 {d : Nat} {r : Int32} {M' : kx_M} (k92 : Int32 → Int32 → Int32 → Int32 → Int32 → Int32 → Int32 → kx_M → Option (Int32 × kx_M)) (hk92 : ∀ (x1 : Int32) (x2 : Int32) (x3 : Int32) (x4 : Int32) (x6 : Int32) (x7 : Int32) (x8 : Int32) (M : kx_M), k92 x1 x2 x3 x4 x6 x7 x8 M = some (r, M') → kx_Rn EM T_X5_fits (d + 6) (92, [some (.ref 0), some (.int x1), some (.int x2), some (.int x3), some (.int x4), none, some (.int x6), some (.int x7), some (.int x8)], [], M) (some (.int r)) M') (x1 : Int32) (x2 : Int32) (x3 : Int32) (x4 : Int32) (x6 : Int32) (x7 : Int32) (x8 : Int32) (s0 : Int32) (s1 : Int32) (M : kx_M) (h : f_X5_fits_105 k92 x1 x2 x3 x4 x6 x7 x8 s0 s1 M = some (r, M')) : kx_Rn EM T_X5_fits (d + 6) (105, [some (.ref 0), some (.int x1), some (.int x2), some (.int x3), some (.int x4), none, some (.int x6), some (.int x7), some (.int x8)], [.int s0, .int s1], M) (some (.int r)) M' := by
  unfold f_X5_fits_105 at h
  refine kx_r_icmp_gt rfl (fun hc1 => ?_) (fun hc1 => ?_)
  · rw [if_pos hc1] at h
    refine kx_go (pc' := 159) (L' := [some (.ref 0), some (.int x1), some (.int x2), some (.int x3), some (.int x4), none, some (.int x6), some (.int x7), some (.int x8)]) (st' := [.int x4]) 1 rfl ?_
    refine kx_r_if_ne rfl (fun hc2 => ?_) (fun hc2 => ?_)
    · rw [if_neg hc2] at h
      refine kx_go (pc' := 174) (L' := [some (.ref 0), some (.int x1), some (.int x2), some (.int x3), some (.int x4), none, some (.int x6), some (.int x7), some (.int x8)]) (st' := [.ref 0]) 1 rfl ?_
      refine kx_q_getR (k := 7) (j := 6) kmo_0 rfl kfl_X5_25 rfl ?_
      refine kx_go (pc' := 180) (L' := [some (.ref 0), some (.int x1), some (.int x2), some (.int x3), some (.int x4), none, some (.int x6), some (.int x7), some (.int x8)]) (st' := [.int x6, .int x3, .ref 6]) 2 rfl ?_
      obtain ⟨hi3, h⟩ := kx_ck_some h
      refine kx_q_iast (kma_6) rfl hi3 ?_
      refine kx_go (pc' := 183) (L' := [some (.ref 0), some (.int x1), some (.int x2), some (.int x3), some (.int x4), none, some (.int x6), some (.int x7), some (.int x8)]) (st' := [.int x7]) 1 rfl ?_
      cases h
      exact kx_r_iret rfl rfl
    · rw [if_pos hc2] at h
      refine kx_go (pc' := 163) (L' := [some (.ref 0), some (.int x1), some (.int x2), some (.int x3), some (.int x4), none, some (.int x6), some (.int x7), some (.int x8)]) (st' := [.ref 0]) 1 rfl ?_
      refine kx_q_getR (k := 5) (j := 4) kmo_0 rfl kfl_X5_19 rfl ?_
      refine kx_go (pc' := 169) (L' := [some (.ref 0), some (.int x1), some (.int x2), some (.int x3), some (.int x4), none, some (.int x6), some (.int x7), some (.int x8)]) (st' := [.int x6, .int x3, .ref 4]) 2 rfl ?_
      obtain ⟨hi4, h⟩ := kx_ck_some h
      refine kx_q_iast (kma_4) rfl hi4 ?_
      refine kx_r_goto rfl ?_
      refine kx_go (pc' := 183) (L' := [some (.ref 0), some (.int x1), some (.int x2), some (.int x3), some (.int x4), none, some (.int x6), some (.int x7), some (.int x8)]) (st' := [.int x7]) 1 rfl ?_
      cases h
      exact kx_r_iret rfl rfl
  · rw [if_neg hc1] at h
    refine kx_go (pc' := 110) (L' := [some (.ref 0), some (.int x1), some (.int x2), some (.int x3), some (.int x4), none, some (.int x6), some (.int x7), some (.int x8)]) (st' := [.int x4]) 1 rfl ?_
    refine kx_r_if_ne rfl (fun hc5 => ?_) (fun hc5 => ?_)
    · rw [if_neg hc5] at h
      refine kx_go (pc' := 125) (L' := [some (.ref 0), some (.int x1), some (.int x2), some (.int x3), some (.int x4), none, some (.int x6), some (.int x7), some (.int x8)]) (st' := [.ref 0]) 1 rfl ?_
      refine kx_q_getR (k := 7) (j := 6) kmo_0 rfl kfl_X5_25 rfl ?_
      refine kx_go (pc' := 131) (L' := [some (.ref 0), some (.int x1), some (.int x2), some (.int x3), some (.int x4), none, some (.int x6), some (.int x7), some (.int x8)]) (st' := [.int x8, .int x3, .ref 6]) 2 rfl ?_
      obtain ⟨hi6, h⟩ := kx_ck_some h
      refine kx_q_iast (kma_6) rfl hi6 ?_
      refine kx_wk [true, true, true, true, true, false, true, true, true] ?_
      exact t_X5_fits_132 k92 hk92 x1 x2 x3 x4 x6 x7 x8 (kx_u1 M 6 (x3).toNatClampNeg x8) h
    · rw [if_pos hc5] at h
      refine kx_go (pc' := 114) (L' := [some (.ref 0), some (.int x1), some (.int x2), some (.int x3), some (.int x4), none, some (.int x6), some (.int x7), some (.int x8)]) (st' := [.ref 0]) 1 rfl ?_
      refine kx_q_getR (k := 5) (j := 4) kmo_0 rfl kfl_X5_19 rfl ?_
      refine kx_go (pc' := 120) (L' := [some (.ref 0), some (.int x1), some (.int x2), some (.int x3), some (.int x4), none, some (.int x6), some (.int x7), some (.int x8)]) (st' := [.int x8, .int x3, .ref 4]) 2 rfl ?_
      obtain ⟨hi7, h⟩ := kx_ck_some h
      refine kx_q_iast (kma_4) rfl hi7 ?_
      refine kx_r_goto rfl ?_
      refine kx_wk [true, true, true, true, true, false, true, true, true] ?_
      exact t_X5_fits_132 k92 hk92 x1 x2 x3 x4 x6 x7 x8 (kx_u1 M 4 (x3).toNatClampNeg x8) h
set_option maxRecDepth 100000 in
set_option maxHeartbeats 4000000 in
theorem t_X5_fits_92 {d : Nat} {r : Int32} {M' : kx_M} : ∀ (n : Nat) (x1 : Int32) (x2 : Int32) (x3 : Int32) (x4 : Int32) (x6 : Int32) (x7 : Int32) (x8 : Int32) (M : kx_M), f_X5_fits_92 n x1 x2 x3 x4 x6 x7 x8 M = some (r, M') → kx_Rn EM T_X5_fits (d + 6) (92, [some (.ref 0), some (.int x1), some (.int x2), some (.int x3), some (.int x4), none, some (.int x6), some (.int x7), some (.int x8)], [], M) (some (.int r)) M' := by
  intro n
  induction n with
  | zero =>
    intro x1 x2 x3 x4 x6 x7 x8 M h
    cases (show (none : Option (Int32 × kx_M)) = some _ from h)
  | succ n ih =>
    intro x1 x2 x3 x4 x6 x7 x8 M h
    rw [f_X5_fits_92.eq_2] at h
    refine kx_go (pc' := 96) (L' := [some (.ref 0), some (.int x1), some (.int x2), some (.int x3), some (.int x4), none, some (.int x6), some (.int x7), some (.int x8)]) (st' := [.int x4, .int x8]) 2 rfl ?_
    refine kx_r_if_ne rfl (fun hc1 => ?_) (fun hc1 => ?_)
    · rw [if_neg hc1] at h
      refine kx_go (pc' := 105) (L' := [some (.ref 0), some (.int x1), some (.int x2), some (.int x3), some (.int x4), none, some (.int x6), some (.int x7), some (.int x8)]) (st' := [.int (20 : Int32), .int x8]) 1 rfl ?_
      refine kx_wk [true, true, true, true, true, false, true, true, true] ?_
      exact t_X5_fits_105 (f_X5_fits_92 n) ih x1 x2 x3 x4 x6 x7 x8 (20 : Int32) x8 M h
    · rw [if_pos hc1] at h
      refine kx_go (pc' := 100) (L' := [some (.ref 0), some (.int x1), some (.int x2), some (.int x3), some (.int x4), none, some (.int x6), some (.int x7), some (.int x8)]) (st' := [.int (5 : Int32), .int x8]) 1 rfl ?_
      refine kx_r_goto rfl ?_
      refine kx_wk [true, true, true, true, true, false, true, true, true] ?_
      exact t_X5_fits_105 (f_X5_fits_92 n) ih x1 x2 x3 x4 x6 x7 x8 (5 : Int32) x8 M h
set_option maxRecDepth 100000 in
set_option maxHeartbeats 4000000 in
theorem t_X5_fits {d : Nat} {r : Int32} {M' : kx_M} (a0 : Int32) (a1 : Int32) (a2 : Int32) (a3 : Int32) (M : kx_M) (h : f_X5_fits a0 a1 a2 a3 M = some (r, M')) : kx_Rn EM T_X5_fits (d + 6) (0, [some (.ref 0), some (.int a0), some (.int a1), some (.int a2), some (.int a3), none, none, none, none], [], M) (some (.int r)) M' := by
  unfold f_X5_fits at h
  refine kx_go (pc' := 1) (L' := [some (.ref 0), some (.int a0), some (.int a1), some (.int a2), some (.int a3), none, none, none, none]) (st' := [.int a0]) 1 rfl ?_
  refine kx_r_callS (as := [.int a0]) (rest := []) (M1 := M) (rv := some (.int (kx_bi (f_X5_isShelf a0)))) rfl klk_X5_85 kst_X5_isShelf rfl rfl (Nat.le_of_ble_eq_true rfl) (Nat.le_of_ble_eq_true rfl) (c_X5_isShelf (d := d + 4) a0 M (f_X5_isShelf a0) rfl) ?_
  show kx_Rn _ _ _ (4, [some (.ref 0), some (.int a0), some (.int a1), some (.int a2), some (.int a3), none, none, none, none], [.int (kx_bi (f_X5_isShelf a0))], M) _ _
  refine kx_q_zeq rfl (fun hc1 => ?_) (fun hc1 => ?_)
  · rw [if_neg hc1] at h
    refine kx_go (pc' := 38) (L' := [some (.ref 0), some (.int a0), some (.int a1), some (.int a2), some (.int a3), none, none, none, none]) (st' := [.int (-2 : Int32), .ref 0]) 2 rfl ?_
    obtain ⟨v2, M4, hv3, h⟩ := kx_bd_some h
    refine kx_q_callV (as := [.int (-2 : Int32)]) (rest := []) (M1 := M4) (rv := some (.int v2)) kmo_0 rfl klk_X5_89 kse_X5_no rfl rfl rfl rfl (Nat.le_of_ble_eq_true rfl) (Nat.le_of_ble_eq_true rfl) (c_X5_no (d := d + 5) (-2 : Int32) M v2 M4 hv3) ?_
    show kx_Rn _ _ _ (41, [some (.ref 0), some (.int a0), some (.int a1), some (.int a2), some (.int a3), none, none, none, none], [.int v2], M4) _ _
    cases h
    exact kx_r_iret rfl rfl
  · rw [if_pos hc1] at h
    refine kx_go (pc' := 11) (L' := [some (.ref 0), some (.int a0), some (.int a1), some (.int a2), some (.int a3), none, none, none, none]) (st' := [.int (20 : Int32), .int (0 : Int32), .int a1]) 3 rfl ?_
    refine kx_r_callS (as := [.int a1, .int (0 : Int32), .int (20 : Int32)]) (rest := []) (M1 := M) (rv := some (.int (kx_bi (f_X5_within a1 (0 : Int32) (20 : Int32))))) rfl klk_X5_78 kst_X5_within rfl rfl (Nat.le_of_ble_eq_true rfl) (Nat.le_of_ble_eq_true rfl) (c_X5_within (d := d + 5) a1 (0 : Int32) (20 : Int32) M (f_X5_within a1 (0 : Int32) (20 : Int32)) rfl) ?_
    show kx_Rn _ _ _ (14, [some (.ref 0), some (.int a0), some (.int a1), some (.int a2), some (.int a3), none, none, none, none], [.int (kx_bi (f_X5_within a1 (0 : Int32) (20 : Int32)))], M) _ _
    refine kx_q_zeq rfl (fun hc5 => ?_) (fun hc5 => ?_)
    · rw [if_neg hc5] at h
      refine kx_go (pc' := 38) (L' := [some (.ref 0), some (.int a0), some (.int a1), some (.int a2), some (.int a3), none, none, none, none]) (st' := [.int (-2 : Int32), .ref 0]) 2 rfl ?_
      obtain ⟨v6, M8, hv7, h⟩ := kx_bd_some h
      refine kx_q_callV (as := [.int (-2 : Int32)]) (rest := []) (M1 := M8) (rv := some (.int v6)) kmo_0 rfl klk_X5_89 kse_X5_no rfl rfl rfl rfl (Nat.le_of_ble_eq_true rfl) (Nat.le_of_ble_eq_true rfl) (c_X5_no (d := d + 5) (-2 : Int32) M v6 M8 hv7) ?_
      show kx_Rn _ _ _ (41, [some (.ref 0), some (.int a0), some (.int a1), some (.int a2), some (.int a3), none, none, none, none], [.int v6], M8) _ _
      cases h
      exact kx_r_iret rfl rfl
    · rw [if_pos hc5] at h
      refine kx_go (pc' := 19) (L' := [some (.ref 0), some (.int a0), some (.int a1), some (.int a2), some (.int a3), none, none, none, none]) (st' := [.int a2, .ref 0]) 2 rfl ?_
      refine kx_q_callV (as := [.int a2]) (rest := []) (M1 := M) (rv := some (.int (kx_bi (f_X5_isOne M a2)))) kmo_0 rfl klk_X5_103 kse_X5_isOne rfl rfl rfl rfl (Nat.le_of_ble_eq_true rfl) (Nat.le_of_ble_eq_true rfl) (c_X5_isOne (d := d + 4) a2 M (f_X5_isOne M a2) rfl) ?_
      show kx_Rn _ _ _ (22, [some (.ref 0), some (.int a0), some (.int a1), some (.int a2), some (.int a3), none, none, none, none], [.int (kx_bi (f_X5_isOne M a2))], M) _ _
      refine kx_q_zeq rfl (fun hc9 => ?_) (fun hc9 => ?_)
      · rw [if_neg hc9] at h
        refine kx_go (pc' := 38) (L' := [some (.ref 0), some (.int a0), some (.int a1), some (.int a2), some (.int a3), none, none, none, none]) (st' := [.int (-2 : Int32), .ref 0]) 2 rfl ?_
        obtain ⟨v10, M12, hv11, h⟩ := kx_bd_some h
        refine kx_q_callV (as := [.int (-2 : Int32)]) (rest := []) (M1 := M12) (rv := some (.int v10)) kmo_0 rfl klk_X5_89 kse_X5_no rfl rfl rfl rfl (Nat.le_of_ble_eq_true rfl) (Nat.le_of_ble_eq_true rfl) (c_X5_no (d := d + 5) (-2 : Int32) M v10 M12 hv11) ?_
        show kx_Rn _ _ _ (41, [some (.ref 0), some (.int a0), some (.int a1), some (.int a2), some (.int a3), none, none, none, none], [.int v10], M12) _ _
        cases h
        exact kx_r_iret rfl rfl
      · rw [if_pos hc9] at h
        refine kx_go (pc' := 29) (L' := [some (.ref 0), some (.int a0), some (.int a1), some (.int a2), some (.int a3), none, none, none, none]) (st' := [.int (1 : Int32), .int (0 : Int32), .int a3]) 3 rfl ?_
        refine kx_r_callS (as := [.int a3, .int (0 : Int32), .int (1 : Int32)]) (rest := []) (M1 := M) (rv := some (.int (kx_bi (f_X5_within a3 (0 : Int32) (1 : Int32))))) rfl klk_X5_78 kst_X5_within rfl rfl (Nat.le_of_ble_eq_true rfl) (Nat.le_of_ble_eq_true rfl) (c_X5_within (d := d + 5) a3 (0 : Int32) (1 : Int32) M (f_X5_within a3 (0 : Int32) (1 : Int32)) rfl) ?_
        show kx_Rn _ _ _ (32, [some (.ref 0), some (.int a0), some (.int a1), some (.int a2), some (.int a3), none, none, none, none], [.int (kx_bi (f_X5_within a3 (0 : Int32) (1 : Int32)))], M) _ _
        refine kx_q_zne rfl (fun hc13 => ?_) (fun hc13 => ?_)
        · rw [if_pos hc13] at h
          refine kx_go (pc' := 47) (L' := [some (.ref 0), some (.int a0), some (.int a1), some (.int a2), some (.int a3), none, none, none, none]) (st' := [.int (20 : Int32), .int a1, .int a0, .ref 0]) 4 rfl ?_
          obtain ⟨v14, hv15, h⟩ := kx_bn_some h
          refine kx_q_callV (as := [.int a0, .int a1, .int (20 : Int32)]) (rest := []) (M1 := M) (rv := some (.int v14)) kmo_0 rfl klk_X5_263 kse_X5_noTwos rfl rfl rfl rfl (Nat.le_of_ble_eq_true rfl) (Nat.le_of_ble_eq_true rfl) (c_X5_noTwos (d := d + 2) a0 a1 (20 : Int32) M v14 hv15) ?_
          show kx_Rn _ _ _ (50, [some (.ref 0), some (.int a0), some (.int a1), some (.int a2), some (.int a3), none, none, none, none], [.int v14], M) _ _
          refine kx_go (pc' := 54) (L' := [some (.ref 0), some (.int a0), some (.int a1), some (.int a2), some (.int a3), some (.int v14), none, none, none]) (st' := [.int v14]) 2 rfl ?_
          refine kx_r_if_ge rfl (fun hc16 => ?_) (fun hc16 => ?_)
          · rw [if_pos hc16] at h
            refine kx_go (pc' := 66) (L' := [some (.ref 0), some (.int a0), some (.int a1), some (.int a2), some (.int a3), some (.int v14), none, none, none]) (st' := [.int a3]) 1 rfl ?_
            refine kx_r_if_ne rfl (fun hc17 => ?_) (fun hc17 => ?_)
            · rw [if_neg hc17] at h
              refine kx_go (pc' := 79) (L' := [some (.ref 0), some (.int a0), some (.int a1), some (.int a2), some (.int a3), some (.int v14), none, none, none]) (st' := [.ref 0]) 1 rfl ?_
              refine kx_q_getR (k := 7) (j := 6) kmo_0 rfl kfl_X5_25 rfl ?_
              refine kx_go (pc' := 83) (L' := [some (.ref 0), some (.int a0), some (.int a1), some (.int a2), some (.int a3), some (.int v14), none, none, none]) (st' := [.int a2, .ref 6]) 1 rfl ?_
              obtain ⟨hi18, h⟩ := kx_ck_some h
              refine kx_q_iald (kma_6) rfl hi18 ?_
              refine kx_go (pc' := 92) (L' := [some (.ref 0), some (.int a0), some (.int a1), some (.int a2), some (.int a3), some (.int v14), some (.int (M.1 6 (a2).toNatClampNeg)), some (.int (0 : Int32)), some (.int (0 : Int32))]) (st' := []) 5 rfl ?_
              refine kx_wk [true, true, true, true, true, false, true, true, true] ?_
              exact t_X5_fits_92 kx_fuel a0 a1 a2 a3 (M.1 6 (a2).toNatClampNeg) (0 : Int32) (0 : Int32) M h
            · rw [if_pos hc17] at h
              refine kx_go (pc' := 70) (L' := [some (.ref 0), some (.int a0), some (.int a1), some (.int a2), some (.int a3), some (.int v14), none, none, none]) (st' := [.ref 0]) 1 rfl ?_
              refine kx_q_getR (k := 5) (j := 4) kmo_0 rfl kfl_X5_19 rfl ?_
              refine kx_go (pc' := 74) (L' := [some (.ref 0), some (.int a0), some (.int a1), some (.int a2), some (.int a3), some (.int v14), none, none, none]) (st' := [.int a2, .ref 4]) 1 rfl ?_
              obtain ⟨hi19, h⟩ := kx_ck_some h
              refine kx_q_iald (kma_4) rfl hi19 ?_
              refine kx_r_goto rfl ?_
              refine kx_go (pc' := 92) (L' := [some (.ref 0), some (.int a0), some (.int a1), some (.int a2), some (.int a3), some (.int v14), some (.int (M.1 4 (a2).toNatClampNeg)), some (.int (0 : Int32)), some (.int (0 : Int32))]) (st' := []) 5 rfl ?_
              refine kx_wk [true, true, true, true, true, false, true, true, true] ?_
              exact t_X5_fits_92 kx_fuel a0 a1 a2 a3 (M.1 4 (a2).toNatClampNeg) (0 : Int32) (0 : Int32) M h
          · rw [if_neg hc16] at h
            refine kx_go (pc' := 60) (L' := [some (.ref 0), some (.int a0), some (.int a1), some (.int a2), some (.int a3), some (.int v14), none, none, none]) (st' := [.int v14, .ref 0]) 2 rfl ?_
            obtain ⟨v20, M22, hv21, h⟩ := kx_bd_some h
            refine kx_q_callV (as := [.int v14]) (rest := []) (M1 := M22) (rv := some (.int v20)) kmo_0 rfl klk_X5_89 kse_X5_no rfl rfl rfl rfl (Nat.le_of_ble_eq_true rfl) (Nat.le_of_ble_eq_true rfl) (c_X5_no (d := d + 5) v14 M v20 M22 hv21) ?_
            show kx_Rn _ _ _ (63, [some (.ref 0), some (.int a0), some (.int a1), some (.int a2), some (.int a3), some (.int v14), none, none, none], [.int v20], M22) _ _
            cases h
            exact kx_r_iret rfl rfl
        · rw [if_neg hc13] at h
          refine kx_go (pc' := 38) (L' := [some (.ref 0), some (.int a0), some (.int a1), some (.int a2), some (.int a3), none, none, none, none]) (st' := [.int (-2 : Int32), .ref 0]) 2 rfl ?_
          obtain ⟨v23, M25, hv24, h⟩ := kx_bd_some h
          refine kx_q_callV (as := [.int (-2 : Int32)]) (rest := []) (M1 := M25) (rv := some (.int v23)) kmo_0 rfl klk_X5_89 kse_X5_no rfl rfl rfl rfl (Nat.le_of_ble_eq_true rfl) (Nat.le_of_ble_eq_true rfl) (c_X5_no (d := d + 5) (-2 : Int32) M v23 M25 hv24) ?_
          show kx_Rn _ _ _ (41, [some (.ref 0), some (.int a0), some (.int a1), some (.int a2), some (.int a3), none, none, none, none], [.int v23], M25) _ _
          cases h
          exact kx_r_iret rfl rfl
theorem c_X5_fits {d : Nat} (a0 : Int32) (a1 : Int32) (a2 : Int32) (a3 : Int32) (M : kx_M) (r : Int32) (M' : kx_M) (h : f_X5_fits a0 a1 a2 a3 M = some (r, M')) : kx_Call EM (d + 6) T_X5_fits [.ref 0, .int a0, .int a1, .int a2, .int a3] M (some (.int r)) M' := kx_entry kok_X5_fits (Nat.le_of_ble_eq_true rfl) rfl (t_X5_fits (d := d) a0 a1 a2 a3 M h)
set_option maxRecDepth 100000 in
set_option maxHeartbeats 4000000 in
theorem t_X5_knowAll_2 {d : Nat} {r : Bool} (M : kx_M) : ∀ (n : Nat) (x1 : Int32) (x2 : Int32), f_X5_knowAll_2 M n x1 x2 = some r → kx_Rn EM T_X5_knowAll (d + 2) (2, [some (.ref 0), some (.int x1), some (.int x2)], [], M) (some (.int (kx_bi r))) M := by
  intro n
  induction n with
  | zero =>
    intro x1 x2 h
    cases (show (none : Option Bool) = some _ from h)
  | succ n ih =>
    intro x1 x2 h
    rw [f_X5_knowAll_2.eq_2] at h
    refine kx_go (pc' := 5) (L' := [some (.ref 0), some (.int x1), some (.int x2)]) (st' := [.ref 0, .int (1 : Int32), .int x2]) 3 rfl ?_
    refine kx_q_getI (k := 4) kmo_0 rfl kfl_X5_82 rfl ?_
    refine kx_go (pc' := 9) (L' := [some (.ref 0), some (.int x1), some (.int x2)]) (st' := [.int ((1 : Int32) <<< ((M.1 0 4) &&& 31)), .int x2]) 1 rfl ?_
    refine kx_r_icmp_ge rfl (fun hc1 => ?_) (fun hc1 => ?_)
    · rw [if_pos hc1] at h
      refine kx_go (pc' := 54) (L' := [some (.ref 0), some (.int x1), some (.int x2)]) (st' := [.int (1 : Int32)]) 1 rfl ?_
      cases h
      exact kx_r_zret rfl rfl (Or.inr rfl)
    · rw [if_neg hc1] at h
      refine kx_go (pc' := 13) (L' := [some (.ref 0), some (.int x1), some (.int x2)]) (st' := [.int x2]) 1 rfl ?_
      refine kx_r_callS (as := [.int x2]) (rest := []) (M1 := M) (rv := some (.int (f_J6_bitCount_0f7a4 x2))) rfl klk_X5_194 kst_J6_bitCount_0f7a4 rfl rfl (Nat.le_of_ble_eq_true rfl) (Nat.le_of_ble_eq_true rfl) (c_J6_bitCount_0f7a4 (d := d + 1) x2 M (f_J6_bitCount_0f7a4 x2) rfl) ?_
      show kx_Rn _ _ _ (16, [some (.ref 0), some (.int x1), some (.int x2)], [.int (f_J6_bitCount_0f7a4 x2)], M) _ _
      refine kx_go (pc' := 17) (L' := [some (.ref 0), some (.int x1), some (.int x2)]) (st' := [.int x1, .int (f_J6_bitCount_0f7a4 x2)]) 1 rfl ?_
      refine kx_r_icmp_ne rfl (fun hc2 => ?_) (fun hc2 => ?_)
      · rw [if_neg hc2] at h
        refine kx_go (pc' := 50) (L' := [some (.ref 0), some (.int x1), some (.int (x2 + (1)))]) (st' := []) 1 rfl ?_
        refine kx_r_goto rfl ?_
        refine kx_wk [true, true, true] ?_
        exact ih x1 (x2 + (1)) h
      · rw [if_pos hc2] at h
        refine kx_go (pc' := 22) (L' := [some (.ref 0), some (.int x1), some (.int x2)]) (st' := [.int x2, .ref 0]) 2 rfl ?_
        obtain ⟨v3, hv4, h⟩ := kx_bn_some h
        refine kx_q_callV (as := [.int x2]) (rest := []) (M1 := M) (rv := some (.int v3)) kmo_0 rfl klk_X5_224 kse_X5_knownBy rfl rfl rfl rfl (Nat.le_of_ble_eq_true rfl) (Nat.le_of_ble_eq_true rfl) (c_X5_knownBy (d := d + 0) x2 M v3 hv4) ?_
        show kx_Rn _ _ _ (25, [some (.ref 0), some (.int x1), some (.int x2)], [.int v3], M) _ _
        refine kx_go (pc' := 27) (L' := [some (.ref 0), some (.int x1), some (.int x2)]) (st' := [.ref 0, .int (1 : Int32), .int v3]) 2 rfl ?_
        refine kx_q_getI (k := 0) kmo_0 rfl kfl_X5_65 rfl ?_
        refine kx_go (pc' := 36) (L' := [some (.ref 0), some (.int x1), some (.int x2)]) (st' := [.ref 0, .int (1 : Int32), .int (v3 &&& (((1 : Int32) <<< ((M.1 0 0) &&& 31)) - (1 : Int32)))]) 6 rfl ?_
        refine kx_q_getI (k := 0) kmo_0 rfl kfl_X5_65 rfl ?_
        refine kx_go (pc' := 42) (L' := [some (.ref 0), some (.int x1), some (.int x2)]) (st' := [.int (((1 : Int32) <<< ((M.1 0 0) &&& 31)) - (1 : Int32)), .int (v3 &&& (((1 : Int32) <<< ((M.1 0 0) &&& 31)) - (1 : Int32)))]) 3 rfl ?_
        refine kx_r_icmp_eq rfl (fun hc5 => ?_) (fun hc5 => ?_)
        · rw [if_pos hc5] at h
          refine kx_go (pc' := 50) (L' := [some (.ref 0), some (.int x1), some (.int (x2 + (1)))]) (st' := []) 1 rfl ?_
          refine kx_r_goto rfl ?_
          refine kx_wk [true, true, true] ?_
          exact ih x1 (x2 + (1)) h
        · rw [if_neg hc5] at h
          refine kx_go (pc' := 46) (L' := [some (.ref 0), some (.int x1), some (.int x2)]) (st' := [.int (0 : Int32)]) 1 rfl ?_
          cases h
          exact kx_r_zret rfl rfl (Or.inl rfl)
set_option maxRecDepth 100000 in
set_option maxHeartbeats 4000000 in
theorem t_X5_knowAll {d : Nat} {r : Bool} (M : kx_M) (a0 : Int32) (h : f_X5_knowAll M a0 = some r) : kx_Rn EM T_X5_knowAll (d + 2) (0, [some (.ref 0), some (.int a0), none], [], M) (some (.int (kx_bi r))) M := by
  unfold f_X5_knowAll at h
  refine kx_go (pc' := 2) (L' := [some (.ref 0), some (.int a0), some (.int (0 : Int32))]) (st' := []) 2 rfl ?_
  refine kx_wk [true, true, true] ?_
  exact t_X5_knowAll_2 M kx_fuel a0 (0 : Int32) h
theorem c_X5_knowAll {d : Nat} (a0 : Int32) (M : kx_M) (r : Bool) (h : f_X5_knowAll M a0 = some r) : kx_Call EM (d + 2) T_X5_knowAll [.ref 0, .int a0] M (some (.int (kx_bi r))) M := kx_entry kok_X5_knowAll (Nat.le_of_ble_eq_true rfl) rfl (t_X5_knowAll (d := d) M a0 h)
set_option maxRecDepth 100000 in
set_option maxHeartbeats 4000000 in
theorem t_X5_together_2 {d : Nat} {r : Int32} (M : kx_M) : ∀ (n : Nat) (x1 : Int32), f_X5_together_2 M n x1 = some r → kx_Rn EM T_X5_together (d + 3) (2, [some (.ref 0), some (.int x1)], [], M) (some (.int r)) M := by
  intro n
  induction n with
  | zero =>
    intro x1 h
    cases (show (none : Option Int32) = some _ from h)
  | succ n ih =>
    intro x1 h
    rw [f_X5_together_2.eq_2] at h
    refine kx_go (pc' := 4) (L' := [some (.ref 0), some (.int x1)]) (st' := [.ref 0, .int x1]) 2 rfl ?_
    refine kx_q_getI (k := 4) kmo_0 rfl kfl_X5_82 rfl ?_
    refine kx_r_icmp_gt rfl (fun hc1 => ?_) (fun hc1 => ?_)
    · rw [if_pos hc1] at h
      refine kx_go (pc' := 27) (L' := [some (.ref 0), some (.int x1)]) (st' := [.int (-1 : Int32)]) 1 rfl ?_
      cases h
      exact kx_r_iret rfl rfl
    · rw [if_neg hc1] at h
      refine kx_go (pc' := 12) (L' := [some (.ref 0), some (.int x1)]) (st' := [.int x1, .ref 0]) 2 rfl ?_
      obtain ⟨v2, hv3, h⟩ := kx_bn_some h
      refine kx_q_callV (as := [.int x1]) (rest := []) (M1 := M) (rv := some (.int (kx_bi v2))) kmo_0 rfl klk_X5_272 kse_X5_knowAll rfl rfl rfl rfl (Nat.le_of_ble_eq_true rfl) (Nat.le_of_ble_eq_true rfl) (c_X5_knowAll (d := d + 0) x1 M v2 hv3) ?_
      show kx_Rn _ _ _ (15, [some (.ref 0), some (.int x1)], [.int (kx_bi v2)], M) _ _
      refine kx_q_zeq rfl (fun hc4 => ?_) (fun hc4 => ?_)
      · rw [if_neg hc4] at h
        refine kx_go (pc' := 23) (L' := [some (.ref 0), some (.int (x1 + (1)))]) (st' := []) 1 rfl ?_
        refine kx_r_goto rfl ?_
        refine kx_wk [true, true] ?_
        exact ih (x1 + (1)) h
      · rw [if_pos hc4] at h
        refine kx_go (pc' := 19) (L' := [some (.ref 0), some (.int x1)]) (st' := [.int x1]) 1 rfl ?_
        cases h
        exact kx_r_iret rfl rfl
set_option maxRecDepth 100000 in
set_option maxHeartbeats 4000000 in
theorem t_X5_together {d : Nat} {r : Int32} (M : kx_M) (h : f_X5_together M = some r) : kx_Rn EM T_X5_together (d + 3) (0, [some (.ref 0), none], [], M) (some (.int r)) M := by
  unfold f_X5_together at h
  refine kx_go (pc' := 2) (L' := [some (.ref 0), some (.int (0 : Int32))]) (st' := []) 2 rfl ?_
  refine kx_wk [true, true] ?_
  exact t_X5_together_2 M kx_fuel (0 : Int32) h
theorem c_X5_together {d : Nat} (M : kx_M) (r : Int32) (h : f_X5_together M = some r) : kx_Call EM (d + 3) T_X5_together [.ref 0] M (some (.int r)) M := kx_entry kok_X5_together (Nat.le_of_ble_eq_true rfl) rfl (t_X5_together (d := d) M h)
set_option maxRecDepth 100000 in
set_option maxHeartbeats 4000000 in
theorem t_X5_needed_4 {d : Nat} {r : Int32} (M : kx_M) : ∀ (n : Nat) (x1 : Int32) (x2 : Int32), f_X5_needed_4 M n x1 x2 = some r → kx_Rn EM T_X5_needed (d + 2) (4, [some (.ref 0), some (.int x1), some (.int x2)], [], M) (some (.int r)) M := by
  intro n
  induction n with
  | zero =>
    intro x1 x2 h
    cases (show (none : Option Int32) = some _ from h)
  | succ n ih =>
    intro x1 x2 h
    rw [f_X5_needed_4.eq_2] at h
    refine kx_go (pc' := 6) (L' := [some (.ref 0), some (.int x1), some (.int x2)]) (st' := [.ref 0, .int x2]) 2 rfl ?_
    refine kx_q_getI (k := 4) kmo_0 rfl kfl_X5_82 rfl ?_
    refine kx_r_icmp_ge rfl (fun hc1 => ?_) (fun hc1 => ?_)
    · rw [if_pos hc1] at h
      refine kx_go (pc' := 50) (L' := [some (.ref 0), some (.int x1), some (.int x2)]) (st' := [.int x1]) 1 rfl ?_
      cases h
      exact kx_r_iret rfl rfl
    · rw [if_neg hc1] at h
      refine kx_go (pc' := 14) (L' := [some (.ref 0), some (.int x1), some (.int x2)]) (st' := [.ref 0, .ref 0]) 2 rfl ?_
      refine kx_q_callV (as := []) (rest := [.ref 0]) (M1 := M) (rv := some (.int (f_X5_all M))) kmo_0 rfl klk_X5_221 kse_X5_all rfl rfl rfl rfl (Nat.le_of_ble_eq_true rfl) (Nat.le_of_ble_eq_true rfl) (c_X5_all (d := d + 1) M (f_X5_all M) rfl) ?_
      show kx_Rn _ _ _ (17, [some (.ref 0), some (.int x1), some (.int x2)], [.int (f_X5_all M), .ref 0], M) _ _
      refine kx_go (pc' := 23) (L' := [some (.ref 0), some (.int x1), some (.int x2)]) (st' := [.int ((f_X5_all M) &&& (((1 : Int32) <<< (x2 &&& 31)) ^^^ (-1 : Int32))), .ref 0]) 6 rfl ?_
      obtain ⟨v2, hv3, h⟩ := kx_bn_some h
      refine kx_q_callV (as := [.int ((f_X5_all M) &&& (((1 : Int32) <<< (x2 &&& 31)) ^^^ (-1 : Int32)))]) (rest := []) (M1 := M) (rv := some (.int v2)) kmo_0 rfl klk_X5_224 kse_X5_knownBy rfl rfl rfl rfl (Nat.le_of_ble_eq_true rfl) (Nat.le_of_ble_eq_true rfl) (c_X5_knownBy (d := d + 0) ((f_X5_all M) &&& (((1 : Int32) <<< (x2 &&& 31)) ^^^ (-1 : Int32))) M v2 hv3) ?_
      show kx_Rn _ _ _ (26, [some (.ref 0), some (.int x1), some (.int x2)], [.int v2], M) _ _
      refine kx_go (pc' := 28) (L' := [some (.ref 0), some (.int x1), some (.int x2)]) (st' := [.ref 0, .ref 0, .int v2]) 2 rfl ?_
      refine kx_q_callV (as := []) (rest := [.ref 0, .int v2]) (M1 := M) (rv := some (.int (f_X5_all M))) kmo_0 rfl klk_X5_221 kse_X5_all rfl rfl rfl rfl (Nat.le_of_ble_eq_true rfl) (Nat.le_of_ble_eq_true rfl) (c_X5_all (d := d + 1) M (f_X5_all M) rfl) ?_
      show kx_Rn _ _ _ (31, [some (.ref 0), some (.int x1), some (.int x2)], [.int (f_X5_all M), .ref 0, .int v2], M) _ _
      obtain ⟨v4, hv5, h⟩ := kx_bn_some h
      refine kx_q_callV (as := [.int (f_X5_all M)]) (rest := [.int v2]) (M1 := M) (rv := some (.int v4)) kmo_0 rfl klk_X5_224 kse_X5_knownBy rfl rfl rfl rfl (Nat.le_of_ble_eq_true rfl) (Nat.le_of_ble_eq_true rfl) (c_X5_knownBy (d := d + 0) (f_X5_all M) M v4 hv5) ?_
      show kx_Rn _ _ _ (34, [some (.ref 0), some (.int x1), some (.int x2)], [.int v4, .int v2], M) _ _
      refine kx_r_icmp_eq rfl (fun hc6 => ?_) (fun hc6 => ?_)
      · rw [if_pos hc6] at h
        refine kx_go (pc' := 46) (L' := [some (.ref 0), some (.int x1), some (.int (x2 + (1)))]) (st' := []) 1 rfl ?_
        refine kx_r_goto rfl ?_
        refine kx_wk [true, true, true] ?_
        exact ih x1 (x2 + (1)) h
      · rw [if_neg hc6] at h
        refine kx_go (pc' := 46) (L' := [some (.ref 0), some (.int (x1 ||| ((1 : Int32) <<< (x2 &&& 31)))), some (.int (x2 + (1)))]) (st' := []) 7 rfl ?_
        refine kx_r_goto rfl ?_
        refine kx_wk [true, true, true] ?_
        exact ih (x1 ||| ((1 : Int32) <<< (x2 &&& 31))) (x2 + (1)) h
set_option maxRecDepth 100000 in
set_option maxHeartbeats 4000000 in
theorem t_X5_needed {d : Nat} {r : Int32} (M : kx_M) (h : f_X5_needed M = some r) : kx_Rn EM T_X5_needed (d + 2) (0, [some (.ref 0), none, none], [], M) (some (.int r)) M := by
  unfold f_X5_needed at h
  refine kx_go (pc' := 4) (L' := [some (.ref 0), some (.int (0 : Int32)), some (.int (0 : Int32))]) (st' := []) 4 rfl ?_
  refine kx_wk [true, true, true] ?_
  exact t_X5_needed_4 M kx_fuel (0 : Int32) (0 : Int32) h
theorem c_X5_needed {d : Nat} (M : kx_M) (r : Int32) (h : f_X5_needed M = some r) : kx_Call EM (d + 2) T_X5_needed [.ref 0] M (some (.int r)) M := kx_entry kok_X5_needed (Nat.le_of_ble_eq_true rfl) rfl (t_X5_needed (d := d) M h)
set_option maxRecDepth 100000 in
set_option maxHeartbeats 4000000 in
theorem t_X5_isLaid_3 {d : Nat} {r : Bool} (M : kx_M) : ∀ (n : Nat) (x1 : Int32) (x2 : Int32) (x3 : Int32) (x4 : Int32) (x5 : Int32), f_X5_isLaid_3 M n x1 x2 x3 x4 x5 = some r → kx_Rn EM T_X5_isLaid (d + 1) (3, [some (.ref 0), some (.int x1), some (.int x2), some (.int x3), some (.int x4), some (.int x5)], [], M) (some (.int (kx_bi r))) M := by
  intro n
  induction n with
  | zero =>
    intro x1 x2 x3 x4 x5 h
    cases (show (none : Option Bool) = some _ from h)
  | succ n ih =>
    intro x1 x2 x3 x4 x5 h
    rw [f_X5_isLaid_3.eq_2] at h
    refine kx_go (pc' := 6) (L' := [some (.ref 0), some (.int x1), some (.int x2), some (.int x3), some (.int x4), some (.int x5)]) (st' := [.int x2, .int x5]) 2 rfl ?_
    refine kx_r_icmp_ge rfl (fun hc1 => ?_) (fun hc1 => ?_)
    · rw [if_pos hc1] at h
      refine kx_go (pc' := 57) (L' := [some (.ref 0), some (.int x1), some (.int x2), some (.int x3), some (.int x4), some (.int x5)]) (st' := [.int (1 : Int32)]) 1 rfl ?_
      cases h
      exact kx_r_zret rfl rfl (Or.inr rfl)
    · rw [if_neg hc1] at h
      refine kx_go (pc' := 10) (L' := [some (.ref 0), some (.int x1), some (.int x2), some (.int x3), some (.int x4), some (.int x5)]) (st' := [.ref 0]) 1 rfl ?_
      refine kx_q_getR (k := 8) (j := 7) kmo_0 rfl kfl_X5_28 rfl ?_
      refine kx_go (pc' := 14) (L' := [some (.ref 0), some (.int x1), some (.int x2), some (.int x3), some (.int x4), some (.int x5)]) (st' := [.int x3, .ref 7]) 1 rfl ?_
      obtain ⟨hi2, h⟩ := kx_ck_some h
      refine kx_q_iald (kma_7) rfl hi2 ?_
      refine kx_go (pc' := 20) (L' := [some (.ref 0), some (.int x1), some (.int x2), some (.int x3), some (.int x4), some (.int x5)]) (st' := [.int (x4 + x5), .int (M.1 7 (x3).toNatClampNeg)]) 3 rfl ?_
      refine kx_r_callS (as := [.int (M.1 7 (x3).toNatClampNeg), .int (x4 + x5)]) (rest := []) (M1 := M) (rv := some (.int (kx_bi (f_X5_has (M.1 7 (x3).toNatClampNeg) (x4 + x5))))) rfl klk_X5_199 kst_X5_has rfl rfl (Nat.le_of_ble_eq_true rfl) (Nat.le_of_ble_eq_true rfl) (c_X5_has (d := d + 0) (M.1 7 (x3).toNatClampNeg) (x4 + x5) M (f_X5_has (M.1 7 (x3).toNatClampNeg) (x4 + x5)) rfl) ?_
      show kx_Rn _ _ _ (23, [some (.ref 0), some (.int x1), some (.int x2), some (.int x3), some (.int x4), some (.int x5)], [.int (kx_bi (f_X5_has (M.1 7 (x3).toNatClampNeg) (x4 + x5)))], M) _ _
      refine kx_q_zeq rfl (fun hc3 => ?_) (fun hc3 => ?_)
      · rw [if_neg hc3] at h
        refine kx_go (pc' := 53) (L' := [some (.ref 0), some (.int x1), some (.int x2), some (.int x3), some (.int x4), some (.int (x5 + (1)))]) (st' := []) 1 rfl ?_
        refine kx_r_goto rfl ?_
        refine kx_wk [true, true, true, true, true, true] ?_
        exact ih x1 x2 x3 x4 (x5 + (1)) h
      · rw [if_pos hc3] at h
        refine kx_go (pc' := 27) (L' := [some (.ref 0), some (.int x1), some (.int x2), some (.int x3), some (.int x4), some (.int x5)]) (st' := [.ref 0]) 1 rfl ?_
        refine kx_q_getR (k := 2) (j := 2) kmo_0 rfl kfl_X5_13 rfl ?_
        refine kx_go (pc' := 35) (L' := [some (.ref 0), some (.int x1), some (.int x2), some (.int x3), some (.int x4), some (.int x5)]) (st' := [.int (x4 + x5), .ref 2]) 3 rfl ?_
        obtain ⟨hi4, h⟩ := kx_ck_some h
        refine kx_q_iald (kma_2) rfl hi4 ?_
        refine kx_go (pc' := 41) (L' := [some (.ref 0), some (.int x1), some (.int x2), some (.int x3), some (.int x4), some (.int x5)]) (st' := [.int x5, .int x1, .ref 0, .long ((M.1 2 ((x4 + x5)).toNatClampNeg)).toInt64]) 4 rfl ?_
        obtain ⟨v5, hv6, h⟩ := kx_bn_some h
        refine kx_q_callV (as := [.int x1, .int x5]) (rest := [.long ((M.1 2 ((x4 + x5)).toNatClampNeg)).toInt64]) (M1 := M) (rv := some (.long v5)) kmo_0 rfl klk_X5_259 kse_X5_toldAt rfl rfl rfl rfl (Nat.le_of_ble_eq_true rfl) (Nat.le_of_ble_eq_true rfl) (c_X5_toldAt (d := d + 0) x1 x5 M v5 hv6) ?_
        show kx_Rn _ _ _ (44, [some (.ref 0), some (.int x1), some (.int x2), some (.int x3), some (.int x4), some (.int x5)], [.long v5, .long ((M.1 2 ((x4 + x5)).toNatClampNeg)).toInt64], M) _ _
        refine kx_go (pc' := 45) (L' := [some (.ref 0), some (.int x1), some (.int x2), some (.int x3), some (.int x4), some (.int x5)]) (st' := [.int (lg_cmp ((M.1 2 ((x4 + x5)).toNatClampNeg)).toInt64 v5)]) 1 rfl ?_
        refine kx_r_if_eq rfl (fun hc7 => ?_) (fun hc7 => ?_)
        · rw [if_pos hc7] at h
          refine kx_go (pc' := 53) (L' := [some (.ref 0), some (.int x1), some (.int x2), some (.int x3), some (.int x4), some (.int (x5 + (1)))]) (st' := []) 1 rfl ?_
          refine kx_r_goto rfl ?_
          refine kx_wk [true, true, true, true, true, true] ?_
          exact ih x1 x2 x3 x4 (x5 + (1)) h
        · rw [if_neg hc7] at h
          refine kx_go (pc' := 49) (L' := [some (.ref 0), some (.int x1), some (.int x2), some (.int x3), some (.int x4), some (.int x5)]) (st' := [.int (0 : Int32)]) 1 rfl ?_
          cases h
          exact kx_r_zret rfl rfl (Or.inl rfl)
set_option maxRecDepth 100000 in
set_option maxHeartbeats 4000000 in
theorem t_X5_isLaid {d : Nat} {r : Bool} (M : kx_M) (a0 : Int32) (a1 : Int32) (a2 : Int32) (a3 : Int32) (h : f_X5_isLaid M a0 a1 a2 a3 = some r) : kx_Rn EM T_X5_isLaid (d + 1) (0, [some (.ref 0), some (.int a0), some (.int a1), some (.int a2), some (.int a3), none], [], M) (some (.int (kx_bi r))) M := by
  unfold f_X5_isLaid at h
  refine kx_go (pc' := 3) (L' := [some (.ref 0), some (.int a0), some (.int a1), some (.int a2), some (.int a3), some (.int (0 : Int32))]) (st' := []) 2 rfl ?_
  refine kx_wk [true, true, true, true, true, true] ?_
  exact t_X5_isLaid_3 M kx_fuel a0 a1 a2 a3 (0 : Int32) h
theorem c_X5_isLaid {d : Nat} (a0 : Int32) (a1 : Int32) (a2 : Int32) (a3 : Int32) (M : kx_M) (r : Bool) (h : f_X5_isLaid M a0 a1 a2 a3 = some r) : kx_Call EM (d + 1) T_X5_isLaid [.ref 0, .int a0, .int a1, .int a2, .int a3] M (some (.int (kx_bi r))) M := kx_entry kok_X5_isLaid (Nat.le_of_ble_eq_true rfl) rfl (t_X5_isLaid (d := d) M a0 a1 a2 a3 h)
set_option maxRecDepth 100000 in
set_option maxHeartbeats 4000000 in
theorem t_X5_picture_58 {d : Nat} {r : Int32} {M' : kx_M} : ∀ (n : Nat) (x1 : Int32) (x2 : Int32) (x3 : Int32) (x5 : Int32) (x6 : Int32) (M : kx_M), f_X5_picture_58 n x1 x2 x3 x5 x6 M = some (r, M') → kx_Rn EM T_X5_picture (d + 3) (58, [some (.ref 0), some (.int x1), some (.int x2), some (.int x3), none, some (.int x5), some (.int x6)], [], M) (some (.int r)) M' := by
  intro n
  induction n with
  | zero =>
    intro x1 x2 x3 x5 x6 M h
    cases (show (none : Option (Int32 × kx_M)) = some _ from h)
  | succ n ih =>
    intro x1 x2 x3 x5 x6 M h
    rw [f_X5_picture_58.eq_2] at h
    refine kx_go (pc' := 63) (L' := [some (.ref 0), some (.int x1), some (.int x2), some (.int x3), none, some (.int x5), some (.int x6)]) (st' := [.ref 0, .int (x6 + x2)]) 4 rfl ?_
    refine kx_q_getI (k := 0) kmo_0 rfl kfl_X5_65 rfl ?_
    refine kx_r_icmp_gt rfl (fun hc1 => ?_) (fun hc1 => ?_)
    · rw [if_pos hc1] at h
      refine kx_go (pc' := 98) (L' := [some (.ref 0), some (.int x1), some (.int x2), some (.int x3), none, some (.int x5), some (.int x6)]) (st' := [.int x5]) 1 rfl ?_
      cases h
      exact kx_r_iret rfl rfl
    · rw [if_neg hc1] at h
      refine kx_go (pc' := 75) (L' := [some (.ref 0), some (.int x1), some (.int x2), some (.int x3), none, some (.int x5), some (.int x6)]) (st' := [.int x6, .int x3, .int x2, .int x1, .ref 0]) 5 rfl ?_
      obtain ⟨v2, hv3, h⟩ := kx_bn_some h
      refine kx_q_callV (as := [.int x1, .int x2, .int x3, .int x6]) (rest := []) (M1 := M) (rv := some (.int (kx_bi v2))) kmo_0 rfl klk_X5_275 kse_X5_isLaid rfl rfl rfl rfl (Nat.le_of_ble_eq_true rfl) (Nat.le_of_ble_eq_true rfl) (c_X5_isLaid (d := d + 1) x1 x2 x3 x6 M v2 hv3) ?_
      show kx_Rn _ _ _ (78, [some (.ref 0), some (.int x1), some (.int x2), some (.int x3), none, some (.int x5), some (.int x6)], [.int (kx_bi v2)], M) _ _
      refine kx_q_zeq rfl (fun hc4 => ?_) (fun hc4 => ?_)
      · rw [if_neg hc4] at h
        refine kx_go (pc' := 93) (L' := [some (.ref 0), some (.int x1), some (.int x2), some (.int x3), none, some (.int x5), some (.int (x6 + (1)))]) (st' := []) 1 rfl ?_
        refine kx_r_goto rfl ?_
        refine kx_wk [true, true, true, true, false, true, true] ?_
        exact ih x1 x2 x3 x5 (x6 + (1)) M h
      · rw [if_pos hc4] at h
        refine kx_go (pc' := 93) (L' := [some (.ref 0), some (.int x1), some (.int x2), some (.int x3), none, some (.int (x5 ||| ((1 : Int32) <<< (x6 &&& 31)))), some (.int (x6 + (1)))]) (st' := []) 7 rfl ?_
        refine kx_r_goto rfl ?_
        refine kx_wk [true, true, true, true, false, true, true] ?_
        exact ih x1 x2 x3 (x5 ||| ((1 : Int32) <<< (x6 &&& 31))) (x6 + (1)) M h
set_option maxRecDepth 100000 in
set_option maxHeartbeats 4000000 in
theorem t_X5_picture {d : Nat} {r : Int32} {M' : kx_M} (a0 : Int32) (a1 : Int32) (a2 : Int32) (M : kx_M) (h : f_X5_picture a0 a1 a2 M = some (r, M')) : kx_Rn EM T_X5_picture (d + 3) (0, [some (.ref 0), some (.int a0), some (.int a1), some (.int a2), none, none, none], [], M) (some (.int r)) M' := by
  unfold f_X5_picture at h
  refine kx_go (pc' := 1) (L' := [some (.ref 0), some (.int a0), some (.int a1), some (.int a2), none, none, none]) (st' := [.int a0]) 1 rfl ?_
  refine kx_r_callS (as := [.int a0]) (rest := []) (M1 := M) (rv := some (.int (kx_bi (f_X5_isShelf a0)))) rfl klk_X5_85 kst_X5_isShelf rfl rfl (Nat.le_of_ble_eq_true rfl) (Nat.le_of_ble_eq_true rfl) (c_X5_isShelf (d := d + 1) a0 M (f_X5_isShelf a0) rfl) ?_
  show kx_Rn _ _ _ (4, [some (.ref 0), some (.int a0), some (.int a1), some (.int a2), none, none, none], [.int (kx_bi (f_X5_isShelf a0))], M) _ _
  refine kx_q_zeq rfl (fun hc1 => ?_) (fun hc1 => ?_)
  · rw [if_neg hc1] at h
    refine kx_go (pc' := 28) (L' := [some (.ref 0), some (.int a0), some (.int a1), some (.int a2), none, none, none]) (st' := [.int (-2 : Int32), .ref 0]) 2 rfl ?_
    obtain ⟨v2, M4, hv3, h⟩ := kx_bd_some h
    refine kx_q_callV (as := [.int (-2 : Int32)]) (rest := []) (M1 := M4) (rv := some (.int v2)) kmo_0 rfl klk_X5_89 kse_X5_no rfl rfl rfl rfl (Nat.le_of_ble_eq_true rfl) (Nat.le_of_ble_eq_true rfl) (c_X5_no (d := d + 2) (-2 : Int32) M v2 M4 hv3) ?_
    show kx_Rn _ _ _ (31, [some (.ref 0), some (.int a0), some (.int a1), some (.int a2), none, none, none], [.int v2], M4) _ _
    cases h
    exact kx_r_iret rfl rfl
  · rw [if_pos hc1] at h
    refine kx_go (pc' := 11) (L' := [some (.ref 0), some (.int a0), some (.int a1), some (.int a2), none, none, none]) (st' := [.int (24 : Int32), .int (0 : Int32), .int a1]) 3 rfl ?_
    refine kx_r_callS (as := [.int a1, .int (0 : Int32), .int (24 : Int32)]) (rest := []) (M1 := M) (rv := some (.int (kx_bi (f_X5_within a1 (0 : Int32) (24 : Int32))))) rfl klk_X5_78 kst_X5_within rfl rfl (Nat.le_of_ble_eq_true rfl) (Nat.le_of_ble_eq_true rfl) (c_X5_within (d := d + 2) a1 (0 : Int32) (24 : Int32) M (f_X5_within a1 (0 : Int32) (24 : Int32)) rfl) ?_
    show kx_Rn _ _ _ (14, [some (.ref 0), some (.int a0), some (.int a1), some (.int a2), none, none, none], [.int (kx_bi (f_X5_within a1 (0 : Int32) (24 : Int32)))], M) _ _
    refine kx_q_zeq rfl (fun hc5 => ?_) (fun hc5 => ?_)
    · rw [if_neg hc5] at h
      refine kx_go (pc' := 28) (L' := [some (.ref 0), some (.int a0), some (.int a1), some (.int a2), none, none, none]) (st' := [.int (-2 : Int32), .ref 0]) 2 rfl ?_
      obtain ⟨v6, M8, hv7, h⟩ := kx_bd_some h
      refine kx_q_callV (as := [.int (-2 : Int32)]) (rest := []) (M1 := M8) (rv := some (.int v6)) kmo_0 rfl klk_X5_89 kse_X5_no rfl rfl rfl rfl (Nat.le_of_ble_eq_true rfl) (Nat.le_of_ble_eq_true rfl) (c_X5_no (d := d + 2) (-2 : Int32) M v6 M8 hv7) ?_
      show kx_Rn _ _ _ (31, [some (.ref 0), some (.int a0), some (.int a1), some (.int a2), none, none, none], [.int v6], M8) _ _
      cases h
      exact kx_r_iret rfl rfl
    · rw [if_pos hc5] at h
      refine kx_go (pc' := 19) (L' := [some (.ref 0), some (.int a0), some (.int a1), some (.int a2), none, none, none]) (st' := [.int a2, .ref 0]) 2 rfl ?_
      refine kx_q_callV (as := [.int a2]) (rest := []) (M1 := M) (rv := some (.int (kx_bi (f_X5_isOne M a2)))) kmo_0 rfl klk_X5_103 kse_X5_isOne rfl rfl rfl rfl (Nat.le_of_ble_eq_true rfl) (Nat.le_of_ble_eq_true rfl) (c_X5_isOne (d := d + 1) a2 M (f_X5_isOne M a2) rfl) ?_
      show kx_Rn _ _ _ (22, [some (.ref 0), some (.int a0), some (.int a1), some (.int a2), none, none, none], [.int (kx_bi (f_X5_isOne M a2))], M) _ _
      refine kx_q_zne rfl (fun hc9 => ?_) (fun hc9 => ?_)
      · rw [if_pos hc9] at h
        refine kx_go (pc' := 35) (L' := [some (.ref 0), some (.int a0), some (.int a1), some (.int a2), none, none, none]) (st' := [.int a1, .int a0, .ref 0]) 3 rfl ?_
        obtain ⟨v10, hv11, h⟩ := kx_bn_some h
        refine kx_q_callV (as := [.int a0, .int a1]) (rest := []) (M1 := M) (rv := some (.int v10)) kmo_0 rfl klk_X5_256 kse_X5_noTold rfl rfl rfl rfl (Nat.le_of_ble_eq_true rfl) (Nat.le_of_ble_eq_true rfl) (c_X5_noTold (d := d + 0) a0 a1 M v10 hv11) ?_
        show kx_Rn _ _ _ (38, [some (.ref 0), some (.int a0), some (.int a1), some (.int a2), none, none, none], [.int v10], M) _ _
        refine kx_go (pc' := 42) (L' := [some (.ref 0), some (.int a0), some (.int a1), some (.int a2), some (.int v10), none, none]) (st' := [.int v10]) 2 rfl ?_
        refine kx_r_if_ge rfl (fun hc12 => ?_) (fun hc12 => ?_)
        · rw [if_pos hc12] at h
          refine kx_go (pc' := 58) (L' := [some (.ref 0), some (.int a0), some (.int a1), some (.int a2), some (.int v10), some (.int (0 : Int32)), some (.int (0 : Int32))]) (st' := []) 4 rfl ?_
          refine kx_wk [true, true, true, true, false, true, true] ?_
          exact t_X5_picture_58 kx_fuel a0 a1 a2 (0 : Int32) (0 : Int32) M h
        · rw [if_neg hc12] at h
          refine kx_go (pc' := 48) (L' := [some (.ref 0), some (.int a0), some (.int a1), some (.int a2), some (.int v10), none, none]) (st' := [.int v10, .ref 0]) 2 rfl ?_
          obtain ⟨v13, M15, hv14, h⟩ := kx_bd_some h
          refine kx_q_callV (as := [.int v10]) (rest := []) (M1 := M15) (rv := some (.int v13)) kmo_0 rfl klk_X5_89 kse_X5_no rfl rfl rfl rfl (Nat.le_of_ble_eq_true rfl) (Nat.le_of_ble_eq_true rfl) (c_X5_no (d := d + 2) v10 M v13 M15 hv14) ?_
          show kx_Rn _ _ _ (51, [some (.ref 0), some (.int a0), some (.int a1), some (.int a2), some (.int v10), none, none], [.int v13], M15) _ _
          cases h
          exact kx_r_iret rfl rfl
      · rw [if_neg hc9] at h
        refine kx_go (pc' := 28) (L' := [some (.ref 0), some (.int a0), some (.int a1), some (.int a2), none, none, none]) (st' := [.int (-2 : Int32), .ref 0]) 2 rfl ?_
        obtain ⟨v16, M18, hv17, h⟩ := kx_bd_some h
        refine kx_q_callV (as := [.int (-2 : Int32)]) (rest := []) (M1 := M18) (rv := some (.int v16)) kmo_0 rfl klk_X5_89 kse_X5_no rfl rfl rfl rfl (Nat.le_of_ble_eq_true rfl) (Nat.le_of_ble_eq_true rfl) (c_X5_no (d := d + 2) (-2 : Int32) M v16 M18 hv17) ?_
        show kx_Rn _ _ _ (31, [some (.ref 0), some (.int a0), some (.int a1), some (.int a2), none, none, none], [.int v16], M18) _ _
        cases h
        exact kx_r_iret rfl rfl
theorem c_X5_picture {d : Nat} (a0 : Int32) (a1 : Int32) (a2 : Int32) (M : kx_M) (r : Int32) (M' : kx_M) (h : f_X5_picture a0 a1 a2 M = some (r, M')) : kx_Call EM (d + 3) T_X5_picture [.ref 0, .int a0, .int a1, .int a2] M (some (.int r)) M' := kx_entry kok_X5_picture (Nat.le_of_ble_eq_true rfl) rfl (t_X5_picture (d := d) a0 a1 a2 M h)
set_option maxRecDepth 100000 in
set_option maxHeartbeats 4000000 in
theorem t_X5_liftFrom_34 {d : Nat} {r : Int32} {M' : kx_M} (rec : Int32 → Int32 → Int32 → kx_M → Option (Int32 × kx_M)) (hrec : ∀ (a0 : Int32) (a1 : Int32) (a2 : Int32) (M : kx_M) (r : Int32) (M' : kx_M), rec a0 a1 a2 M = some (r, M') → kx_Call EM (d + 2) T_X5_liftFrom [.ref 0, .int a0, .int a1, .int a2] M (some (.int r)) M') : ∀ (n : Nat) (x1 : Int32) (x2 : Int32) (x3 : Int32) (x4 : Int32) (x5 : Int32) (x6 : Int32) (M : kx_M), f_X5_liftFrom_34 rec n x1 x2 x3 x4 x5 x6 M = some (r, M') → kx_Rn EM T_X5_liftFrom (d + 3) (34, [some (.ref 0), some (.int x1), some (.int x2), some (.int x3), some (.int x4), some (.int x5), some (.int x6), none], [], M) (some (.int r)) M' := by
  intro n
  induction n with
  | zero =>
    intro x1 x2 x3 x4 x5 x6 M h
    cases (show (none : Option (Int32 × kx_M)) = some _ from h)
  | succ n ih =>
    intro x1 x2 x3 x4 x5 x6 M h
    rw [f_X5_liftFrom_34.eq_2] at h
    refine kx_go (pc' := 37) (L' := [some (.ref 0), some (.int x1), some (.int x2), some (.int x3), some (.int x4), some (.int x5), some (.int x6), none]) (st' := [.ref 0, .int x6]) 2 rfl ?_
    refine kx_q_getI (k := 4) kmo_0 rfl kfl_X5_82 rfl ?_
    refine kx_r_icmp_ge rfl (fun hc1 => ?_) (fun hc1 => ?_)
    · rw [if_pos hc1] at h
      refine kx_go (pc' := 134) (L' := [some (.ref 0), some (.int x1), some (.int x2), some (.int x3), some (.int x4), some (.int x5), some (.int x6), none]) (st' := [.int x4]) 1 rfl ?_
      cases h
      exact kx_r_iret rfl rfl
    · rw [if_neg hc1] at h
      refine kx_go (pc' := 46) (L' := [some (.ref 0), some (.int x1), some (.int x2), some (.int x3), some (.int x4), some (.int x5), some (.int x6), none]) (st' := [.int x6, .int x3]) 2 rfl ?_
      refine kx_r_callS (as := [.int x3, .int x6]) (rest := []) (M1 := M) (rv := some (.int (kx_bi (f_X5_has x3 x6)))) rfl klk_X5_199 kst_X5_has rfl rfl (Nat.le_of_ble_eq_true rfl) (Nat.le_of_ble_eq_true rfl) (c_X5_has (d := d + 2) x3 x6 M (f_X5_has x3 x6) rfl) ?_
      show kx_Rn _ _ _ (49, [some (.ref 0), some (.int x1), some (.int x2), some (.int x3), some (.int x4), some (.int x5), some (.int x6), none], [.int (kx_bi (f_X5_has x3 x6))], M) _ _
      refine kx_q_zeq rfl (fun hc2 => ?_) (fun hc2 => ?_)
      · rw [if_neg hc2] at h
        refine kx_go (pc' := 56) (L' := [some (.ref 0), some (.int x1), some (.int x2), some (.int x3), some (.int x4), some (.int x5), some (.int x6), none]) (st' := [.ref 0]) 1 rfl ?_
        refine kx_q_getR (k := 3) (j := 3) kmo_0 rfl kfl_X5_16 rfl ?_
        refine kx_go (pc' := 65) (L' := [some (.ref 0), some (.int x1), some (.int x2), some (.int x3), some (.int x4), some (.int x5), some (.int x6), none]) (st' := [.int ((1 : Int32) <<< (x6 &&& 31)), .ref 0, .int (0 : Int32), .ref 3]) 5 rfl ?_
        obtain ⟨v3, hv4, h⟩ := kx_bn_some h
        refine kx_q_callV (as := [.int ((1 : Int32) <<< (x6 &&& 31))]) (rest := [.int (0 : Int32), .ref 3]) (M1 := M) (rv := some (.int v3)) kmo_0 rfl klk_X5_227 kse_X5_veilBehind rfl rfl rfl rfl (Nat.le_of_ble_eq_true rfl) (Nat.le_of_ble_eq_true rfl) (c_X5_veilBehind (d := d + 0) ((1 : Int32) <<< (x6 &&& 31)) M v3 hv4) ?_
        show kx_Rn _ _ _ (68, [some (.ref 0), some (.int x1), some (.int x2), some (.int x3), some (.int x4), some (.int x5), some (.int x6), none], [.int v3, .int (0 : Int32), .ref 3], M) _ _
        obtain ⟨hi5, h⟩ := kx_ck_some h
        refine kx_q_iast (kma_3) rfl hi5 ?_
        refine kx_go (pc' := 80) (L' := [some (.ref 0), some (.int x1), some (.int x2), some (.int x3), some (.int x4), some (.int x5), some (.int x6), none]) (st' := [.int (x3 ||| ((1 : Int32) <<< (x6 &&& 31))), .int x2, .int (x1 + (1 : Int32)), .ref 0]) 10 rfl ?_
        obtain ⟨v6, M8, hv7, h⟩ := kx_bd_some h
        refine kx_q_callV (as := [.int (x1 + (1 : Int32)), .int x2, .int (x3 ||| ((1 : Int32) <<< (x6 &&& 31)))]) (rest := []) (M1 := M8) (rv := some (.int v6)) kmo_0 rfl klk_X5_279 kse_X5_liftFrom rfl rfl rfl rfl (Nat.le_of_ble_eq_true rfl) (Nat.le_of_ble_eq_true rfl) (hrec (x1 + (1 : Int32)) x2 (x3 ||| ((1 : Int32) <<< (x6 &&& 31))) (kx_u1 M 3 ((0 : Int32)).toNatClampNeg v3) v6 M8 hv7) ?_
        show kx_Rn _ _ _ (83, [some (.ref 0), some (.int x1), some (.int x2), some (.int x3), some (.int x4), some (.int x5), some (.int x6), none], [.int v6], M8) _ _
        refine kx_go (pc' := 86) (L' := [some (.ref 0), some (.int x1), some (.int x2), some (.int x3), some (.int x4), some (.int x5), some (.int x6), some (.int v6)]) (st' := [.ref 0]) 2 rfl ?_
        refine kx_q_getR (k := 3) (j := 3) kmo_0 rfl kfl_X5_16 rfl ?_
        refine kx_go (pc' := 92) (L' := [some (.ref 0), some (.int x1), some (.int x2), some (.int x3), some (.int x4), some (.int x5), some (.int x6), some (.int v6)]) (st' := [.int x5, .int (0 : Int32), .ref 3]) 2 rfl ?_
        obtain ⟨hi9, h⟩ := kx_ck_some h
        refine kx_q_iast (kma_3) rfl hi9 ?_
        refine kx_go (pc' := 96) (L' := [some (.ref 0), some (.int x1), some (.int x2), some (.int x3), some (.int x4), some (.int x5), some (.int x6), some (.int v6)]) (st' := [.int (-1 : Int32), .int x4]) 2 rfl ?_
        refine kx_r_icmp_eq rfl (fun hc10 => ?_) (fun hc10 => ?_)
        · rw [if_pos hc10] at h
          refine kx_go (pc' := 129) (L' := [some (.ref 0), some (.int x1), some (.int x2), some (.int x3), some (.int v6), some (.int x5), some (.int (x6 + (1))), some (.int v6)]) (st' := []) 3 rfl ?_
          refine kx_r_goto rfl ?_
          refine kx_wk [true, true, true, true, true, true, true, false] ?_
          exact ih x1 x2 x3 v6 x5 (x6 + (1)) (kx_u1 M8 3 ((0 : Int32)).toNatClampNeg x5) h
        · rw [if_neg hc10] at h
          refine kx_go (pc' := 101) (L' := [some (.ref 0), some (.int x1), some (.int x2), some (.int x3), some (.int x4), some (.int x5), some (.int x6), some (.int v6)]) (st' := [.int (2 : Int32), .int x1]) 2 rfl ?_
          refine kx_r_irem rfl (by decide) ?_
          refine kx_r_if_ne rfl (fun hc11 => ?_) (fun hc11 => ?_)
          · rw [if_neg hc11] at h
            refine kx_go (pc' := 119) (L' := [some (.ref 0), some (.int x1), some (.int x2), some (.int x3), some (.int x4), some (.int x5), some (.int x6), some (.int v6)]) (st' := [.int x4, .int v6]) 2 rfl ?_
            refine kx_r_icmp_le rfl (fun hc12 => ?_) (fun hc12 => ?_)
            · rw [if_pos hc12] at h
              refine kx_go (pc' := 129) (L' := [some (.ref 0), some (.int x1), some (.int x2), some (.int x3), some (.int x4), some (.int x5), some (.int (x6 + (1))), some (.int v6)]) (st' := []) 1 rfl ?_
              refine kx_r_goto rfl ?_
              refine kx_wk [true, true, true, true, true, true, true, false] ?_
              exact ih x1 x2 x3 x4 x5 (x6 + (1)) (kx_u1 M8 3 ((0 : Int32)).toNatClampNeg x5) h
            · rw [if_neg hc12] at h
              refine kx_go (pc' := 129) (L' := [some (.ref 0), some (.int x1), some (.int x2), some (.int x3), some (.int v6), some (.int x5), some (.int (x6 + (1))), some (.int v6)]) (st' := []) 3 rfl ?_
              refine kx_r_goto rfl ?_
              refine kx_wk [true, true, true, true, true, true, true, false] ?_
              exact ih x1 x2 x3 v6 x5 (x6 + (1)) (kx_u1 M8 3 ((0 : Int32)).toNatClampNeg x5) h
          · rw [if_pos hc11] at h
            refine kx_go (pc' := 109) (L' := [some (.ref 0), some (.int x1), some (.int x2), some (.int x3), some (.int x4), some (.int x5), some (.int x6), some (.int v6)]) (st' := [.int x4, .int v6]) 2 rfl ?_
            refine kx_r_icmp_ge rfl (fun hc13 => ?_) (fun hc13 => ?_)
            · rw [if_pos hc13] at h
              refine kx_go (pc' := 129) (L' := [some (.ref 0), some (.int x1), some (.int x2), some (.int x3), some (.int x4), some (.int x5), some (.int (x6 + (1))), some (.int v6)]) (st' := []) 1 rfl ?_
              refine kx_r_goto rfl ?_
              refine kx_wk [true, true, true, true, true, true, true, false] ?_
              exact ih x1 x2 x3 x4 x5 (x6 + (1)) (kx_u1 M8 3 ((0 : Int32)).toNatClampNeg x5) h
            · rw [if_neg hc13] at h
              refine kx_r_goto rfl ?_
              refine kx_go (pc' := 129) (L' := [some (.ref 0), some (.int x1), some (.int x2), some (.int x3), some (.int v6), some (.int x5), some (.int (x6 + (1))), some (.int v6)]) (st' := []) 3 rfl ?_
              refine kx_r_goto rfl ?_
              refine kx_wk [true, true, true, true, true, true, true, false] ?_
              exact ih x1 x2 x3 v6 x5 (x6 + (1)) (kx_u1 M8 3 ((0 : Int32)).toNatClampNeg x5) h
      · rw [if_pos hc2] at h
        refine kx_r_goto rfl ?_
        refine kx_go (pc' := 129) (L' := [some (.ref 0), some (.int x1), some (.int x2), some (.int x3), some (.int x4), some (.int x5), some (.int (x6 + (1))), none]) (st' := []) 1 rfl ?_
        refine kx_r_goto rfl ?_
        refine kx_wk [true, true, true, true, true, true, true, false] ?_
        exact ih x1 x2 x3 x4 x5 (x6 + (1)) M h
set_option maxRecDepth 100000 in
set_option maxHeartbeats 4000000 in
theorem t_X5_liftFrom {d : Nat} {r : Int32} {M' : kx_M} (rec : Int32 → Int32 → Int32 → kx_M → Option (Int32 × kx_M)) (hrec : ∀ (a0 : Int32) (a1 : Int32) (a2 : Int32) (M : kx_M) (r : Int32) (M' : kx_M), rec a0 a1 a2 M = some (r, M') → kx_Call EM (d + 2) T_X5_liftFrom [.ref 0, .int a0, .int a1, .int a2] M (some (.int r)) M') (a0 : Int32) (a1 : Int32) (a2 : Int32) (M : kx_M) (h : f_X5_liftFrom_b rec a0 a1 a2 M = some (r, M')) : kx_Rn EM T_X5_liftFrom (d + 3) (0, [some (.ref 0), some (.int a0), some (.int a1), some (.int a2), none, none, none, none], [], M) (some (.int r)) M' := by
  unfold f_X5_liftFrom_b at h
  refine kx_go (pc' := 2) (L' := [some (.ref 0), some (.int a0), some (.int a1), some (.int a2), none, none, none, none]) (st' := [.int a1, .int a0]) 2 rfl ?_
  refine kx_r_icmp_eq rfl (fun hc1 => ?_) (fun hc1 => ?_)
  · rw [if_pos hc1] at h
    refine kx_go (pc' := 14) (L' := [some (.ref 0), some (.int a0), some (.int a1), some (.int a2), none, none, none, none]) (st' := [.ref 0]) 1 rfl ?_
    refine kx_q_getR (k := 3) (j := 3) kmo_0 rfl kfl_X5_16 rfl ?_
    refine kx_go (pc' := 18) (L' := [some (.ref 0), some (.int a0), some (.int a1), some (.int a2), none, none, none, none]) (st' := [.int (0 : Int32), .ref 3]) 1 rfl ?_
    obtain ⟨hi2, h⟩ := kx_ck_some h
    refine kx_q_iald (kma_3) rfl hi2 ?_
    cases h
    exact kx_r_iret rfl rfl
  · rw [if_neg hc1] at h
    refine kx_go (pc' := 7) (L' := [some (.ref 0), some (.int a0), some (.int a1), some (.int a2), none, none, none, none]) (st' := [.ref 0, .int a2]) 2 rfl ?_
    refine kx_q_callV (as := []) (rest := [.int a2]) (M1 := M) (rv := some (.int (f_X5_all M))) kmo_0 rfl klk_X5_221 kse_X5_all rfl rfl rfl rfl (Nat.le_of_ble_eq_true rfl) (Nat.le_of_ble_eq_true rfl) (c_X5_all (d := d + 2) M (f_X5_all M) rfl) ?_
    show kx_Rn _ _ _ (10, [some (.ref 0), some (.int a0), some (.int a1), some (.int a2), none, none, none, none], [.int (f_X5_all M), .int a2], M) _ _
    refine kx_r_icmp_ne rfl (fun hc3 => ?_) (fun hc3 => ?_)
    · rw [if_neg hc3] at h
      refine kx_go (pc' := 24) (L' := [some (.ref 0), some (.int a0), some (.int a1), some (.int a2), some (.int (-1 : Int32)), none, none, none]) (st' := [.ref 0]) 3 rfl ?_
      refine kx_q_getR (k := 3) (j := 3) kmo_0 rfl kfl_X5_16 rfl ?_
      refine kx_go (pc' := 28) (L' := [some (.ref 0), some (.int a0), some (.int a1), some (.int a2), some (.int (-1 : Int32)), none, none, none]) (st' := [.int (0 : Int32), .ref 3]) 1 rfl ?_
      obtain ⟨hi4, h⟩ := kx_ck_some h
      refine kx_q_iald (kma_3) rfl hi4 ?_
      refine kx_go (pc' := 34) (L' := [some (.ref 0), some (.int a0), some (.int a1), some (.int a2), some (.int (-1 : Int32)), some (.int (M.1 3 ((0 : Int32)).toNatClampNeg)), some (.int (0 : Int32)), none]) (st' := []) 3 rfl ?_
      refine kx_wk [true, true, true, true, true, true, true, false] ?_
      exact t_X5_liftFrom_34 rec hrec kx_fuel a0 a1 a2 (-1 : Int32) (M.1 3 ((0 : Int32)).toNatClampNeg) (0 : Int32) M h
    · rw [if_pos hc3] at h
      refine kx_go (pc' := 14) (L' := [some (.ref 0), some (.int a0), some (.int a1), some (.int a2), none, none, none, none]) (st' := [.ref 0]) 1 rfl ?_
      refine kx_q_getR (k := 3) (j := 3) kmo_0 rfl kfl_X5_16 rfl ?_
      refine kx_go (pc' := 18) (L' := [some (.ref 0), some (.int a0), some (.int a1), some (.int a2), none, none, none, none]) (st' := [.int (0 : Int32), .ref 3]) 1 rfl ?_
      obtain ⟨hi5, h⟩ := kx_ck_some h
      refine kx_q_iald (kma_3) rfl hi5 ?_
      cases h
      exact kx_r_iret rfl rfl
theorem cr_X5_liftFrom {d : Nat} : ∀ (n : Nat) (a0 : Int32) (a1 : Int32) (a2 : Int32) (M : kx_M) (r : Int32) (M' : kx_M), f_X5_liftFrom n a0 a1 a2 M = some (r, M') → kx_Call EM (d + n + 2) T_X5_liftFrom [.ref 0, .int a0, .int a1, .int a2] M (some (.int r)) M' := by
  intro n
  induction n with
  | zero =>
    intro a0 a1 a2 M r M' h
    cases (show (none : Option (Int32 × kx_M)) = some _ from h)
  | succ n ih =>
    intro a0 a1 a2 M r M' h
    rw [f_X5_liftFrom.eq_2] at h
    rw [show d + (n + 1) + 2 = d + n + 3 by omega]
    exact kx_entry kok_X5_liftFrom (Nat.le_of_ble_eq_true rfl) rfl (t_X5_liftFrom (d := d + n) _ (fun a0 a1 a2 M r M' h => ih a0 a1 a2 M r M' h) a0 a1 a2 M h)
theorem c_X5_liftFrom {d : Nat} (a0 : Int32) (a1 : Int32) (a2 : Int32) (M : kx_M) (r : Int32) (M' : kx_M) (h : f_X5_liftFrom 8 a0 a1 a2 M = some (r, M')) : kx_Call EM (d + 10) T_X5_liftFrom [.ref 0, .int a0, .int a1, .int a2] M (some (.int r)) M' := cr_X5_liftFrom (d := d) 8 a0 a1 a2 M r M' h
set_option maxRecDepth 100000 in
set_option maxHeartbeats 4000000 in
theorem t_X5_lift_50 {d : Nat} {r : Int32} {M' : kx_M} : ∀ (n : Nat) (x1 : Int32) (x3 : Int32) (x4 : Int32) (x5 : Int32) (M : kx_M), f_X5_lift_50 n x1 x3 x4 x5 M = some (r, M') → kx_Rn EM T_X5_lift (d + 11) (50, [some (.ref 0), some (.int x1), none, some (.int x3), some (.int x4), some (.int x5), none], [], M) (some (.int r)) M' := by
  intro n
  induction n with
  | zero =>
    intro x1 x3 x4 x5 M h
    cases (show (none : Option (Int32 × kx_M)) = some _ from h)
  | succ n ih =>
    intro x1 x3 x4 x5 M h
    rw [f_X5_lift_50.eq_2] at h
    refine kx_go (pc' := 53) (L' := [some (.ref 0), some (.int x1), none, some (.int x3), some (.int x4), some (.int x5), none]) (st' := [.ref 0, .int x5]) 2 rfl ?_
    refine kx_q_getI (k := 4) kmo_0 rfl kfl_X5_82 rfl ?_
    refine kx_r_icmp_ge rfl (fun hc1 => ?_) (fun hc1 => ?_)
    · rw [if_pos hc1] at h
      refine kx_go (pc' := 113) (L' := [some (.ref 0), some (.int x1), none, some (.int x3), some (.int x4), some (.int x5), none]) (st' := [.int (-1 : Int32)]) 1 rfl ?_
      cases h
      exact kx_r_iret rfl rfl
    · rw [if_neg hc1] at h
      refine kx_go (pc' := 60) (L' := [some (.ref 0), some (.int x1), none, some (.int x3), some (.int x4), some (.int x5), none]) (st' := [.int x1]) 1 rfl ?_
      refine kx_r_if_le rfl (fun hc2 => ?_) (fun hc2 => ?_)
      · rw [if_pos hc2] at h
        refine kx_go (pc' := 113) (L' := [some (.ref 0), some (.int x1), none, some (.int x3), some (.int x4), some (.int x5), none]) (st' := [.int (-1 : Int32)]) 1 rfl ?_
        cases h
        exact kx_r_iret rfl rfl
      · rw [if_neg hc2] at h
        refine kx_go (pc' := 64) (L' := [some (.ref 0), some (.int x1), none, some (.int x3), some (.int x4), some (.int x5), none]) (st' := [.ref 0]) 1 rfl ?_
        refine kx_q_getR (k := 3) (j := 3) kmo_0 rfl kfl_X5_16 rfl ?_
        refine kx_go (pc' := 73) (L' := [some (.ref 0), some (.int x1), none, some (.int x3), some (.int x4), some (.int x5), none]) (st' := [.int ((1 : Int32) <<< (x5 &&& 31)), .ref 0, .int (0 : Int32), .ref 3]) 5 rfl ?_
        obtain ⟨v3, hv4, h⟩ := kx_bn_some h
        refine kx_q_callV (as := [.int ((1 : Int32) <<< (x5 &&& 31))]) (rest := [.int (0 : Int32), .ref 3]) (M1 := M) (rv := some (.int v3)) kmo_0 rfl klk_X5_227 kse_X5_veilBehind rfl rfl rfl rfl (Nat.le_of_ble_eq_true rfl) (Nat.le_of_ble_eq_true rfl) (c_X5_veilBehind (d := d + 8) ((1 : Int32) <<< (x5 &&& 31)) M v3 hv4) ?_
        show kx_Rn _ _ _ (76, [some (.ref 0), some (.int x1), none, some (.int x3), some (.int x4), some (.int x5), none], [.int v3, .int (0 : Int32), .ref 3], M) _ _
        obtain ⟨hi5, h⟩ := kx_ck_some h
        refine kx_q_iast (kma_3) rfl hi5 ?_
        refine kx_go (pc' := 84) (L' := [some (.ref 0), some (.int x1), none, some (.int x3), some (.int x4), some (.int x5), none]) (st' := [.int ((1 : Int32) <<< (x5 &&& 31)), .int x1, .int (1 : Int32), .ref 0]) 6 rfl ?_
        obtain ⟨v6, M8, hv7, h⟩ := kx_bd_some h
        refine kx_q_callV (as := [.int (1 : Int32), .int x1, .int ((1 : Int32) <<< (x5 &&& 31))]) (rest := []) (M1 := M8) (rv := some (.int v6)) kmo_0 rfl klk_X5_279 kse_X5_liftFrom rfl rfl rfl rfl (Nat.le_of_ble_eq_true rfl) (Nat.le_of_ble_eq_true rfl) (c_X5_liftFrom (d := d + 0) (1 : Int32) x1 ((1 : Int32) <<< (x5 &&& 31)) (kx_u1 M 3 ((0 : Int32)).toNatClampNeg v3) v6 M8 hv7) ?_
        show kx_Rn _ _ _ (87, [some (.ref 0), some (.int x1), none, some (.int x3), some (.int x4), some (.int x5), none], [.int v6], M8) _ _
        refine kx_go (pc' := 90) (L' := [some (.ref 0), some (.int x1), none, some (.int x3), some (.int x4), some (.int x5), some (.int v6)]) (st' := [.ref 0]) 2 rfl ?_
        refine kx_q_getR (k := 3) (j := 3) kmo_0 rfl kfl_X5_16 rfl ?_
        refine kx_go (pc' := 96) (L' := [some (.ref 0), some (.int x1), none, some (.int x3), some (.int x4), some (.int x5), some (.int v6)]) (st' := [.int x4, .int (0 : Int32), .ref 3]) 2 rfl ?_
        obtain ⟨hi9, h⟩ := kx_ck_some h
        refine kx_q_iast (kma_3) rfl hi9 ?_
        refine kx_go (pc' := 100) (L' := [some (.ref 0), some (.int x1), none, some (.int x3), some (.int x4), some (.int x5), some (.int v6)]) (st' := [.int x3, .int v6]) 2 rfl ?_
        refine kx_r_icmp_ne rfl (fun hc10 => ?_) (fun hc10 => ?_)
        · rw [if_neg hc10] at h
          refine kx_go (pc' := 109) (L' := [some (.ref 0), some (.int x1), none, some (.int x3), some (.int x4), some (.int (x5 + (1))), some (.int v6)]) (st' := []) 1 rfl ?_
          refine kx_r_goto rfl ?_
          refine kx_wk [true, true, false, true, true, true, false] ?_
          exact ih x1 x3 x4 (x5 + (1)) (kx_u1 M8 3 ((0 : Int32)).toNatClampNeg x4) h
        · rw [if_pos hc10] at h
          refine kx_go (pc' := 105) (L' := [some (.ref 0), some (.int x1), none, some (.int x3), some (.int x4), some (.int x5), some (.int v6)]) (st' := [.int x5]) 1 rfl ?_
          cases h
          exact kx_r_iret rfl rfl
set_option maxRecDepth 100000 in
set_option maxHeartbeats 4000000 in
theorem t_X5_lift {d : Nat} {r : Int32} {M' : kx_M} (a0 : Int32) (a1 : Int32) (M : kx_M) (h : f_X5_lift a0 a1 M = some (r, M')) : kx_Rn EM T_X5_lift (d + 11) (0, [some (.ref 0), some (.int a0), some (.int a1), none, none, none, none], [], M) (some (.int r)) M' := by
  unfold f_X5_lift at h
  refine kx_go (pc' := 3) (L' := [some (.ref 0), some (.int a0), some (.int a1), none, none, none, none]) (st' := [.int (4 : Int32), .int (0 : Int32), .int a0]) 3 rfl ?_
  refine kx_r_callS (as := [.int a0, .int (0 : Int32), .int (4 : Int32)]) (rest := []) (M1 := M) (rv := some (.int (kx_bi (f_X5_within a0 (0 : Int32) (4 : Int32))))) rfl klk_X5_78 kst_X5_within rfl rfl (Nat.le_of_ble_eq_true rfl) (Nat.le_of_ble_eq_true rfl) (c_X5_within (d := d + 10) a0 (0 : Int32) (4 : Int32) M (f_X5_within a0 (0 : Int32) (4 : Int32)) rfl) ?_
  show kx_Rn _ _ _ (6, [some (.ref 0), some (.int a0), some (.int a1), none, none, none, none], [.int (kx_bi (f_X5_within a0 (0 : Int32) (4 : Int32)))], M) _ _
  refine kx_q_zeq rfl (fun hc1 => ?_) (fun hc1 => ?_)
  · rw [if_neg hc1] at h
    refine kx_go (pc' := 21) (L' := [some (.ref 0), some (.int a0), some (.int a1), none, none, none, none]) (st' := [.int (-2 : Int32), .ref 0]) 2 rfl ?_
    obtain ⟨v2, M4, hv3, h⟩ := kx_bd_some h
    refine kx_q_callV (as := [.int (-2 : Int32)]) (rest := []) (M1 := M4) (rv := some (.int v2)) kmo_0 rfl klk_X5_89 kse_X5_no rfl rfl rfl rfl (Nat.le_of_ble_eq_true rfl) (Nat.le_of_ble_eq_true rfl) (c_X5_no (d := d + 10) (-2 : Int32) M v2 M4 hv3) ?_
    show kx_Rn _ _ _ (24, [some (.ref 0), some (.int a0), some (.int a1), none, none, none, none], [.int v2], M4) _ _
    cases h
    exact kx_r_iret rfl rfl
  · rw [if_pos hc1] at h
    refine kx_go (pc' := 12) (L' := [some (.ref 0), some (.int a0), some (.int a1), none, none, none, none]) (st' := [.int (1 : Int32), .int (0 : Int32), .int a1]) 3 rfl ?_
    refine kx_r_callS (as := [.int a1, .int (0 : Int32), .int (1 : Int32)]) (rest := []) (M1 := M) (rv := some (.int (kx_bi (f_X5_within a1 (0 : Int32) (1 : Int32))))) rfl klk_X5_78 kst_X5_within rfl rfl (Nat.le_of_ble_eq_true rfl) (Nat.le_of_ble_eq_true rfl) (c_X5_within (d := d + 10) a1 (0 : Int32) (1 : Int32) M (f_X5_within a1 (0 : Int32) (1 : Int32)) rfl) ?_
    show kx_Rn _ _ _ (15, [some (.ref 0), some (.int a0), some (.int a1), none, none, none, none], [.int (kx_bi (f_X5_within a1 (0 : Int32) (1 : Int32)))], M) _ _
    refine kx_q_zne rfl (fun hc5 => ?_) (fun hc5 => ?_)
    · rw [if_pos hc5] at h
      refine kx_go (pc' := 29) (L' := [some (.ref 0), some (.int a0), some (.int a1), none, none, none, none]) (st' := [.int (0 : Int32), .int a0, .int (0 : Int32), .ref 0]) 4 rfl ?_
      obtain ⟨v6, M8, hv7, h⟩ := kx_bd_some h
      refine kx_q_callV (as := [.int (0 : Int32), .int a0, .int (0 : Int32)]) (rest := []) (M1 := M8) (rv := some (.int v6)) kmo_0 rfl klk_X5_279 kse_X5_liftFrom rfl rfl rfl rfl (Nat.le_of_ble_eq_true rfl) (Nat.le_of_ble_eq_true rfl) (c_X5_liftFrom (d := d + 0) (0 : Int32) a0 (0 : Int32) M v6 M8 hv7) ?_
      show kx_Rn _ _ _ (32, [some (.ref 0), some (.int a0), some (.int a1), none, none, none, none], [.int v6], M8) _ _
      refine kx_go (pc' := 34) (L' := [some (.ref 0), some (.int a0), some (.int a1), some (.int v6), none, none, none]) (st' := [.int a1]) 2 rfl ?_
      refine kx_r_if_ne rfl (fun hc9 => ?_) (fun hc9 => ?_)
      · rw [if_neg hc9] at h
        refine kx_go (pc' := 40) (L' := [some (.ref 0), some (.int a0), some (.int a1), some (.int v6), none, none, none]) (st' := [.ref 0]) 1 rfl ?_
        refine kx_q_getR (k := 3) (j := 3) kmo_0 rfl kfl_X5_16 rfl ?_
        refine kx_go (pc' := 44) (L' := [some (.ref 0), some (.int a0), some (.int a1), some (.int v6), none, none, none]) (st' := [.int (0 : Int32), .ref 3]) 1 rfl ?_
        obtain ⟨hi10, h⟩ := kx_ck_some h
        refine kx_q_iald (kma_3) rfl hi10 ?_
        refine kx_go (pc' := 50) (L' := [some (.ref 0), some (.int a0), some (.int a1), some (.int v6), some (.int (M8.1 3 ((0 : Int32)).toNatClampNeg)), some (.int (0 : Int32)), none]) (st' := []) 3 rfl ?_
        refine kx_wk [true, true, false, true, true, true, false] ?_
        exact t_X5_lift_50 kx_fuel a0 v6 (M8.1 3 ((0 : Int32)).toNatClampNeg) (0 : Int32) M8 h
      · rw [if_pos hc9] at h
        refine kx_go (pc' := 38) (L' := [some (.ref 0), some (.int a0), some (.int a1), some (.int v6), none, none, none]) (st' := [.int v6]) 1 rfl ?_
        cases h
        exact kx_r_iret rfl rfl
    · rw [if_neg hc5] at h
      refine kx_go (pc' := 21) (L' := [some (.ref 0), some (.int a0), some (.int a1), none, none, none, none]) (st' := [.int (-2 : Int32), .ref 0]) 2 rfl ?_
      obtain ⟨v11, M13, hv12, h⟩ := kx_bd_some h
      refine kx_q_callV (as := [.int (-2 : Int32)]) (rest := []) (M1 := M13) (rv := some (.int v11)) kmo_0 rfl klk_X5_89 kse_X5_no rfl rfl rfl rfl (Nat.le_of_ble_eq_true rfl) (Nat.le_of_ble_eq_true rfl) (c_X5_no (d := d + 10) (-2 : Int32) M v11 M13 hv12) ?_
      show kx_Rn _ _ _ (24, [some (.ref 0), some (.int a0), some (.int a1), none, none, none, none], [.int v11], M13) _ _
      cases h
      exact kx_r_iret rfl rfl
theorem c_X5_lift {d : Nat} (a0 : Int32) (a1 : Int32) (M : kx_M) (r : Int32) (M' : kx_M) (h : f_X5_lift a0 a1 M = some (r, M')) : kx_Call EM (d + 11) T_X5_lift [.ref 0, .int a0, .int a1] M (some (.int r)) M' := kx_entry kok_X5_lift (Nat.le_of_ble_eq_true rfl) rfl (t_X5_lift (d := d) a0 a1 M h)
set_option maxRecDepth 100000 in
set_option maxHeartbeats 4000000 in
theorem t_X5_chance_36 {d : Nat} {r : Int32} {M' : kx_M} : ∀ (n : Nat) (x1 : Int32) (x2 : Int32) (x3 : Int32) (x4 : Int32) (x5 : Int32) (M : kx_M), f_X5_chance_36 n x1 x2 x3 x4 x5 M = some (r, M') → kx_Rn EM T_X5_chance (d + 5) (36, [some (.ref 0), some (.int x1), some (.int x2), some (.int x3), some (.int x4), some (.int x5)], [], M) (some (.int r)) M' := by
  intro n
  induction n with
  | zero =>
    intro x1 x2 x3 x4 x5 M h
    cases (show (none : Option (Int32 × kx_M)) = some _ from h)
  | succ n ih =>
    intro x1 x2 x3 x4 x5 M h
    rw [f_X5_chance_36.eq_2] at h
    refine kx_go (pc' := 40) (L' := [some (.ref 0), some (.int x1), some (.int x2), some (.int x3), some (.int x4), some (.int x5)]) (st' := [.int (20 : Int32), .int x5]) 2 rfl ?_
    refine kx_r_icmp_gt rfl (fun hc1 => ?_) (fun hc1 => ?_)
    · rw [if_pos hc1] at h
      refine kx_go (pc' := 73) (L' := [some (.ref 0), some (.int x1), some (.int x2), some (.int x3), some (.int x4), some (.int x5)]) (st' := [.ref 0]) 1 rfl ?_
      refine kx_q_getR (k := 7) (j := 6) kmo_0 rfl kfl_X5_25 rfl ?_
      refine kx_go (pc' := 78) (L' := [some (.ref 0), some (.int x1), some (.int x2), some (.int x3), some (.int x4), some (.int x5)]) (st' := [.int x3, .int x1, .ref 6]) 2 rfl ?_
      obtain ⟨hi2, h⟩ := kx_ck_some h
      refine kx_q_iast (kma_6) rfl hi2 ?_
      refine kx_r_ldc1 (v := 1000000) rfl kcs_X5_282 ?_
      refine kx_go (pc' := 87) (L' := [some (.ref 0), some (.int x1), some (.int x2), some (.int x3), some (.int x4), some (.int x5)]) (st' := [.int (21 : Int32), .int ((1000000 : Int32) * x4)]) 3 rfl ?_
      refine kx_r_idiv rfl (by decide) ?_
      cases h
      exact kx_r_iret rfl rfl
    · rw [if_neg hc1] at h
      refine kx_go (pc' := 44) (L' := [some (.ref 0), some (.int x1), some (.int x2), some (.int x3), some (.int x4), some (.int x5)]) (st' := [.ref 0]) 1 rfl ?_
      refine kx_q_getR (k := 7) (j := 6) kmo_0 rfl kfl_X5_25 rfl ?_
      refine kx_go (pc' := 50) (L' := [some (.ref 0), some (.int x1), some (.int x2), some (.int x3), some (.int x4), some (.int x5)]) (st' := [.int x5, .int x1, .ref 6]) 2 rfl ?_
      obtain ⟨hi3, h⟩ := kx_ck_some h
      refine kx_q_iast (kma_6) rfl hi3 ?_
      refine kx_go (pc' := 53) (L' := [some (.ref 0), some (.int x1), some (.int x2), some (.int x3), some (.int x4), some (.int x5)]) (st' := [.int x1, .ref 0]) 2 rfl ?_
      obtain ⟨v4, hv5, h⟩ := kx_bn_some h
      refine kx_q_callV (as := [.int x1]) (rest := []) (M1 := (kx_u1 M 6 (x1).toNatClampNeg x5)) (rv := some (.int v4)) kmo_0 rfl klk_X5_253 kse_X5_shownAlone rfl rfl rfl rfl (Nat.le_of_ble_eq_true rfl) (Nat.le_of_ble_eq_true rfl) (c_X5_shownAlone (d := d + 0) x1 (kx_u1 M 6 (x1).toNatClampNeg x5) v4 hv5) ?_
      show kx_Rn _ _ _ (56, [some (.ref 0), some (.int x1), some (.int x2), some (.int x3), some (.int x4), some (.int x5)], [.int v4], (kx_u1 M 6 (x1).toNatClampNeg x5)) _ _
      refine kx_go (pc' := 57) (L' := [some (.ref 0), some (.int x1), some (.int x2), some (.int x3), some (.int x4), some (.int x5)]) (st' := [.int x2, .int v4]) 1 rfl ?_
      refine kx_r_callS (as := [.int v4, .int x2]) (rest := []) (M1 := (kx_u1 M 6 (x1).toNatClampNeg x5)) (rv := some (.int (kx_bi (f_X5_has v4 x2)))) rfl klk_X5_199 kst_X5_has rfl rfl (Nat.le_of_ble_eq_true rfl) (Nat.le_of_ble_eq_true rfl) (c_X5_has (d := d + 4) v4 x2 (kx_u1 M 6 (x1).toNatClampNeg x5) (f_X5_has v4 x2) rfl) ?_
      show kx_Rn _ _ _ (60, [some (.ref 0), some (.int x1), some (.int x2), some (.int x3), some (.int x4), some (.int x5)], [.int (kx_bi (f_X5_has v4 x2))], (kx_u1 M 6 (x1).toNatClampNeg x5)) _ _
      refine kx_q_zeq rfl (fun hc6 => ?_) (fun hc6 => ?_)
      · rw [if_neg hc6] at h
        refine kx_go (pc' := 69) (L' := [some (.ref 0), some (.int x1), some (.int x2), some (.int x3), some (.int x4), some (.int (x5 + (1)))]) (st' := []) 1 rfl ?_
        refine kx_r_goto rfl ?_
        refine kx_wk [true, true, true, true, true, true] ?_
        exact ih x1 x2 x3 x4 (x5 + (1)) (kx_u1 M 6 (x1).toNatClampNeg x5) h
      · rw [if_pos hc6] at h
        refine kx_go (pc' := 69) (L' := [some (.ref 0), some (.int x1), some (.int x2), some (.int x3), some (.int (x4 + (1))), some (.int (x5 + (1)))]) (st' := []) 2 rfl ?_
        refine kx_r_goto rfl ?_
        refine kx_wk [true, true, true, true, true, true] ?_
        exact ih x1 x2 x3 (x4 + (1)) (x5 + (1)) (kx_u1 M 6 (x1).toNatClampNeg x5) h
set_option maxRecDepth 100000 in
set_option maxHeartbeats 4000000 in
theorem t_X5_chance {d : Nat} {r : Int32} {M' : kx_M} (a0 : Int32) (a1 : Int32) (M : kx_M) (h : f_X5_chance a0 a1 M = some (r, M')) : kx_Rn EM T_X5_chance (d + 5) (0, [some (.ref 0), some (.int a0), some (.int a1), none, none, none], [], M) (some (.int r)) M' := by
  unfold f_X5_chance at h
  refine kx_go (pc' := 2) (L' := [some (.ref 0), some (.int a0), some (.int a1), none, none, none]) (st' := [.int a0, .ref 0]) 2 rfl ?_
  refine kx_q_callV (as := [.int a0]) (rest := []) (M1 := M) (rv := some (.int (kx_bi (f_X5_isOne M a0)))) kmo_0 rfl klk_X5_103 kse_X5_isOne rfl rfl rfl rfl (Nat.le_of_ble_eq_true rfl) (Nat.le_of_ble_eq_true rfl) (c_X5_isOne (d := d + 3) a0 M (f_X5_isOne M a0) rfl) ?_
  show kx_Rn _ _ _ (5, [some (.ref 0), some (.int a0), some (.int a1), none, none, none], [.int (kx_bi (f_X5_isOne M a0))], M) _ _
  refine kx_q_zeq rfl (fun hc1 => ?_) (fun hc1 => ?_)
  · rw [if_neg hc1] at h
    refine kx_go (pc' := 19) (L' := [some (.ref 0), some (.int a0), some (.int a1), none, none, none]) (st' := [.int (-2 : Int32), .ref 0]) 2 rfl ?_
    obtain ⟨v2, M4, hv3, h⟩ := kx_bd_some h
    refine kx_q_callV (as := [.int (-2 : Int32)]) (rest := []) (M1 := M4) (rv := some (.int v2)) kmo_0 rfl klk_X5_89 kse_X5_no rfl rfl rfl rfl (Nat.le_of_ble_eq_true rfl) (Nat.le_of_ble_eq_true rfl) (c_X5_no (d := d + 4) (-2 : Int32) M v2 M4 hv3) ?_
    show kx_Rn _ _ _ (22, [some (.ref 0), some (.int a0), some (.int a1), none, none, none], [.int v2], M4) _ _
    cases h
    exact kx_r_iret rfl rfl
  · rw [if_pos hc1] at h
    refine kx_go (pc' := 10) (L' := [some (.ref 0), some (.int a0), some (.int a1), none, none, none]) (st' := [.int a1, .ref 0]) 2 rfl ?_
    refine kx_q_callV (as := [.int a1]) (rest := []) (M1 := M) (rv := some (.int (kx_bi (f_X5_isCell M a1)))) kmo_0 rfl klk_X5_120 kse_X5_isCell rfl rfl rfl rfl (Nat.le_of_ble_eq_true rfl) (Nat.le_of_ble_eq_true rfl) (c_X5_isCell (d := d + 3) a1 M (f_X5_isCell M a1) rfl) ?_
    show kx_Rn _ _ _ (13, [some (.ref 0), some (.int a0), some (.int a1), none, none, none], [.int (kx_bi (f_X5_isCell M a1))], M) _ _
    refine kx_q_zne rfl (fun hc5 => ?_) (fun hc5 => ?_)
    · rw [if_pos hc5] at h
      refine kx_go (pc' := 24) (L' := [some (.ref 0), some (.int a0), some (.int a1), none, none, none]) (st' := [.ref 0]) 1 rfl ?_
      refine kx_q_getR (k := 7) (j := 6) kmo_0 rfl kfl_X5_25 rfl ?_
      refine kx_go (pc' := 28) (L' := [some (.ref 0), some (.int a0), some (.int a1), none, none, none]) (st' := [.int a0, .ref 6]) 1 rfl ?_
      obtain ⟨hi6, h⟩ := kx_ck_some h
      refine kx_q_iald (kma_6) rfl hi6 ?_
      refine kx_go (pc' := 36) (L' := [some (.ref 0), some (.int a0), some (.int a1), some (.int (M.1 6 (a0).toNatClampNeg)), some (.int (0 : Int32)), some (.int (0 : Int32))]) (st' := []) 5 rfl ?_
      refine kx_wk [true, true, true, true, true, true] ?_
      exact t_X5_chance_36 kx_fuel a0 a1 (M.1 6 (a0).toNatClampNeg) (0 : Int32) (0 : Int32) M h
    · rw [if_neg hc5] at h
      refine kx_go (pc' := 19) (L' := [some (.ref 0), some (.int a0), some (.int a1), none, none, none]) (st' := [.int (-2 : Int32), .ref 0]) 2 rfl ?_
      obtain ⟨v7, M9, hv8, h⟩ := kx_bd_some h
      refine kx_q_callV (as := [.int (-2 : Int32)]) (rest := []) (M1 := M9) (rv := some (.int v7)) kmo_0 rfl klk_X5_89 kse_X5_no rfl rfl rfl rfl (Nat.le_of_ble_eq_true rfl) (Nat.le_of_ble_eq_true rfl) (c_X5_no (d := d + 4) (-2 : Int32) M v7 M9 hv8) ?_
      show kx_Rn _ _ _ (22, [some (.ref 0), some (.int a0), some (.int a1), none, none, none], [.int v7], M9) _ _
      cases h
      exact kx_r_iret rfl rfl
theorem c_X5_chance {d : Nat} (a0 : Int32) (a1 : Int32) (M : kx_M) (r : Int32) (M' : kx_M) (h : f_X5_chance a0 a1 M = some (r, M')) : kx_Call EM (d + 5) T_X5_chance [.ref 0, .int a0, .int a1] M (some (.int r)) M' := kx_entry kok_X5_chance (Nat.le_of_ble_eq_true rfl) rfl (t_X5_chance (d := d) a0 a1 M h)
set_option maxRecDepth 100000 in
set_option maxHeartbeats 4000000 in
theorem t_X5_mean_27 {d : Nat} {r : Int32} {M' : kx_M} : ∀ (n : Nat) (x1 : Int32) (x2 : Int32) (x3 : Int32) (x4 : Int32) (M : kx_M), f_X5_mean_27 n x1 x2 x3 x4 M = some (r, M') → kx_Rn EM T_X5_mean (d + 5) (27, [some (.ref 0), some (.int x1), some (.int x2), some (.int x3), some (.int x4)], [], M) (some (.int r)) M' := by
  intro n
  induction n with
  | zero =>
    intro x1 x2 x3 x4 M h
    cases (show (none : Option (Int32 × kx_M)) = some _ from h)
  | succ n ih =>
    intro x1 x2 x3 x4 M h
    rw [f_X5_mean_27.eq_2] at h
    refine kx_go (pc' := 31) (L' := [some (.ref 0), some (.int x1), some (.int x2), some (.int x3), some (.int x4)]) (st' := [.int (20 : Int32), .int x4]) 2 rfl ?_
    refine kx_r_icmp_gt rfl (fun hc1 => ?_) (fun hc1 => ?_)
    · rw [if_pos hc1] at h
      refine kx_go (pc' := 60) (L' := [some (.ref 0), some (.int x1), some (.int x2), some (.int x3), some (.int x4)]) (st' := [.ref 0]) 1 rfl ?_
      refine kx_q_getR (k := 7) (j := 6) kmo_0 rfl kfl_X5_25 rfl ?_
      refine kx_go (pc' := 65) (L' := [some (.ref 0), some (.int x1), some (.int x2), some (.int x3), some (.int x4)]) (st' := [.int x2, .int x1, .ref 6]) 2 rfl ?_
      obtain ⟨hi2, h⟩ := kx_ck_some h
      refine kx_q_iast (kma_6) rfl hi2 ?_
      refine kx_go (pc' := 73) (L' := [some (.ref 0), some (.int x1), some (.int x2), some (.int x3), some (.int x4)]) (st' := [.int (21 : Int32), .int ((1000 : Int32) * x3)]) 4 rfl ?_
      refine kx_r_idiv rfl (by decide) ?_
      cases h
      exact kx_r_iret rfl rfl
    · rw [if_neg hc1] at h
      refine kx_go (pc' := 35) (L' := [some (.ref 0), some (.int x1), some (.int x2), some (.int x3), some (.int x4)]) (st' := [.ref 0]) 1 rfl ?_
      refine kx_q_getR (k := 7) (j := 6) kmo_0 rfl kfl_X5_25 rfl ?_
      refine kx_go (pc' := 41) (L' := [some (.ref 0), some (.int x1), some (.int x2), some (.int x3), some (.int x4)]) (st' := [.int x4, .int x1, .ref 6]) 2 rfl ?_
      obtain ⟨hi3, h⟩ := kx_ck_some h
      refine kx_q_iast (kma_6) rfl hi3 ?_
      refine kx_go (pc' := 45) (L' := [some (.ref 0), some (.int x1), some (.int x2), some (.int x3), some (.int x4)]) (st' := [.int x1, .ref 0, .int x3]) 3 rfl ?_
      obtain ⟨v4, hv5, h⟩ := kx_bn_some h
      refine kx_q_callV (as := [.int x1]) (rest := [.int x3]) (M1 := (kx_u1 M 6 (x1).toNatClampNeg x4)) (rv := some (.int v4)) kmo_0 rfl klk_X5_253 kse_X5_shownAlone rfl rfl rfl rfl (Nat.le_of_ble_eq_true rfl) (Nat.le_of_ble_eq_true rfl) (c_X5_shownAlone (d := d + 0) x1 (kx_u1 M 6 (x1).toNatClampNeg x4) v4 hv5) ?_
      show kx_Rn _ _ _ (48, [some (.ref 0), some (.int x1), some (.int x2), some (.int x3), some (.int x4)], [.int v4, .int x3], (kx_u1 M 6 (x1).toNatClampNeg x4)) _ _
      refine kx_r_callS (as := [.int v4]) (rest := [.int x3]) (M1 := (kx_u1 M 6 (x1).toNatClampNeg x4)) (rv := some (.int (f_J6_bitCount_0f7a4 v4))) rfl klk_X5_194 kst_J6_bitCount_0f7a4 rfl rfl (Nat.le_of_ble_eq_true rfl) (Nat.le_of_ble_eq_true rfl) (c_J6_bitCount_0f7a4 (d := d + 4) v4 (kx_u1 M 6 (x1).toNatClampNeg x4) (f_J6_bitCount_0f7a4 v4) rfl) ?_
      show kx_Rn _ _ _ (51, [some (.ref 0), some (.int x1), some (.int x2), some (.int x3), some (.int x4)], [.int (f_J6_bitCount_0f7a4 v4), .int x3], (kx_u1 M 6 (x1).toNatClampNeg x4)) _ _
      refine kx_go (pc' := 56) (L' := [some (.ref 0), some (.int x1), some (.int x2), some (.int (x3 + (f_J6_bitCount_0f7a4 v4))), some (.int (x4 + (1)))]) (st' := []) 3 rfl ?_
      refine kx_r_goto rfl ?_
      refine kx_wk [true, true, true, true, true] ?_
      exact ih x1 x2 (x3 + (f_J6_bitCount_0f7a4 v4)) (x4 + (1)) (kx_u1 M 6 (x1).toNatClampNeg x4) h
set_option maxRecDepth 100000 in
set_option maxHeartbeats 4000000 in
theorem t_X5_mean {d : Nat} {r : Int32} {M' : kx_M} (a0 : Int32) (M : kx_M) (h : f_X5_mean a0 M = some (r, M')) : kx_Rn EM T_X5_mean (d + 5) (0, [some (.ref 0), some (.int a0), none, none, none], [], M) (some (.int r)) M' := by
  unfold f_X5_mean at h
  refine kx_go (pc' := 2) (L' := [some (.ref 0), some (.int a0), none, none, none]) (st' := [.int a0, .ref 0]) 2 rfl ?_
  refine kx_q_callV (as := [.int a0]) (rest := []) (M1 := M) (rv := some (.int (kx_bi (f_X5_isOne M a0)))) kmo_0 rfl klk_X5_103 kse_X5_isOne rfl rfl rfl rfl (Nat.le_of_ble_eq_true rfl) (Nat.le_of_ble_eq_true rfl) (c_X5_isOne (d := d + 3) a0 M (f_X5_isOne M a0) rfl) ?_
  show kx_Rn _ _ _ (5, [some (.ref 0), some (.int a0), none, none, none], [.int (kx_bi (f_X5_isOne M a0))], M) _ _
  refine kx_q_zne rfl (fun hc1 => ?_) (fun hc1 => ?_)
  · rw [if_pos hc1] at h
    refine kx_go (pc' := 16) (L' := [some (.ref 0), some (.int a0), none, none, none]) (st' := [.ref 0]) 1 rfl ?_
    refine kx_q_getR (k := 7) (j := 6) kmo_0 rfl kfl_X5_25 rfl ?_
    refine kx_go (pc' := 20) (L' := [some (.ref 0), some (.int a0), none, none, none]) (st' := [.int a0, .ref 6]) 1 rfl ?_
    obtain ⟨hi2, h⟩ := kx_ck_some h
    refine kx_q_iald (kma_6) rfl hi2 ?_
    refine kx_go (pc' := 27) (L' := [some (.ref 0), some (.int a0), some (.int (M.1 6 (a0).toNatClampNeg)), some (.int (0 : Int32)), some (.int (0 : Int32))]) (st' := []) 5 rfl ?_
    refine kx_wk [true, true, true, true, true] ?_
    exact t_X5_mean_27 kx_fuel a0 (M.1 6 (a0).toNatClampNeg) (0 : Int32) (0 : Int32) M h
  · rw [if_neg hc1] at h
    refine kx_go (pc' := 11) (L' := [some (.ref 0), some (.int a0), none, none, none]) (st' := [.int (-2 : Int32), .ref 0]) 2 rfl ?_
    obtain ⟨v3, M5, hv4, h⟩ := kx_bd_some h
    refine kx_q_callV (as := [.int (-2 : Int32)]) (rest := []) (M1 := M5) (rv := some (.int v3)) kmo_0 rfl klk_X5_89 kse_X5_no rfl rfl rfl rfl (Nat.le_of_ble_eq_true rfl) (Nat.le_of_ble_eq_true rfl) (c_X5_no (d := d + 4) (-2 : Int32) M v3 M5 hv4) ?_
    show kx_Rn _ _ _ (14, [some (.ref 0), some (.int a0), none, none, none], [.int v3], M5) _ _
    cases h
    exact kx_r_iret rfl rfl
theorem c_X5_mean {d : Nat} (a0 : Int32) (M : kx_M) (r : Int32) (M' : kx_M) (h : f_X5_mean a0 M = some (r, M')) : kx_Call EM (d + 5) T_X5_mean [.ref 0, .int a0] M (some (.int r)) M' := kx_entry kok_X5_mean (Nat.le_of_ble_eq_true rfl) rfl (t_X5_mean (d := d) a0 M h)
set_option maxRecDepth 100000 in
set_option maxHeartbeats 4000000 in
theorem t_X5_hidden_11 {d : Nat} {r : Int32} (M : kx_M) : ∀ (n : Nat) (x1 : Int32) (x2 : Int32), f_X5_hidden_11 M n x1 x2 = some r → kx_Rn EM T_X5_hidden (d + 5) (11, [some (.ref 0), some (.int x1), some (.int x2)], [], M) (some (.int r)) M := by
  intro n
  induction n with
  | zero =>
    intro x1 x2 h
    cases (show (none : Option Int32) = some _ from h)
  | succ n ih =>
    intro x1 x2 h
    rw [f_X5_hidden_11.eq_2] at h
    refine kx_go (pc' := 13) (L' := [some (.ref 0), some (.int x1), some (.int x2)]) (st' := [.ref 0, .int x2]) 2 rfl ?_
    refine kx_q_getI (k := 4) kmo_0 rfl kfl_X5_82 rfl ?_
    refine kx_r_icmp_ge rfl (fun hc1 => ?_) (fun hc1 => ?_)
    · rw [if_pos hc1] at h
      refine kx_go (pc' := 36) (L' := [some (.ref 0), some (.int x1), some (.int x2)]) (st' := [.int x1]) 1 rfl ?_
      cases h
      exact kx_r_iret rfl rfl
    · rw [if_neg hc1] at h
      refine kx_go (pc' := 22) (L' := [some (.ref 0), some (.int x1), some (.int x2)]) (st' := [.int x2, .ref 0, .int x1]) 3 rfl ?_
      obtain ⟨v2, hv3, h⟩ := kx_bn_some h
      refine kx_q_callV (as := [.int x2]) (rest := [.int x1]) (M1 := M) (rv := some (.int v2)) kmo_0 rfl klk_X5_253 kse_X5_shownAlone rfl rfl rfl rfl (Nat.le_of_ble_eq_true rfl) (Nat.le_of_ble_eq_true rfl) (c_X5_shownAlone (d := d + 0) x2 M v2 hv3) ?_
      show kx_Rn _ _ _ (25, [some (.ref 0), some (.int x1), some (.int x2)], [.int v2, .int x1], M) _ _
      refine kx_go (pc' := 32) (L' := [some (.ref 0), some (.int (x1 &&& (v2 ^^^ (-1 : Int32)))), some (.int (x2 + (1)))]) (st' := []) 5 rfl ?_
      refine kx_r_goto rfl ?_
      refine kx_wk [true, true, true] ?_
      exact ih (x1 &&& (v2 ^^^ (-1 : Int32))) (x2 + (1)) h
set_option maxRecDepth 100000 in
set_option maxHeartbeats 4000000 in
theorem t_X5_hidden {d : Nat} {r : Int32} (M : kx_M) (h : f_X5_hidden M = some r) : kx_Rn EM T_X5_hidden (d + 5) (0, [some (.ref 0), none, none], [], M) (some (.int r)) M := by
  unfold f_X5_hidden at h
  refine kx_go (pc' := 2) (L' := [some (.ref 0), none, none]) (st' := [.ref 0, .int (1 : Int32)]) 2 rfl ?_
  refine kx_q_getI (k := 0) kmo_0 rfl kfl_X5_65 rfl ?_
  refine kx_go (pc' := 11) (L' := [some (.ref 0), some (.int (((1 : Int32) <<< ((M.1 0 0) &&& 31)) - (1 : Int32))), some (.int (0 : Int32))]) (st' := []) 6 rfl ?_
  refine kx_wk [true, true, true] ?_
  exact t_X5_hidden_11 M kx_fuel (((1 : Int32) <<< ((M.1 0 0) &&& 31)) - (1 : Int32)) (0 : Int32) h
theorem c_X5_hidden {d : Nat} (M : kx_M) (r : Int32) (h : f_X5_hidden M = some r) : kx_Call EM (d + 5) T_X5_hidden [.ref 0] M (some (.int r)) M := kx_entry kok_X5_hidden (Nat.le_of_ble_eq_true rfl) rfl (t_X5_hidden (d := d) M h)
set_option maxRecDepth 100000 in
set_option maxHeartbeats 4000000 in
theorem t_X5_best_34 {d : Nat} {r : Int32} {M' : kx_M} : ∀ (n : Nat) (x1 : Int32) (x2 : Int32) (x3 : Int32) (M : kx_M), f_X5_best_34 n x1 x2 x3 M = some (r, M') → kx_Rn EM T_X5_best (d + 5) (34, [some (.ref 0), some (.int x1), some (.int x2), some (.int x3)], [], M) (some (.int r)) M' := by
  intro n
  induction n with
  | zero =>
    intro x1 x2 x3 M h
    cases (show (none : Option (Int32 × kx_M)) = some _ from h)
  | succ n ih =>
    intro x1 x2 x3 M h
    rw [f_X5_best_34.eq_2] at h
    refine kx_go (pc' := 36) (L' := [some (.ref 0), some (.int x1), some (.int x2), some (.int x3)]) (st' := [.ref 0, .int x3]) 2 rfl ?_
    refine kx_q_getI (k := 4) kmo_0 rfl kfl_X5_82 rfl ?_
    refine kx_r_icmp_ge rfl (fun hc1 => ?_) (fun hc1 => ?_)
    · rw [if_pos hc1] at h
      refine kx_go (pc' := 70) (L' := [some (.ref 0), some (.int x1), some (.int x2), some (.int x3)]) (st' := [.int x1]) 1 rfl ?_
      refine kx_r_if_ne rfl (fun hc2 => ?_) (fun hc2 => ?_)
      · rw [if_neg hc2] at h
        refine kx_go (pc' := 79) (L' := [some (.ref 0), some (.int x1), some (.int x2), some (.int x3)]) (st' := [.int x2, .ref 0]) 2 rfl ?_
        obtain ⟨v3, hv4, h⟩ := kx_bn_some h
        refine kx_q_callV (as := [.int x2]) (rest := []) (M1 := M) (rv := some (.int v3)) kmo_0 rfl klk_X5_253 kse_X5_shownAlone rfl rfl rfl rfl (Nat.le_of_ble_eq_true rfl) (Nat.le_of_ble_eq_true rfl) (c_X5_shownAlone (d := d + 0) x2 M v3 hv4) ?_
        show kx_Rn _ _ _ (82, [some (.ref 0), some (.int x1), some (.int x2), some (.int x3)], [.int v3], M) _ _
        refine kx_r_callS (as := [.int v3]) (rest := []) (M1 := M) (rv := some (.int (f_J6_bitCount_0f7a4 v3))) rfl klk_X5_194 kst_J6_bitCount_0f7a4 rfl rfl (Nat.le_of_ble_eq_true rfl) (Nat.le_of_ble_eq_true rfl) (c_J6_bitCount_0f7a4 (d := d + 4) v3 M (f_J6_bitCount_0f7a4 v3) rfl) ?_
        show kx_Rn _ _ _ (85, [some (.ref 0), some (.int x1), some (.int x2), some (.int x3)], [.int (f_J6_bitCount_0f7a4 v3)], M) _ _
        cases h
        exact kx_r_iret rfl rfl
      · rw [if_pos hc2] at h
        refine kx_go (pc' := 74) (L' := [some (.ref 0), some (.int x1), some (.int x2), some (.int x3)]) (st' := [.int x2]) 1 rfl ?_
        refine kx_r_goto rfl ?_
        cases h
        exact kx_r_iret rfl rfl
    · rw [if_neg hc1] at h
      refine kx_go (pc' := 44) (L' := [some (.ref 0), some (.int x1), some (.int x2), some (.int x3)]) (st' := [.int x3, .ref 0]) 2 rfl ?_
      obtain ⟨v5, hv6, h⟩ := kx_bn_some h
      refine kx_q_callV (as := [.int x3]) (rest := []) (M1 := M) (rv := some (.int v5)) kmo_0 rfl klk_X5_253 kse_X5_shownAlone rfl rfl rfl rfl (Nat.le_of_ble_eq_true rfl) (Nat.le_of_ble_eq_true rfl) (c_X5_shownAlone (d := d + 0) x3 M v5 hv6) ?_
      show kx_Rn _ _ _ (47, [some (.ref 0), some (.int x1), some (.int x2), some (.int x3)], [.int v5], M) _ _
      refine kx_r_callS (as := [.int v5]) (rest := []) (M1 := M) (rv := some (.int (f_J6_bitCount_0f7a4 v5))) rfl klk_X5_194 kst_J6_bitCount_0f7a4 rfl rfl (Nat.le_of_ble_eq_true rfl) (Nat.le_of_ble_eq_true rfl) (c_J6_bitCount_0f7a4 (d := d + 4) v5 M (f_J6_bitCount_0f7a4 v5) rfl) ?_
      show kx_Rn _ _ _ (50, [some (.ref 0), some (.int x1), some (.int x2), some (.int x3)], [.int (f_J6_bitCount_0f7a4 v5)], M) _ _
      refine kx_go (pc' := 52) (L' := [some (.ref 0), some (.int x1), some (.int x2), some (.int x3)]) (st' := [.int x2, .ref 0, .int (f_J6_bitCount_0f7a4 v5)]) 2 rfl ?_
      obtain ⟨v7, hv8, h⟩ := kx_bn_some h
      refine kx_q_callV (as := [.int x2]) (rest := [.int (f_J6_bitCount_0f7a4 v5)]) (M1 := M) (rv := some (.int v7)) kmo_0 rfl klk_X5_253 kse_X5_shownAlone rfl rfl rfl rfl (Nat.le_of_ble_eq_true rfl) (Nat.le_of_ble_eq_true rfl) (c_X5_shownAlone (d := d + 0) x2 M v7 hv8) ?_
      show kx_Rn _ _ _ (55, [some (.ref 0), some (.int x1), some (.int x2), some (.int x3)], [.int v7, .int (f_J6_bitCount_0f7a4 v5)], M) _ _
      refine kx_r_callS (as := [.int v7]) (rest := [.int (f_J6_bitCount_0f7a4 v5)]) (M1 := M) (rv := some (.int (f_J6_bitCount_0f7a4 v7))) rfl klk_X5_194 kst_J6_bitCount_0f7a4 rfl rfl (Nat.le_of_ble_eq_true rfl) (Nat.le_of_ble_eq_true rfl) (c_J6_bitCount_0f7a4 (d := d + 4) v7 M (f_J6_bitCount_0f7a4 v7) rfl) ?_
      show kx_Rn _ _ _ (58, [some (.ref 0), some (.int x1), some (.int x2), some (.int x3)], [.int (f_J6_bitCount_0f7a4 v7), .int (f_J6_bitCount_0f7a4 v5)], M) _ _
      refine kx_r_icmp_le rfl (fun hc9 => ?_) (fun hc9 => ?_)
      · rw [if_pos hc9] at h
        refine kx_go (pc' := 66) (L' := [some (.ref 0), some (.int x1), some (.int x2), some (.int (x3 + (1)))]) (st' := []) 1 rfl ?_
        refine kx_r_goto rfl ?_
        refine kx_wk [true, true, true, true] ?_
        exact ih x1 x2 (x3 + (1)) M h
      · rw [if_neg hc9] at h
        refine kx_go (pc' := 66) (L' := [some (.ref 0), some (.int x1), some (.int x3), some (.int (x3 + (1)))]) (st' := []) 3 rfl ?_
        refine kx_r_goto rfl ?_
        refine kx_wk [true, true, true, true] ?_
        exact ih x1 x3 (x3 + (1)) M h
set_option maxRecDepth 100000 in
set_option maxHeartbeats 4000000 in
theorem t_X5_best {d : Nat} {r : Int32} {M' : kx_M} (a0 : Int32) (M : kx_M) (h : f_X5_best a0 M = some (r, M')) : kx_Rn EM T_X5_best (d + 5) (0, [some (.ref 0), some (.int a0), none, none], [], M) (some (.int r)) M' := by
  unfold f_X5_best at h
  refine kx_go (pc' := 3) (L' := [some (.ref 0), some (.int a0), none, none]) (st' := [.int (1 : Int32), .int (0 : Int32), .int a0]) 3 rfl ?_
  refine kx_r_callS (as := [.int a0, .int (0 : Int32), .int (1 : Int32)]) (rest := []) (M1 := M) (rv := some (.int (kx_bi (f_X5_within a0 (0 : Int32) (1 : Int32))))) rfl klk_X5_78 kst_X5_within rfl rfl (Nat.le_of_ble_eq_true rfl) (Nat.le_of_ble_eq_true rfl) (c_X5_within (d := d + 4) a0 (0 : Int32) (1 : Int32) M (f_X5_within a0 (0 : Int32) (1 : Int32)) rfl) ?_
  show kx_Rn _ _ _ (6, [some (.ref 0), some (.int a0), none, none], [.int (kx_bi (f_X5_within a0 (0 : Int32) (1 : Int32)))], M) _ _
  refine kx_q_zne rfl (fun hc1 => ?_) (fun hc1 => ?_)
  · rw [if_pos hc1] at h
    refine kx_go (pc' := 17) (L' := [some (.ref 0), some (.int a0), none, none]) (st' := [.ref 0]) 1 rfl ?_
    refine kx_q_getI (k := 4) kmo_0 rfl kfl_X5_82 rfl ?_
    refine kx_r_if_ne rfl (fun hc2 => ?_) (fun hc2 => ?_)
    · rw [if_neg hc2] at h
      refine kx_go (pc' := 34) (L' := [some (.ref 0), some (.int a0), some (.int (0 : Int32)), some (.int (1 : Int32))]) (st' := []) 4 rfl ?_
      refine kx_wk [true, true, true, true] ?_
      exact t_X5_best_34 kx_fuel a0 (0 : Int32) (1 : Int32) M h
    · rw [if_pos hc2] at h
      refine kx_go (pc' := 26) (L' := [some (.ref 0), some (.int a0), none, none]) (st' := [.int (-5 : Int32), .ref 0]) 2 rfl ?_
      obtain ⟨v3, M5, hv4, h⟩ := kx_bd_some h
      refine kx_q_callV (as := [.int (-5 : Int32)]) (rest := []) (M1 := M5) (rv := some (.int v3)) kmo_0 rfl klk_X5_89 kse_X5_no rfl rfl rfl rfl (Nat.le_of_ble_eq_true rfl) (Nat.le_of_ble_eq_true rfl) (c_X5_no (d := d + 4) (-5 : Int32) M v3 M5 hv4) ?_
      show kx_Rn _ _ _ (29, [some (.ref 0), some (.int a0), none, none], [.int v3], M5) _ _
      cases h
      exact kx_r_iret rfl rfl
  · rw [if_neg hc1] at h
    refine kx_go (pc' := 12) (L' := [some (.ref 0), some (.int a0), none, none]) (st' := [.int (-2 : Int32), .ref 0]) 2 rfl ?_
    obtain ⟨v6, M8, hv7, h⟩ := kx_bd_some h
    refine kx_q_callV (as := [.int (-2 : Int32)]) (rest := []) (M1 := M8) (rv := some (.int v6)) kmo_0 rfl klk_X5_89 kse_X5_no rfl rfl rfl rfl (Nat.le_of_ble_eq_true rfl) (Nat.le_of_ble_eq_true rfl) (c_X5_no (d := d + 4) (-2 : Int32) M v6 M8 hv7) ?_
    show kx_Rn _ _ _ (15, [some (.ref 0), some (.int a0), none, none], [.int v6], M8) _ _
    cases h
    exact kx_r_iret rfl rfl
theorem c_X5_best {d : Nat} (a0 : Int32) (M : kx_M) (r : Int32) (M' : kx_M) (h : f_X5_best a0 M = some (r, M')) : kx_Call EM (d + 5) T_X5_best [.ref 0, .int a0] M (some (.int r)) M' := kx_entry kok_X5_best (Nat.le_of_ble_eq_true rfl) rfl (t_X5_best (d := d) a0 M h)
set_option maxRecDepth 100000 in
set_option maxHeartbeats 4000000 in
theorem t_X5_mate_57 {d : Nat} {r : Int32} {M' : kx_M} (k22 : Int32 → Int32 → Int32 → Int32 → kx_M → Option (Int32 × kx_M)) (hk22 : ∀ (x1 : Int32) (x2 : Int32) (x3 : Int32) (x4 : Int32) (M : kx_M), k22 x1 x2 x3 x4 M = some (r, M') → kx_Rn EM T_X5_mate (d + 4) (22, [some (.ref 0), some (.int x1), some (.int x2), some (.int x3), some (.int x4), none], [], M) (some (.int r)) M') (x1 : Int32) (x2 : Int32) (x3 : Int32) (x4 : Int32) (s0 : Int32) (M : kx_M) (h : f_X5_mate_57 k22 x1 x2 x3 x4 s0 M = some (r, M')) : kx_Rn EM T_X5_mate (d + 4) (57, [some (.ref 0), some (.int x1), some (.int x2), some (.int x3), some (.int x4), none], [.int s0], M) (some (.int r)) M' := by
  unfold f_X5_mate_57 at h
  refine kx_go (pc' := 62) (L' := [some (.ref 0), some (.int x1), some (.int x2), some (.int x3), some (.int x4), some (.int s0)]) (st' := [.int x3, .int s0]) 3 rfl ?_
  refine kx_r_icmp_gt rfl (fun hc1 => ?_) (fun hc1 => ?_)
  · rw [if_pos hc1] at h
    refine kx_go (pc' := 77) (L' := [some (.ref 0), some (.int x1), some (.int x4), some (.int s0), some (.int (x4 + (1))), some (.int s0)]) (st' := []) 5 rfl ?_
    refine kx_r_goto rfl ?_
    refine kx_wk [true, true, true, true, true, false] ?_
    exact hk22 x1 x4 s0 (x4 + (1)) M h
  · rw [if_neg hc1] at h
    refine kx_r_goto rfl ?_
    refine kx_go (pc' := 77) (L' := [some (.ref 0), some (.int x1), some (.int x2), some (.int x3), some (.int (x4 + (1))), some (.int s0)]) (st' := []) 1 rfl ?_
    refine kx_r_goto rfl ?_
    refine kx_wk [true, true, true, true, true, false] ?_
    exact hk22 x1 x2 x3 (x4 + (1)) M h
set_option maxRecDepth 100000 in
set_option maxHeartbeats 4000000 in
theorem t_X5_mate_22 {d : Nat} {r : Int32} {M' : kx_M} : ∀ (n : Nat) (x1 : Int32) (x2 : Int32) (x3 : Int32) (x4 : Int32) (M : kx_M), f_X5_mate_22 n x1 x2 x3 x4 M = some (r, M') → kx_Rn EM T_X5_mate (d + 4) (22, [some (.ref 0), some (.int x1), some (.int x2), some (.int x3), some (.int x4), none], [], M) (some (.int r)) M' := by
  intro n
  induction n with
  | zero =>
    intro x1 x2 x3 x4 M h
    cases (show (none : Option (Int32 × kx_M)) = some _ from h)
  | succ n ih =>
    intro x1 x2 x3 x4 M h
    rw [f_X5_mate_22.eq_2] at h
    refine kx_go (pc' := 25) (L' := [some (.ref 0), some (.int x1), some (.int x2), some (.int x3), some (.int x4), none]) (st' := [.ref 0, .int x4]) 2 rfl ?_
    refine kx_q_getI (k := 4) kmo_0 rfl kfl_X5_82 rfl ?_
    refine kx_r_icmp_ge rfl (fun hc1 => ?_) (fun hc1 => ?_)
    · rw [if_pos hc1] at h
      refine kx_go (pc' := 81) (L' := [some (.ref 0), some (.int x1), some (.int x2), some (.int x3), some (.int x4), none]) (st' := [.int x2]) 1 rfl ?_
      cases h
      exact kx_r_iret rfl rfl
    · rw [if_neg hc1] at h
      refine kx_go (pc' := 34) (L' := [some (.ref 0), some (.int x1), some (.int x2), some (.int x3), some (.int x4), none]) (st' := [.int x1, .int x4]) 2 rfl ?_
      refine kx_r_icmp_ne rfl (fun hc2 => ?_) (fun hc2 => ?_)
      · rw [if_neg hc2] at h
        refine kx_go (pc' := 51) (L' := [some (.ref 0), some (.int x1), some (.int x2), some (.int x3), some (.int x4), none]) (st' := [.int (((1 : Int32) <<< (x1 &&& 31)) ||| ((1 : Int32) <<< (x4 &&& 31))), .int x1, .ref 0]) 9 rfl ?_
        obtain ⟨v3, hv4, h⟩ := kx_bn_some h
        refine kx_q_callV (as := [.int x1, .int (((1 : Int32) <<< (x1 &&& 31)) ||| ((1 : Int32) <<< (x4 &&& 31)))]) (rest := []) (M1 := M) (rv := some (.int v3)) kmo_0 rfl klk_X5_215 kse_X5_shownTo rfl rfl rfl rfl (Nat.le_of_ble_eq_true rfl) (Nat.le_of_ble_eq_true rfl) (c_X5_shownTo (d := d + 0) x1 (((1 : Int32) <<< (x1 &&& 31)) ||| ((1 : Int32) <<< (x4 &&& 31))) M v3 hv4) ?_
        show kx_Rn _ _ _ (54, [some (.ref 0), some (.int x1), some (.int x2), some (.int x3), some (.int x4), none], [.int v3], M) _ _
        refine kx_r_callS (as := [.int v3]) (rest := []) (M1 := M) (rv := some (.int (f_J6_bitCount_0f7a4 v3))) rfl klk_X5_194 kst_J6_bitCount_0f7a4 rfl rfl (Nat.le_of_ble_eq_true rfl) (Nat.le_of_ble_eq_true rfl) (c_J6_bitCount_0f7a4 (d := d + 3) v3 M (f_J6_bitCount_0f7a4 v3) rfl) ?_
        show kx_Rn _ _ _ (57, [some (.ref 0), some (.int x1), some (.int x2), some (.int x3), some (.int x4), none], [.int (f_J6_bitCount_0f7a4 v3)], M) _ _
        refine kx_wk [true, true, true, true, true, false] ?_
        exact t_X5_mate_57 (f_X5_mate_22 n) ih x1 x2 x3 x4 (f_J6_bitCount_0f7a4 v3) M h
      · rw [if_pos hc2] at h
        refine kx_go (pc' := 38) (L' := [some (.ref 0), some (.int x1), some (.int x2), some (.int x3), some (.int x4), none]) (st' := [.int (-1 : Int32)]) 1 rfl ?_
        refine kx_r_goto rfl ?_
        refine kx_wk [true, true, true, true, true, false] ?_
        exact t_X5_mate_57 (f_X5_mate_22 n) ih x1 x2 x3 x4 (-1 : Int32) M h
set_option maxRecDepth 100000 in
set_option maxHeartbeats 4000000 in
theorem t_X5_mate {d : Nat} {r : Int32} {M' : kx_M} (a0 : Int32) (M : kx_M) (h : f_X5_mate a0 M = some (r, M')) : kx_Rn EM T_X5_mate (d + 4) (0, [some (.ref 0), some (.int a0), none, none, none, none], [], M) (some (.int r)) M' := by
  unfold f_X5_mate at h
  refine kx_go (pc' := 2) (L' := [some (.ref 0), some (.int a0), none, none, none, none]) (st' := [.int a0, .ref 0]) 2 rfl ?_
  refine kx_q_callV (as := [.int a0]) (rest := []) (M1 := M) (rv := some (.int (kx_bi (f_X5_isOne M a0)))) kmo_0 rfl klk_X5_103 kse_X5_isOne rfl rfl rfl rfl (Nat.le_of_ble_eq_true rfl) (Nat.le_of_ble_eq_true rfl) (c_X5_isOne (d := d + 2) a0 M (f_X5_isOne M a0) rfl) ?_
  show kx_Rn _ _ _ (5, [some (.ref 0), some (.int a0), none, none, none, none], [.int (kx_bi (f_X5_isOne M a0))], M) _ _
  refine kx_q_zne rfl (fun hc1 => ?_) (fun hc1 => ?_)
  · rw [if_pos hc1] at h
    refine kx_go (pc' := 22) (L' := [some (.ref 0), some (.int a0), some (.int (-1 : Int32)), some (.int (-1 : Int32)), some (.int (0 : Int32)), none]) (st' := []) 6 rfl ?_
    refine kx_wk [true, true, true, true, true, false] ?_
    exact t_X5_mate_22 kx_fuel a0 (-1 : Int32) (-1 : Int32) (0 : Int32) M h
  · rw [if_neg hc1] at h
    refine kx_go (pc' := 11) (L' := [some (.ref 0), some (.int a0), none, none, none, none]) (st' := [.int (-2 : Int32), .ref 0]) 2 rfl ?_
    obtain ⟨v2, M4, hv3, h⟩ := kx_bd_some h
    refine kx_q_callV (as := [.int (-2 : Int32)]) (rest := []) (M1 := M4) (rv := some (.int v2)) kmo_0 rfl klk_X5_89 kse_X5_no rfl rfl rfl rfl (Nat.le_of_ble_eq_true rfl) (Nat.le_of_ble_eq_true rfl) (c_X5_no (d := d + 3) (-2 : Int32) M v2 M4 hv3) ?_
    show kx_Rn _ _ _ (14, [some (.ref 0), some (.int a0), none, none, none, none], [.int v2], M4) _ _
    cases h
    exact kx_r_iret rfl rfl
theorem c_X5_mate {d : Nat} (a0 : Int32) (M : kx_M) (r : Int32) (M' : kx_M) (h : f_X5_mate a0 M = some (r, M')) : kx_Call EM (d + 4) T_X5_mate [.ref 0, .int a0] M (some (.int r)) M' := kx_entry kok_X5_mate (Nat.le_of_ble_eq_true rfl) rfl (t_X5_mate (d := d) a0 M h)
set_option maxRecDepth 100000 in
set_option maxHeartbeats 4000000 in
theorem t_X5_rarest_20 {d : Nat} {r : Int32} {M' : kx_M} : ∀ (n : Nat) (x1 : Int32) (x2 : Int32) (x3 : Int32) (M : kx_M), f_X5_rarest_20 n x1 x2 x3 M = some (r, M') → kx_Rn EM T_X5_rarest (d + 2) (20, [some (.ref 0), some (.int x1), some (.int x2), some (.int x3), none], [], M) (some (.int r)) M' := by
  intro n
  induction n with
  | zero =>
    intro x1 x2 x3 M h
    cases (show (none : Option (Int32 × kx_M)) = some _ from h)
  | succ n ih =>
    intro x1 x2 x3 M h
    rw [f_X5_rarest_20.eq_2] at h
    refine kx_go (pc' := 22) (L' := [some (.ref 0), some (.int x1), some (.int x2), some (.int x3), none]) (st' := [.ref 0, .int x3]) 2 rfl ?_
    refine kx_q_getI (k := 0) kmo_0 rfl kfl_X5_65 rfl ?_
    refine kx_r_icmp_ge rfl (fun hc1 => ?_) (fun hc1 => ?_)
    · rw [if_pos hc1] at h
      refine kx_go (pc' := 73) (L' := [some (.ref 0), some (.int x1), some (.int x2), some (.int x3), none]) (st' := [.int x2]) 1 rfl ?_
      cases h
      exact kx_r_iret rfl rfl
    · rw [if_neg hc1] at h
      refine kx_go (pc' := 30) (L' := [some (.ref 0), some (.int x1), some (.int x2), some (.int x3), none]) (st' := [.int x3, .ref 0]) 2 rfl ?_
      obtain ⟨v2, hv3, h⟩ := kx_bn_some h
      refine kx_q_callV (as := [.int x3]) (rest := []) (M1 := M) (rv := some (.int v2)) kmo_0 rfl klk_X5_202 kse_X5_seenBy rfl rfl rfl rfl (Nat.le_of_ble_eq_true rfl) (Nat.le_of_ble_eq_true rfl) (c_X5_seenBy (d := d + 0) x3 M v2 hv3) ?_
      show kx_Rn _ _ _ (33, [some (.ref 0), some (.int x1), some (.int x2), some (.int x3), none], [.int v2], M) _ _
      refine kx_r_callS (as := [.int v2]) (rest := []) (M1 := M) (rv := some (.int (f_J6_bitCount_0f7a4 v2))) rfl klk_X5_194 kst_J6_bitCount_0f7a4 rfl rfl (Nat.le_of_ble_eq_true rfl) (Nat.le_of_ble_eq_true rfl) (c_J6_bitCount_0f7a4 (d := d + 1) v2 M (f_J6_bitCount_0f7a4 v2) rfl) ?_
      show kx_Rn _ _ _ (36, [some (.ref 0), some (.int x1), some (.int x2), some (.int x3), none], [.int (f_J6_bitCount_0f7a4 v2)], M) _ _
      refine kx_go (pc' := 38) (L' := [some (.ref 0), some (.int x1), some (.int x2), some (.int x3), none]) (st' := [.int x2, .ref 0, .int (f_J6_bitCount_0f7a4 v2)]) 2 rfl ?_
      obtain ⟨v4, hv5, h⟩ := kx_bn_some h
      refine kx_q_callV (as := [.int x2]) (rest := [.int (f_J6_bitCount_0f7a4 v2)]) (M1 := M) (rv := some (.int v4)) kmo_0 rfl klk_X5_202 kse_X5_seenBy rfl rfl rfl rfl (Nat.le_of_ble_eq_true rfl) (Nat.le_of_ble_eq_true rfl) (c_X5_seenBy (d := d + 0) x2 M v4 hv5) ?_
      show kx_Rn _ _ _ (41, [some (.ref 0), some (.int x1), some (.int x2), some (.int x3), none], [.int v4, .int (f_J6_bitCount_0f7a4 v2)], M) _ _
      refine kx_r_callS (as := [.int v4]) (rest := [.int (f_J6_bitCount_0f7a4 v2)]) (M1 := M) (rv := some (.int (f_J6_bitCount_0f7a4 v4))) rfl klk_X5_194 kst_J6_bitCount_0f7a4 rfl rfl (Nat.le_of_ble_eq_true rfl) (Nat.le_of_ble_eq_true rfl) (c_J6_bitCount_0f7a4 (d := d + 1) v4 M (f_J6_bitCount_0f7a4 v4) rfl) ?_
      show kx_Rn _ _ _ (44, [some (.ref 0), some (.int x1), some (.int x2), some (.int x3), none], [.int (f_J6_bitCount_0f7a4 v4), .int (f_J6_bitCount_0f7a4 v2)], M) _ _
      refine kx_go (pc' := 48) (L' := [some (.ref 0), some (.int x1), some (.int x2), some (.int x3), some (.int ((f_J6_bitCount_0f7a4 v2) - (f_J6_bitCount_0f7a4 v4)))]) (st' := [.int x1]) 3 rfl ?_
      refine kx_r_if_ne rfl (fun hc6 => ?_) (fun hc6 => ?_)
      · rw [if_neg hc6] at h
        refine kx_go (pc' := 61) (L' := [some (.ref 0), some (.int x1), some (.int x2), some (.int x3), some (.int ((f_J6_bitCount_0f7a4 v2) - (f_J6_bitCount_0f7a4 v4)))]) (st' := [.int ((f_J6_bitCount_0f7a4 v2) - (f_J6_bitCount_0f7a4 v4))]) 1 rfl ?_
        refine kx_r_if_le rfl (fun hc7 => ?_) (fun hc7 => ?_)
        · rw [if_pos hc7] at h
          refine kx_go (pc' := 69) (L' := [some (.ref 0), some (.int x1), some (.int x2), some (.int (x3 + (1))), some (.int ((f_J6_bitCount_0f7a4 v2) - (f_J6_bitCount_0f7a4 v4)))]) (st' := []) 1 rfl ?_
          refine kx_r_goto rfl ?_
          refine kx_wk [true, true, true, true, false] ?_
          exact ih x1 x2 (x3 + (1)) M h
        · rw [if_neg hc7] at h
          refine kx_go (pc' := 69) (L' := [some (.ref 0), some (.int x1), some (.int x3), some (.int (x3 + (1))), some (.int ((f_J6_bitCount_0f7a4 v2) - (f_J6_bitCount_0f7a4 v4)))]) (st' := []) 3 rfl ?_
          refine kx_r_goto rfl ?_
          refine kx_wk [true, true, true, true, false] ?_
          exact ih x1 x3 (x3 + (1)) M h
      · rw [if_pos hc6] at h
        refine kx_go (pc' := 53) (L' := [some (.ref 0), some (.int x1), some (.int x2), some (.int x3), some (.int ((f_J6_bitCount_0f7a4 v2) - (f_J6_bitCount_0f7a4 v4)))]) (st' := [.int ((f_J6_bitCount_0f7a4 v2) - (f_J6_bitCount_0f7a4 v4))]) 1 rfl ?_
        refine kx_r_if_ge rfl (fun hc8 => ?_) (fun hc8 => ?_)
        · rw [if_pos hc8] at h
          refine kx_go (pc' := 69) (L' := [some (.ref 0), some (.int x1), some (.int x2), some (.int (x3 + (1))), some (.int ((f_J6_bitCount_0f7a4 v2) - (f_J6_bitCount_0f7a4 v4)))]) (st' := []) 1 rfl ?_
          refine kx_r_goto rfl ?_
          refine kx_wk [true, true, true, true, false] ?_
          exact ih x1 x2 (x3 + (1)) M h
        · rw [if_neg hc8] at h
          refine kx_r_goto rfl ?_
          refine kx_go (pc' := 69) (L' := [some (.ref 0), some (.int x1), some (.int x3), some (.int (x3 + (1))), some (.int ((f_J6_bitCount_0f7a4 v2) - (f_J6_bitCount_0f7a4 v4)))]) (st' := []) 3 rfl ?_
          refine kx_r_goto rfl ?_
          refine kx_wk [true, true, true, true, false] ?_
          exact ih x1 x3 (x3 + (1)) M h
set_option maxRecDepth 100000 in
set_option maxHeartbeats 4000000 in
theorem t_X5_rarest {d : Nat} {r : Int32} {M' : kx_M} (a0 : Int32) (M : kx_M) (h : f_X5_rarest a0 M = some (r, M')) : kx_Rn EM T_X5_rarest (d + 2) (0, [some (.ref 0), some (.int a0), none, none, none], [], M) (some (.int r)) M' := by
  unfold f_X5_rarest at h
  refine kx_go (pc' := 3) (L' := [some (.ref 0), some (.int a0), none, none, none]) (st' := [.int (1 : Int32), .int (0 : Int32), .int a0]) 3 rfl ?_
  refine kx_r_callS (as := [.int a0, .int (0 : Int32), .int (1 : Int32)]) (rest := []) (M1 := M) (rv := some (.int (kx_bi (f_X5_within a0 (0 : Int32) (1 : Int32))))) rfl klk_X5_78 kst_X5_within rfl rfl (Nat.le_of_ble_eq_true rfl) (Nat.le_of_ble_eq_true rfl) (c_X5_within (d := d + 1) a0 (0 : Int32) (1 : Int32) M (f_X5_within a0 (0 : Int32) (1 : Int32)) rfl) ?_
  show kx_Rn _ _ _ (6, [some (.ref 0), some (.int a0), none, none, none], [.int (kx_bi (f_X5_within a0 (0 : Int32) (1 : Int32)))], M) _ _
  refine kx_q_zne rfl (fun hc1 => ?_) (fun hc1 => ?_)
  · rw [if_pos hc1] at h
    refine kx_go (pc' := 20) (L' := [some (.ref 0), some (.int a0), some (.int (0 : Int32)), some (.int (1 : Int32)), none]) (st' := []) 4 rfl ?_
    refine kx_wk [true, true, true, true, false] ?_
    exact t_X5_rarest_20 kx_fuel a0 (0 : Int32) (1 : Int32) M h
  · rw [if_neg hc1] at h
    refine kx_go (pc' := 12) (L' := [some (.ref 0), some (.int a0), none, none, none]) (st' := [.int (-2 : Int32), .ref 0]) 2 rfl ?_
    obtain ⟨v2, M4, hv3, h⟩ := kx_bd_some h
    refine kx_q_callV (as := [.int (-2 : Int32)]) (rest := []) (M1 := M4) (rv := some (.int v2)) kmo_0 rfl klk_X5_89 kse_X5_no rfl rfl rfl rfl (Nat.le_of_ble_eq_true rfl) (Nat.le_of_ble_eq_true rfl) (c_X5_no (d := d + 1) (-2 : Int32) M v2 M4 hv3) ?_
    show kx_Rn _ _ _ (15, [some (.ref 0), some (.int a0), none, none, none], [.int v2], M4) _ _
    cases h
    exact kx_r_iret rfl rfl
theorem c_X5_rarest {d : Nat} (a0 : Int32) (M : kx_M) (r : Int32) (M' : kx_M) (h : f_X5_rarest a0 M = some (r, M')) : kx_Call EM (d + 2) T_X5_rarest [.ref 0, .int a0] M (some (.int r)) M' := kx_entry kok_X5_rarest (Nat.le_of_ble_eq_true rfl) rfl (t_X5_rarest (d := d) a0 M h)
set_option maxRecDepth 100000 in
set_option maxHeartbeats 4000000 in
theorem t_X5_both {d : Nat} {r : Int32} {M' : kx_M} (a0 : Int32) (a1 : Int32) (M : kx_M) (h : f_X5_both a0 a1 M = some (r, M')) : kx_Rn EM T_X5_both (d + 2) (0, [some (.ref 0), some (.int a0), some (.int a1)], [], M) (some (.int r)) M' := by
  unfold f_X5_both at h
  refine kx_go (pc' := 2) (L' := [some (.ref 0), some (.int a0), some (.int a1)]) (st' := [.int a0, .ref 0]) 2 rfl ?_
  refine kx_q_callV (as := [.int a0]) (rest := []) (M1 := M) (rv := some (.int (kx_bi (f_X5_isOne M a0)))) kmo_0 rfl klk_X5_103 kse_X5_isOne rfl rfl rfl rfl (Nat.le_of_ble_eq_true rfl) (Nat.le_of_ble_eq_true rfl) (c_X5_isOne (d := d + 0) a0 M (f_X5_isOne M a0) rfl) ?_
  show kx_Rn _ _ _ (5, [some (.ref 0), some (.int a0), some (.int a1)], [.int (kx_bi (f_X5_isOne M a0))], M) _ _
  refine kx_q_zeq rfl (fun hc1 => ?_) (fun hc1 => ?_)
  · rw [if_neg hc1] at h
    refine kx_go (pc' := 24) (L' := [some (.ref 0), some (.int a0), some (.int a1)]) (st' := [.int (-2 : Int32), .ref 0]) 2 rfl ?_
    obtain ⟨v2, M4, hv3, h⟩ := kx_bd_some h
    refine kx_q_callV (as := [.int (-2 : Int32)]) (rest := []) (M1 := M4) (rv := some (.int v2)) kmo_0 rfl klk_X5_89 kse_X5_no rfl rfl rfl rfl (Nat.le_of_ble_eq_true rfl) (Nat.le_of_ble_eq_true rfl) (c_X5_no (d := d + 1) (-2 : Int32) M v2 M4 hv3) ?_
    show kx_Rn _ _ _ (27, [some (.ref 0), some (.int a0), some (.int a1)], [.int v2], M4) _ _
    cases h
    exact kx_r_iret rfl rfl
  · rw [if_pos hc1] at h
    refine kx_go (pc' := 10) (L' := [some (.ref 0), some (.int a0), some (.int a1)]) (st' := [.int a1, .ref 0]) 2 rfl ?_
    refine kx_q_callV (as := [.int a1]) (rest := []) (M1 := M) (rv := some (.int (kx_bi (f_X5_isOne M a1)))) kmo_0 rfl klk_X5_103 kse_X5_isOne rfl rfl rfl rfl (Nat.le_of_ble_eq_true rfl) (Nat.le_of_ble_eq_true rfl) (c_X5_isOne (d := d + 0) a1 M (f_X5_isOne M a1) rfl) ?_
    show kx_Rn _ _ _ (13, [some (.ref 0), some (.int a0), some (.int a1)], [.int (kx_bi (f_X5_isOne M a1))], M) _ _
    refine kx_q_zeq rfl (fun hc5 => ?_) (fun hc5 => ?_)
    · rw [if_neg hc5] at h
      refine kx_go (pc' := 24) (L' := [some (.ref 0), some (.int a0), some (.int a1)]) (st' := [.int (-2 : Int32), .ref 0]) 2 rfl ?_
      obtain ⟨v6, M8, hv7, h⟩ := kx_bd_some h
      refine kx_q_callV (as := [.int (-2 : Int32)]) (rest := []) (M1 := M8) (rv := some (.int v6)) kmo_0 rfl klk_X5_89 kse_X5_no rfl rfl rfl rfl (Nat.le_of_ble_eq_true rfl) (Nat.le_of_ble_eq_true rfl) (c_X5_no (d := d + 1) (-2 : Int32) M v6 M8 hv7) ?_
      show kx_Rn _ _ _ (27, [some (.ref 0), some (.int a0), some (.int a1)], [.int v6], M8) _ _
      cases h
      exact kx_r_iret rfl rfl
    · rw [if_pos hc5] at h
      refine kx_go (pc' := 18) (L' := [some (.ref 0), some (.int a0), some (.int a1)]) (st' := [.int a1, .int a0]) 2 rfl ?_
      refine kx_r_icmp_ne rfl (fun hc9 => ?_) (fun hc9 => ?_)
      · rw [if_neg hc9] at h
        refine kx_go (pc' := 29) (L' := [some (.ref 0), some (.int a0), some (.int a1)]) (st' := [.ref 0]) 1 rfl ?_
        refine kx_q_getR (k := 8) (j := 7) kmo_0 rfl kfl_X5_28 rfl ?_
        refine kx_go (pc' := 33) (L' := [some (.ref 0), some (.int a0), some (.int a1)]) (st' := [.int a0, .ref 7]) 1 rfl ?_
        obtain ⟨hi10, h⟩ := kx_ck_some h
        refine kx_q_iald (kma_7) rfl hi10 ?_
        refine kx_go (pc' := 35) (L' := [some (.ref 0), some (.int a0), some (.int a1)]) (st' := [.ref 0, .int (M.1 7 (a0).toNatClampNeg)]) 1 rfl ?_
        refine kx_q_getR (k := 8) (j := 7) kmo_0 rfl kfl_X5_28 rfl ?_
        refine kx_go (pc' := 39) (L' := [some (.ref 0), some (.int a0), some (.int a1)]) (st' := [.int a1, .ref 7, .int (M.1 7 (a0).toNatClampNeg)]) 1 rfl ?_
        obtain ⟨hi11, h⟩ := kx_ck_some h
        refine kx_q_iald (kma_7) rfl hi11 ?_
        refine kx_go (pc' := 41) (L' := [some (.ref 0), some (.int a0), some (.int a1)]) (st' := [.int ((M.1 7 (a0).toNatClampNeg) &&& (M.1 7 (a1).toNatClampNeg))]) 1 rfl ?_
        refine kx_r_callS (as := [.int ((M.1 7 (a0).toNatClampNeg) &&& (M.1 7 (a1).toNatClampNeg))]) (rest := []) (M1 := M) (rv := some (.int (f_J6_bitCount_0f7a4 ((M.1 7 (a0).toNatClampNeg) &&& (M.1 7 (a1).toNatClampNeg))))) rfl klk_X5_194 kst_J6_bitCount_0f7a4 rfl rfl (Nat.le_of_ble_eq_true rfl) (Nat.le_of_ble_eq_true rfl) (c_J6_bitCount_0f7a4 (d := d + 1) ((M.1 7 (a0).toNatClampNeg) &&& (M.1 7 (a1).toNatClampNeg)) M (f_J6_bitCount_0f7a4 ((M.1 7 (a0).toNatClampNeg) &&& (M.1 7 (a1).toNatClampNeg))) rfl) ?_
        show kx_Rn _ _ _ (44, [some (.ref 0), some (.int a0), some (.int a1)], [.int (f_J6_bitCount_0f7a4 ((M.1 7 (a0).toNatClampNeg) &&& (M.1 7 (a1).toNatClampNeg)))], M) _ _
        cases h
        exact kx_r_iret rfl rfl
      · rw [if_pos hc9] at h
        refine kx_go (pc' := 24) (L' := [some (.ref 0), some (.int a0), some (.int a1)]) (st' := [.int (-2 : Int32), .ref 0]) 2 rfl ?_
        obtain ⟨v12, M14, hv13, h⟩ := kx_bd_some h
        refine kx_q_callV (as := [.int (-2 : Int32)]) (rest := []) (M1 := M14) (rv := some (.int v12)) kmo_0 rfl klk_X5_89 kse_X5_no rfl rfl rfl rfl (Nat.le_of_ble_eq_true rfl) (Nat.le_of_ble_eq_true rfl) (c_X5_no (d := d + 1) (-2 : Int32) M v12 M14 hv13) ?_
        show kx_Rn _ _ _ (27, [some (.ref 0), some (.int a0), some (.int a1)], [.int v12], M14) _ _
        cases h
        exact kx_r_iret rfl rfl
theorem c_X5_both {d : Nat} (a0 : Int32) (a1 : Int32) (M : kx_M) (r : Int32) (M' : kx_M) (h : f_X5_both a0 a1 M = some (r, M')) : kx_Call EM (d + 2) T_X5_both [.ref 0, .int a0, .int a1] M (some (.int r)) M' := kx_entry kok_X5_both (Nat.le_of_ble_eq_true rfl) rfl (t_X5_both (d := d) a0 a1 M h)
set_option maxRecDepth 100000 in
set_option maxHeartbeats 4000000 in
theorem t_X5_visitsTill_60 {d : Nat} {r : Int32} {M' : kx_M} (k36 : Int32 → Int32 → Int32 → Int32 → kx_M → Option (Int32 × kx_M)) (hk36 : ∀ (x1 : Int32) (x2 : Int32) (x3 : Int32) (x4 : Int32) (M : kx_M), k36 x1 x2 x3 x4 M = some (r, M') → kx_Rn EM T_X5_visitsTill (d + 5) (36, [some (.ref 0), some (.int x1), some (.int x2), some (.int x3), some (.int x4)], [], M) (some (.int r)) M') (x1 : Int32) (x2 : Int32) (x3 : Int32) (x4 : Int32) (M : kx_M) (h : f_X5_visitsTill_60 k36 x1 x2 x3 x4 M = some (r, M')) : kx_Rn EM T_X5_visitsTill (d + 5) (60, [some (.ref 0), some (.int x1), some (.int x2), some (.int x3), some (.int x4)], [], M) (some (.int r)) M' := by
  unfold f_X5_visitsTill_60 at h
  refine kx_go (pc' := 61) (L' := [some (.ref 0), some (.int x1), some (.int x2), some (.int x3), some (.int x4)]) (st' := [.ref 0]) 1 rfl ?_
  refine kx_q_getR (k := 8) (j := 7) kmo_0 rfl kfl_X5_28 rfl ?_
  refine kx_go (pc' := 65) (L' := [some (.ref 0), some (.int x1), some (.int x2), some (.int x3), some (.int x4)]) (st' := [.int x1, .ref 7]) 1 rfl ?_
  obtain ⟨hi1, h⟩ := kx_ck_some h
  refine kx_q_iald (kma_7) rfl hi1 ?_
  refine kx_go (pc' := 67) (L' := [some (.ref 0), some (.int x1), some (.int x2), some (.int x3), some (.int x4)]) (st' := [.int x2, .int (M.1 7 (x1).toNatClampNeg)]) 1 rfl ?_
  refine kx_r_callS (as := [.int (M.1 7 (x1).toNatClampNeg), .int x2]) (rest := []) (M1 := M) (rv := some (.int (kx_bi (f_X5_has (M.1 7 (x1).toNatClampNeg) x2)))) rfl klk_X5_199 kst_X5_has rfl rfl (Nat.le_of_ble_eq_true rfl) (Nat.le_of_ble_eq_true rfl) (c_X5_has (d := d + 4) (M.1 7 (x1).toNatClampNeg) x2 M (f_X5_has (M.1 7 (x1).toNatClampNeg) x2) rfl) ?_
  show kx_Rn _ _ _ (70, [some (.ref 0), some (.int x1), some (.int x2), some (.int x3), some (.int x4)], [.int (kx_bi (f_X5_has (M.1 7 (x1).toNatClampNeg) x2))], M) _ _
  refine kx_q_zeq rfl (fun hc2 => ?_) (fun hc2 => ?_)
  · rw [if_neg hc2] at h
    refine kx_go (pc' := 79) (L' := [some (.ref 0), some (.int x1), some (.int x2), some (.int x3), some (.int (x4 + (1)))]) (st' := []) 1 rfl ?_
    refine kx_r_goto rfl ?_
    refine kx_wk [true, true, true, true, true] ?_
    exact hk36 x1 x2 x3 (x4 + (1)) M h
  · rw [if_pos hc2] at h
    refine kx_go (pc' := 79) (L' := [some (.ref 0), some (.int x1), some (.int x2), some (.int x4), some (.int (x4 + (1)))]) (st' := []) 3 rfl ?_
    refine kx_r_goto rfl ?_
    refine kx_wk [true, true, true, true, true] ?_
    exact hk36 x1 x2 x4 (x4 + (1)) M h
set_option maxRecDepth 100000 in
set_option maxHeartbeats 4000000 in
theorem t_X5_visitsTill_36 {d : Nat} {r : Int32} {M' : kx_M} : ∀ (n : Nat) (x1 : Int32) (x2 : Int32) (x3 : Int32) (x4 : Int32) (M : kx_M), f_X5_visitsTill_36 n x1 x2 x3 x4 M = some (r, M') → kx_Rn EM T_X5_visitsTill (d + 5) (36, [some (.ref 0), some (.int x1), some (.int x2), some (.int x3), some (.int x4)], [], M) (some (.int r)) M' := by
  intro n
  induction n with
  | zero =>
    intro x1 x2 x3 x4 M h
    cases (show (none : Option (Int32 × kx_M)) = some _ from h)
  | succ n ih =>
    intro x1 x2 x3 x4 M h
    rw [f_X5_visitsTill_36.eq_2] at h
    refine kx_go (pc' := 40) (L' := [some (.ref 0), some (.int x1), some (.int x2), some (.int x3), some (.int x4)]) (st' := [.int (60 : Int32), .int x4]) 2 rfl ?_
    refine kx_r_icmp_gt rfl (fun hc1 => ?_) (fun hc1 => ?_)
    · rw [if_pos hc1] at h
      refine kx_go (pc' := 84) (L' := [some (.ref 0), some (.int x1), some (.int x2), some (.int x3), some (.int x4)]) (st' := [.ref 0, .ref 0]) 2 rfl ?_
      refine kx_q_getR (k := 23) (j := 15) kmo_0 rfl kfl_X5_53 rfl ?_
      obtain ⟨M4, hv3, h⟩ := kx_bn_some h
      refine kx_q_callV (as := [.ref 15]) (rest := []) (M1 := M4) (rv := none) kmo_0 rfl klk_X5_191 kse_X5_again rfl rfl rfl rfl (Nat.le_of_ble_eq_true rfl) (Nat.le_of_ble_eq_true rfl) (c_X5_again (d := d + 4) 15 (kma_15) M M4 hv3) ?_
      show kx_Rn _ _ _ (90, [some (.ref 0), some (.int x1), some (.int x2), some (.int x3), some (.int x4)], [], M4) _ _
      refine kx_go (pc' := 91) (L' := [some (.ref 0), some (.int x1), some (.int x2), some (.int x3), some (.int x4)]) (st' := [.int x3]) 1 rfl ?_
      cases h
      exact kx_r_iret rfl rfl
    · rw [if_neg hc1] at h
      refine kx_go (pc' := 45) (L' := [some (.ref 0), some (.int x1), some (.int x2), some (.int x3), some (.int x4)]) (st' := [.int (-1 : Int32), .int x3]) 2 rfl ?_
      refine kx_r_icmp_ne rfl (fun hc5 => ?_) (fun hc5 => ?_)
      · rw [if_neg hc5] at h
        refine kx_go (pc' := 84) (L' := [some (.ref 0), some (.int x1), some (.int x2), some (.int x3), some (.int x4)]) (st' := [.ref 0, .ref 0]) 2 rfl ?_
        refine kx_q_getR (k := 23) (j := 15) kmo_0 rfl kfl_X5_53 rfl ?_
        obtain ⟨M8, hv7, h⟩ := kx_bn_some h
        refine kx_q_callV (as := [.ref 15]) (rest := []) (M1 := M8) (rv := none) kmo_0 rfl klk_X5_191 kse_X5_again rfl rfl rfl rfl (Nat.le_of_ble_eq_true rfl) (Nat.le_of_ble_eq_true rfl) (c_X5_again (d := d + 4) 15 (kma_15) M M8 hv7) ?_
        show kx_Rn _ _ _ (90, [some (.ref 0), some (.int x1), some (.int x2), some (.int x3), some (.int x4)], [], M8) _ _
        refine kx_go (pc' := 91) (L' := [some (.ref 0), some (.int x1), some (.int x2), some (.int x3), some (.int x4)]) (st' := [.int x3]) 1 rfl ?_
        cases h
        exact kx_r_iret rfl rfl
      · rw [if_pos hc5] at h
        refine kx_go (pc' := 50) (L' := [some (.ref 0), some (.int x1), some (.int x2), some (.int x3), some (.int x4)]) (st' := [.int x4]) 1 rfl ?_
        refine kx_r_if_le rfl (fun hc9 => ?_) (fun hc9 => ?_)
        · rw [if_pos hc9] at h
          refine kx_wk [true, true, true, true, true] ?_
          exact t_X5_visitsTill_60 (f_X5_visitsTill_36 n) ih x1 x2 x3 x4 M h
        · rw [if_neg hc9] at h
          refine kx_go (pc' := 57) (L' := [some (.ref 0), some (.int x1), some (.int x2), some (.int x3), some (.int x4)]) (st' := [.int ((1 : Int32) <<< (x1 &&& 31)), .ref 0]) 4 rfl ?_
          obtain ⟨M12, hv11, h⟩ := kx_bn_some h
          refine kx_q_callV (as := [.int ((1 : Int32) <<< (x1 &&& 31))]) (rest := []) (M1 := M12) (rv := none) kmo_0 rfl klk_X5_242 kse_X5_goes rfl rfl rfl rfl (Nat.le_of_ble_eq_true rfl) (Nat.le_of_ble_eq_true rfl) (c_X5_goes (d := d + 0) ((1 : Int32) <<< (x1 &&& 31)) M M12 hv11) ?_
          show kx_Rn _ _ _ (60, [some (.ref 0), some (.int x1), some (.int x2), some (.int x3), some (.int x4)], [], M12) _ _
          refine kx_wk [true, true, true, true, true] ?_
          exact t_X5_visitsTill_60 (f_X5_visitsTill_36 n) ih x1 x2 x3 x4 M12 h
set_option maxRecDepth 100000 in
set_option maxHeartbeats 4000000 in
theorem t_X5_visitsTill {d : Nat} {r : Int32} {M' : kx_M} (a0 : Int32) (a1 : Int32) (M : kx_M) (h : f_X5_visitsTill a0 a1 M = some (r, M')) : kx_Rn EM T_X5_visitsTill (d + 5) (0, [some (.ref 0), some (.int a0), some (.int a1), none, none], [], M) (some (.int r)) M' := by
  unfold f_X5_visitsTill at h
  refine kx_go (pc' := 2) (L' := [some (.ref 0), some (.int a0), some (.int a1), none, none]) (st' := [.int a0, .ref 0]) 2 rfl ?_
  refine kx_q_callV (as := [.int a0]) (rest := []) (M1 := M) (rv := some (.int (kx_bi (f_X5_isOne M a0)))) kmo_0 rfl klk_X5_103 kse_X5_isOne rfl rfl rfl rfl (Nat.le_of_ble_eq_true rfl) (Nat.le_of_ble_eq_true rfl) (c_X5_isOne (d := d + 3) a0 M (f_X5_isOne M a0) rfl) ?_
  show kx_Rn _ _ _ (5, [some (.ref 0), some (.int a0), some (.int a1), none, none], [.int (kx_bi (f_X5_isOne M a0))], M) _ _
  refine kx_q_zeq rfl (fun hc1 => ?_) (fun hc1 => ?_)
  · rw [if_neg hc1] at h
    refine kx_go (pc' := 19) (L' := [some (.ref 0), some (.int a0), some (.int a1), none, none]) (st' := [.int (-2 : Int32), .ref 0]) 2 rfl ?_
    obtain ⟨v2, M4, hv3, h⟩ := kx_bd_some h
    refine kx_q_callV (as := [.int (-2 : Int32)]) (rest := []) (M1 := M4) (rv := some (.int v2)) kmo_0 rfl klk_X5_89 kse_X5_no rfl rfl rfl rfl (Nat.le_of_ble_eq_true rfl) (Nat.le_of_ble_eq_true rfl) (c_X5_no (d := d + 4) (-2 : Int32) M v2 M4 hv3) ?_
    show kx_Rn _ _ _ (22, [some (.ref 0), some (.int a0), some (.int a1), none, none], [.int v2], M4) _ _
    cases h
    exact kx_r_iret rfl rfl
  · rw [if_pos hc1] at h
    refine kx_go (pc' := 10) (L' := [some (.ref 0), some (.int a0), some (.int a1), none, none]) (st' := [.int a1, .ref 0]) 2 rfl ?_
    refine kx_q_callV (as := [.int a1]) (rest := []) (M1 := M) (rv := some (.int (kx_bi (f_X5_isCell M a1)))) kmo_0 rfl klk_X5_120 kse_X5_isCell rfl rfl rfl rfl (Nat.le_of_ble_eq_true rfl) (Nat.le_of_ble_eq_true rfl) (c_X5_isCell (d := d + 3) a1 M (f_X5_isCell M a1) rfl) ?_
    show kx_Rn _ _ _ (13, [some (.ref 0), some (.int a0), some (.int a1), none, none], [.int (kx_bi (f_X5_isCell M a1))], M) _ _
    refine kx_q_zne rfl (fun hc5 => ?_) (fun hc5 => ?_)
    · rw [if_pos hc5] at h
      refine kx_go (pc' := 25) (L' := [some (.ref 0), some (.int a0), some (.int a1), none, none]) (st' := [.ref 0, .ref 0]) 2 rfl ?_
      refine kx_q_getR (k := 23) (j := 15) kmo_0 rfl kfl_X5_53 rfl ?_
      obtain ⟨M8, hv7, h⟩ := kx_bn_some h
      refine kx_q_callV (as := [.ref 15]) (rest := []) (M1 := M8) (rv := none) kmo_0 rfl klk_X5_184 kse_X5_keep rfl rfl rfl rfl (Nat.le_of_ble_eq_true rfl) (Nat.le_of_ble_eq_true rfl) (c_X5_keep (d := d + 4) 15 (kma_15) M M8 hv7) ?_
      show kx_Rn _ _ _ (31, [some (.ref 0), some (.int a0), some (.int a1), none, none], [], M8) _ _
      refine kx_go (pc' := 36) (L' := [some (.ref 0), some (.int a0), some (.int a1), some (.int (-1 : Int32)), some (.int (0 : Int32))]) (st' := []) 4 rfl ?_
      refine kx_wk [true, true, true, true, true] ?_
      exact t_X5_visitsTill_36 kx_fuel a0 a1 (-1 : Int32) (0 : Int32) M8 h
    · rw [if_neg hc5] at h
      refine kx_go (pc' := 19) (L' := [some (.ref 0), some (.int a0), some (.int a1), none, none]) (st' := [.int (-2 : Int32), .ref 0]) 2 rfl ?_
      obtain ⟨v9, M11, hv10, h⟩ := kx_bd_some h
      refine kx_q_callV (as := [.int (-2 : Int32)]) (rest := []) (M1 := M11) (rv := some (.int v9)) kmo_0 rfl klk_X5_89 kse_X5_no rfl rfl rfl rfl (Nat.le_of_ble_eq_true rfl) (Nat.le_of_ble_eq_true rfl) (c_X5_no (d := d + 4) (-2 : Int32) M v9 M11 hv10) ?_
      show kx_Rn _ _ _ (22, [some (.ref 0), some (.int a0), some (.int a1), none, none], [.int v9], M11) _ _
      cases h
      exact kx_r_iret rfl rfl
theorem c_X5_visitsTill {d : Nat} (a0 : Int32) (a1 : Int32) (M : kx_M) (r : Int32) (M' : kx_M) (h : f_X5_visitsTill a0 a1 M = some (r, M')) : kx_Call EM (d + 5) T_X5_visitsTill [.ref 0, .int a0, .int a1] M (some (.int r)) M' := kx_entry kok_X5_visitsTill (Nat.le_of_ble_eq_true rfl) rfl (t_X5_visitsTill (d := d) a0 a1 M h)
set_option maxRecDepth 100000 in
set_option maxHeartbeats 4000000 in
theorem t_X5_who_19 {d : Nat} {r : Int32} {M' : kx_M} : ∀ (n : Nat) (x1 : Int32) (x2 : Int32) (x3 : Int32) (M : kx_M), f_X5_who_19 n x1 x2 x3 M = some (r, M') → kx_Rn EM T_X5_who (d + 5) (19, [some (.ref 0), some (.int x1), some (.int x2), some (.int x3)], [], M) (some (.int r)) M' := by
  intro n
  induction n with
  | zero =>
    intro x1 x2 x3 M h
    cases (show (none : Option (Int32 × kx_M)) = some _ from h)
  | succ n ih =>
    intro x1 x2 x3 M h
    rw [f_X5_who_19.eq_2] at h
    refine kx_go (pc' := 21) (L' := [some (.ref 0), some (.int x1), some (.int x2), some (.int x3)]) (st' := [.ref 0, .int x3]) 2 rfl ?_
    refine kx_q_getI (k := 4) kmo_0 rfl kfl_X5_82 rfl ?_
    refine kx_r_icmp_ge rfl (fun hc1 => ?_) (fun hc1 => ?_)
    · rw [if_pos hc1] at h
      refine kx_go (pc' := 52) (L' := [some (.ref 0), some (.int x1), some (.int x2), some (.int x3)]) (st' := [.int x2]) 1 rfl ?_
      cases h
      exact kx_r_iret rfl rfl
    · rw [if_neg hc1] at h
      refine kx_go (pc' := 29) (L' := [some (.ref 0), some (.int x1), some (.int x2), some (.int x3)]) (st' := [.int x3, .ref 0]) 2 rfl ?_
      obtain ⟨v2, hv3, h⟩ := kx_bn_some h
      refine kx_q_callV (as := [.int x3]) (rest := []) (M1 := M) (rv := some (.int v2)) kmo_0 rfl klk_X5_253 kse_X5_shownAlone rfl rfl rfl rfl (Nat.le_of_ble_eq_true rfl) (Nat.le_of_ble_eq_true rfl) (c_X5_shownAlone (d := d + 0) x3 M v2 hv3) ?_
      show kx_Rn _ _ _ (32, [some (.ref 0), some (.int x1), some (.int x2), some (.int x3)], [.int v2], M) _ _
      refine kx_go (pc' := 33) (L' := [some (.ref 0), some (.int x1), some (.int x2), some (.int x3)]) (st' := [.int x1, .int v2]) 1 rfl ?_
      refine kx_r_callS (as := [.int v2, .int x1]) (rest := []) (M1 := M) (rv := some (.int (kx_bi (f_X5_has v2 x1)))) rfl klk_X5_199 kst_X5_has rfl rfl (Nat.le_of_ble_eq_true rfl) (Nat.le_of_ble_eq_true rfl) (c_X5_has (d := d + 4) v2 x1 M (f_X5_has v2 x1) rfl) ?_
      show kx_Rn _ _ _ (36, [some (.ref 0), some (.int x1), some (.int x2), some (.int x3)], [.int (kx_bi (f_X5_has v2 x1))], M) _ _
      refine kx_q_zeq rfl (fun hc4 => ?_) (fun hc4 => ?_)
      · rw [if_neg hc4] at h
        refine kx_go (pc' := 48) (L' := [some (.ref 0), some (.int x1), some (.int x2), some (.int (x3 + (1)))]) (st' := []) 1 rfl ?_
        refine kx_r_goto rfl ?_
        refine kx_wk [true, true, true, true] ?_
        exact ih x1 x2 (x3 + (1)) M h
      · rw [if_pos hc4] at h
        refine kx_go (pc' := 48) (L' := [some (.ref 0), some (.int x1), some (.int (x2 ||| ((1 : Int32) <<< (x3 &&& 31)))), some (.int (x3 + (1)))]) (st' := []) 7 rfl ?_
        refine kx_r_goto rfl ?_
        refine kx_wk [true, true, true, true] ?_
        exact ih x1 (x2 ||| ((1 : Int32) <<< (x3 &&& 31))) (x3 + (1)) M h
set_option maxRecDepth 100000 in
set_option maxHeartbeats 4000000 in
theorem t_X5_who {d : Nat} {r : Int32} {M' : kx_M} (a0 : Int32) (M : kx_M) (h : f_X5_who a0 M = some (r, M')) : kx_Rn EM T_X5_who (d + 5) (0, [some (.ref 0), some (.int a0), none, none], [], M) (some (.int r)) M' := by
  unfold f_X5_who at h
  refine kx_go (pc' := 2) (L' := [some (.ref 0), some (.int a0), none, none]) (st' := [.int a0, .ref 0]) 2 rfl ?_
  refine kx_q_callV (as := [.int a0]) (rest := []) (M1 := M) (rv := some (.int (kx_bi (f_X5_isCell M a0)))) kmo_0 rfl klk_X5_120 kse_X5_isCell rfl rfl rfl rfl (Nat.le_of_ble_eq_true rfl) (Nat.le_of_ble_eq_true rfl) (c_X5_isCell (d := d + 3) a0 M (f_X5_isCell M a0) rfl) ?_
  show kx_Rn _ _ _ (5, [some (.ref 0), some (.int a0), none, none], [.int (kx_bi (f_X5_isCell M a0))], M) _ _
  refine kx_q_zne rfl (fun hc1 => ?_) (fun hc1 => ?_)
  · rw [if_pos hc1] at h
    refine kx_go (pc' := 19) (L' := [some (.ref 0), some (.int a0), some (.int (0 : Int32)), some (.int (0 : Int32))]) (st' := []) 4 rfl ?_
    refine kx_wk [true, true, true, true] ?_
    exact t_X5_who_19 kx_fuel a0 (0 : Int32) (0 : Int32) M h
  · rw [if_neg hc1] at h
    refine kx_go (pc' := 11) (L' := [some (.ref 0), some (.int a0), none, none]) (st' := [.int (-2 : Int32), .ref 0]) 2 rfl ?_
    obtain ⟨v2, M4, hv3, h⟩ := kx_bd_some h
    refine kx_q_callV (as := [.int (-2 : Int32)]) (rest := []) (M1 := M4) (rv := some (.int v2)) kmo_0 rfl klk_X5_89 kse_X5_no rfl rfl rfl rfl (Nat.le_of_ble_eq_true rfl) (Nat.le_of_ble_eq_true rfl) (c_X5_no (d := d + 4) (-2 : Int32) M v2 M4 hv3) ?_
    show kx_Rn _ _ _ (14, [some (.ref 0), some (.int a0), none, none], [.int v2], M4) _ _
    cases h
    exact kx_r_iret rfl rfl
theorem c_X5_who {d : Nat} (a0 : Int32) (M : kx_M) (r : Int32) (M' : kx_M) (h : f_X5_who a0 M = some (r, M')) : kx_Call EM (d + 5) T_X5_who [.ref 0, .int a0] M (some (.int r)) M' := kx_entry kok_X5_who (Nat.le_of_ble_eq_true rfl) rfl (t_X5_who (d := d) a0 M h)
set_option maxRecDepth 100000 in
set_option maxHeartbeats 4000000 in
theorem t_X5_company_56 {d : Nat} {r : Int32} {M' : kx_M} (k22 : Int32 → Int32 → Int32 → Int32 → kx_M → Option (Int32 × kx_M)) (hk22 : ∀ (x1 : Int32) (x2 : Int32) (x3 : Int32) (x4 : Int32) (M : kx_M), k22 x1 x2 x3 x4 M = some (r, M') → kx_Rn EM T_X5_company (d + 4) (22, [some (.ref 0), some (.int x1), some (.int x2), some (.int x3), some (.int x4), none], [], M) (some (.int r)) M') (x1 : Int32) (x2 : Int32) (x3 : Int32) (x4 : Int32) (s0 : Int32) (M : kx_M) (h : f_X5_company_56 k22 x1 x2 x3 x4 s0 M = some (r, M')) : kx_Rn EM T_X5_company (d + 4) (56, [some (.ref 0), some (.int x1), some (.int x2), some (.int x3), some (.int x4), none], [.int s0], M) (some (.int r)) M' := by
  unfold f_X5_company_56 at h
  refine kx_go (pc' := 61) (L' := [some (.ref 0), some (.int x1), some (.int x2), some (.int x3), some (.int x4), some (.int s0)]) (st' := [.int x3, .int s0]) 3 rfl ?_
  refine kx_r_icmp_gt rfl (fun hc1 => ?_) (fun hc1 => ?_)
  · rw [if_pos hc1] at h
    refine kx_go (pc' := 76) (L' := [some (.ref 0), some (.int x1), some (.int x4), some (.int s0), some (.int (x4 + (1))), some (.int s0)]) (st' := []) 5 rfl ?_
    refine kx_r_goto rfl ?_
    refine kx_wk [true, true, true, true, true, false] ?_
    exact hk22 x1 x4 s0 (x4 + (1)) M h
  · rw [if_neg hc1] at h
    refine kx_r_goto rfl ?_
    refine kx_go (pc' := 76) (L' := [some (.ref 0), some (.int x1), some (.int x2), some (.int x3), some (.int (x4 + (1))), some (.int s0)]) (st' := []) 1 rfl ?_
    refine kx_r_goto rfl ?_
    refine kx_wk [true, true, true, true, true, false] ?_
    exact hk22 x1 x2 x3 (x4 + (1)) M h
set_option maxRecDepth 100000 in
set_option maxHeartbeats 4000000 in
theorem t_X5_company_22 {d : Nat} {r : Int32} {M' : kx_M} : ∀ (n : Nat) (x1 : Int32) (x2 : Int32) (x3 : Int32) (x4 : Int32) (M : kx_M), f_X5_company_22 n x1 x2 x3 x4 M = some (r, M') → kx_Rn EM T_X5_company (d + 4) (22, [some (.ref 0), some (.int x1), some (.int x2), some (.int x3), some (.int x4), none], [], M) (some (.int r)) M' := by
  intro n
  induction n with
  | zero =>
    intro x1 x2 x3 x4 M h
    cases (show (none : Option (Int32 × kx_M)) = some _ from h)
  | succ n ih =>
    intro x1 x2 x3 x4 M h
    rw [f_X5_company_22.eq_2] at h
    refine kx_go (pc' := 26) (L' := [some (.ref 0), some (.int x1), some (.int x2), some (.int x3), some (.int x4), none]) (st' := [.ref 0, .int (1 : Int32), .int x4]) 3 rfl ?_
    refine kx_q_getI (k := 4) kmo_0 rfl kfl_X5_82 rfl ?_
    refine kx_go (pc' := 30) (L' := [some (.ref 0), some (.int x1), some (.int x2), some (.int x3), some (.int x4), none]) (st' := [.int ((1 : Int32) <<< ((M.1 0 4) &&& 31)), .int x4]) 1 rfl ?_
    refine kx_r_icmp_ge rfl (fun hc1 => ?_) (fun hc1 => ?_)
    · rw [if_pos hc1] at h
      refine kx_go (pc' := 80) (L' := [some (.ref 0), some (.int x1), some (.int x2), some (.int x3), some (.int x4), none]) (st' := [.int x2]) 1 rfl ?_
      cases h
      exact kx_r_iret rfl rfl
    · rw [if_neg hc1] at h
      refine kx_go (pc' := 36) (L' := [some (.ref 0), some (.int x1), some (.int x2), some (.int x3), some (.int x4), none]) (st' := [.int x1, .int x4]) 2 rfl ?_
      refine kx_r_callS (as := [.int x4, .int x1]) (rest := []) (M1 := M) (rv := some (.int (kx_bi (f_X5_has x4 x1)))) rfl klk_X5_199 kst_X5_has rfl rfl (Nat.le_of_ble_eq_true rfl) (Nat.le_of_ble_eq_true rfl) (c_X5_has (d := d + 3) x4 x1 M (f_X5_has x4 x1) rfl) ?_
      show kx_Rn _ _ _ (39, [some (.ref 0), some (.int x1), some (.int x2), some (.int x3), some (.int x4), none], [.int (kx_bi (f_X5_has x4 x1))], M) _ _
      refine kx_q_zeq rfl (fun hc2 => ?_) (fun hc2 => ?_)
      · rw [if_neg hc2] at h
        refine kx_go (pc' := 56) (L' := [some (.ref 0), some (.int x1), some (.int x2), some (.int x3), some (.int x4), none]) (st' := [.int (-1 : Int32)]) 1 rfl ?_
        refine kx_wk [true, true, true, true, true, false] ?_
        exact t_X5_company_56 (f_X5_company_22 n) ih x1 x2 x3 x4 (-1 : Int32) M h
      · rw [if_pos hc2] at h
        refine kx_go (pc' := 46) (L' := [some (.ref 0), some (.int x1), some (.int x2), some (.int x3), some (.int x4), none]) (st' := [.int x4, .int x1, .ref 0]) 3 rfl ?_
        obtain ⟨v3, hv4, h⟩ := kx_bn_some h
        refine kx_q_callV (as := [.int x1, .int x4]) (rest := []) (M1 := M) (rv := some (.int v3)) kmo_0 rfl klk_X5_215 kse_X5_shownTo rfl rfl rfl rfl (Nat.le_of_ble_eq_true rfl) (Nat.le_of_ble_eq_true rfl) (c_X5_shownTo (d := d + 0) x1 x4 M v3 hv4) ?_
        show kx_Rn _ _ _ (49, [some (.ref 0), some (.int x1), some (.int x2), some (.int x3), some (.int x4), none], [.int v3], M) _ _
        refine kx_r_callS (as := [.int v3]) (rest := []) (M1 := M) (rv := some (.int (f_J6_bitCount_0f7a4 v3))) rfl klk_X5_194 kst_J6_bitCount_0f7a4 rfl rfl (Nat.le_of_ble_eq_true rfl) (Nat.le_of_ble_eq_true rfl) (c_J6_bitCount_0f7a4 (d := d + 3) v3 M (f_J6_bitCount_0f7a4 v3) rfl) ?_
        show kx_Rn _ _ _ (52, [some (.ref 0), some (.int x1), some (.int x2), some (.int x3), some (.int x4), none], [.int (f_J6_bitCount_0f7a4 v3)], M) _ _
        refine kx_r_goto rfl ?_
        refine kx_wk [true, true, true, true, true, false] ?_
        exact t_X5_company_56 (f_X5_company_22 n) ih x1 x2 x3 x4 (f_J6_bitCount_0f7a4 v3) M h
set_option maxRecDepth 100000 in
set_option maxHeartbeats 4000000 in
theorem t_X5_company {d : Nat} {r : Int32} {M' : kx_M} (a0 : Int32) (M : kx_M) (h : f_X5_company a0 M = some (r, M')) : kx_Rn EM T_X5_company (d + 4) (0, [some (.ref 0), some (.int a0), none, none, none, none], [], M) (some (.int r)) M' := by
  unfold f_X5_company at h
  refine kx_go (pc' := 2) (L' := [some (.ref 0), some (.int a0), none, none, none, none]) (st' := [.int a0, .ref 0]) 2 rfl ?_
  refine kx_q_callV (as := [.int a0]) (rest := []) (M1 := M) (rv := some (.int (kx_bi (f_X5_isOne M a0)))) kmo_0 rfl klk_X5_103 kse_X5_isOne rfl rfl rfl rfl (Nat.le_of_ble_eq_true rfl) (Nat.le_of_ble_eq_true rfl) (c_X5_isOne (d := d + 2) a0 M (f_X5_isOne M a0) rfl) ?_
  show kx_Rn _ _ _ (5, [some (.ref 0), some (.int a0), none, none, none, none], [.int (kx_bi (f_X5_isOne M a0))], M) _ _
  refine kx_q_zne rfl (fun hc1 => ?_) (fun hc1 => ?_)
  · rw [if_pos hc1] at h
    refine kx_go (pc' := 22) (L' := [some (.ref 0), some (.int a0), some (.int (-1 : Int32)), some (.int (-1 : Int32)), some (.int (0 : Int32)), none]) (st' := []) 6 rfl ?_
    refine kx_wk [true, true, true, true, true, false] ?_
    exact t_X5_company_22 kx_fuel a0 (-1 : Int32) (-1 : Int32) (0 : Int32) M h
  · rw [if_neg hc1] at h
    refine kx_go (pc' := 11) (L' := [some (.ref 0), some (.int a0), none, none, none, none]) (st' := [.int (-2 : Int32), .ref 0]) 2 rfl ?_
    obtain ⟨v2, M4, hv3, h⟩ := kx_bd_some h
    refine kx_q_callV (as := [.int (-2 : Int32)]) (rest := []) (M1 := M4) (rv := some (.int v2)) kmo_0 rfl klk_X5_89 kse_X5_no rfl rfl rfl rfl (Nat.le_of_ble_eq_true rfl) (Nat.le_of_ble_eq_true rfl) (c_X5_no (d := d + 3) (-2 : Int32) M v2 M4 hv3) ?_
    show kx_Rn _ _ _ (14, [some (.ref 0), some (.int a0), none, none, none, none], [.int v2], M4) _ _
    cases h
    exact kx_r_iret rfl rfl
theorem c_X5_company {d : Nat} (a0 : Int32) (M : kx_M) (r : Int32) (M' : kx_M) (h : f_X5_company a0 M = some (r, M')) : kx_Call EM (d + 4) T_X5_company [.ref 0, .int a0] M (some (.int r)) M' := kx_entry kok_X5_company (Nat.le_of_ble_eq_true rfl) rfl (t_X5_company (d := d) a0 M h)
set_option maxRecDepth 100000 in
set_option maxHeartbeats 4000000 in
theorem t_X5_spoiler_59 {d : Nat} {r : Int32} {M' : kx_M} (k22 : Int32 → Int32 → Int32 → Int32 → kx_M → Option (Int32 × kx_M)) (hk22 : ∀ (x1 : Int32) (x2 : Int32) (x3 : Int32) (x4 : Int32) (M : kx_M), k22 x1 x2 x3 x4 M = some (r, M') → kx_Rn EM T_X5_spoiler (d + 5) (22, [some (.ref 0), some (.int x1), some (.int x2), some (.int x3), some (.int x4), none], [], M) (some (.int r)) M') (x1 : Int32) (x2 : Int32) (x3 : Int32) (x4 : Int32) (s0 : Int32) (M : kx_M) (h : f_X5_spoiler_59 k22 x1 x2 x3 x4 s0 M = some (r, M')) : kx_Rn EM T_X5_spoiler (d + 5) (59, [some (.ref 0), some (.int x1), some (.int x2), some (.int x3), some (.int x4), none], [.int s0], M) (some (.int r)) M' := by
  unfold f_X5_spoiler_59 at h
  refine kx_go (pc' := 64) (L' := [some (.ref 0), some (.int x1), some (.int x2), some (.int x3), some (.int x4), some (.int s0)]) (st' := [.int x3, .int s0]) 3 rfl ?_
  refine kx_r_icmp_gt rfl (fun hc1 => ?_) (fun hc1 => ?_)
  · rw [if_pos hc1] at h
    refine kx_go (pc' := 79) (L' := [some (.ref 0), some (.int x1), some (.int x4), some (.int s0), some (.int (x4 + (1))), some (.int s0)]) (st' := []) 5 rfl ?_
    refine kx_r_goto rfl ?_
    refine kx_wk [true, true, true, true, true, false] ?_
    exact hk22 x1 x4 s0 (x4 + (1)) M h
  · rw [if_neg hc1] at h
    refine kx_r_goto rfl ?_
    refine kx_go (pc' := 79) (L' := [some (.ref 0), some (.int x1), some (.int x2), some (.int x3), some (.int (x4 + (1))), some (.int s0)]) (st' := []) 1 rfl ?_
    refine kx_r_goto rfl ?_
    refine kx_wk [true, true, true, true, true, false] ?_
    exact hk22 x1 x2 x3 (x4 + (1)) M h
set_option maxRecDepth 100000 in
set_option maxHeartbeats 4000000 in
theorem t_X5_spoiler_22 {d : Nat} {r : Int32} {M' : kx_M} : ∀ (n : Nat) (x1 : Int32) (x2 : Int32) (x3 : Int32) (x4 : Int32) (M : kx_M), f_X5_spoiler_22 n x1 x2 x3 x4 M = some (r, M') → kx_Rn EM T_X5_spoiler (d + 5) (22, [some (.ref 0), some (.int x1), some (.int x2), some (.int x3), some (.int x4), none], [], M) (some (.int r)) M' := by
  intro n
  induction n with
  | zero =>
    intro x1 x2 x3 x4 M h
    cases (show (none : Option (Int32 × kx_M)) = some _ from h)
  | succ n ih =>
    intro x1 x2 x3 x4 M h
    rw [f_X5_spoiler_22.eq_2] at h
    refine kx_go (pc' := 25) (L' := [some (.ref 0), some (.int x1), some (.int x2), some (.int x3), some (.int x4), none]) (st' := [.ref 0, .int x4]) 2 rfl ?_
    refine kx_q_getI (k := 4) kmo_0 rfl kfl_X5_82 rfl ?_
    refine kx_r_icmp_ge rfl (fun hc1 => ?_) (fun hc1 => ?_)
    · rw [if_pos hc1] at h
      refine kx_go (pc' := 83) (L' := [some (.ref 0), some (.int x1), some (.int x2), some (.int x3), some (.int x4), none]) (st' := [.int x2]) 1 rfl ?_
      cases h
      exact kx_r_iret rfl rfl
    · rw [if_neg hc1] at h
      refine kx_go (pc' := 34) (L' := [some (.ref 0), some (.int x1), some (.int x2), some (.int x3), some (.int x4), none]) (st' := [.int x4, .int x1]) 2 rfl ?_
      refine kx_r_callS (as := [.int x1, .int x4]) (rest := []) (M1 := M) (rv := some (.int (kx_bi (f_X5_has x1 x4)))) rfl klk_X5_199 kst_X5_has rfl rfl (Nat.le_of_ble_eq_true rfl) (Nat.le_of_ble_eq_true rfl) (c_X5_has (d := d + 4) x1 x4 M (f_X5_has x1 x4) rfl) ?_
      show kx_Rn _ _ _ (37, [some (.ref 0), some (.int x1), some (.int x2), some (.int x3), some (.int x4), none], [.int (kx_bi (f_X5_has x1 x4))], M) _ _
      refine kx_q_zeq rfl (fun hc2 => ?_) (fun hc2 => ?_)
      · rw [if_neg hc2] at h
        refine kx_go (pc' := 59) (L' := [some (.ref 0), some (.int x1), some (.int x2), some (.int x3), some (.int x4), none]) (st' := [.int (-1 : Int32)]) 1 rfl ?_
        refine kx_wk [true, true, true, true, true, false] ?_
        exact t_X5_spoiler_59 (f_X5_spoiler_22 n) ih x1 x2 x3 x4 (-1 : Int32) M h
      · rw [if_pos hc2] at h
        refine kx_go (pc' := 49) (L' := [some (.ref 0), some (.int x1), some (.int x2), some (.int x3), some (.int x4), none]) (st' := [.int (x1 &&& (((1 : Int32) <<< (x4 &&& 31)) ^^^ (-1 : Int32))), .ref 0]) 8 rfl ?_
        obtain ⟨v3, hv4, h⟩ := kx_bn_some h
        refine kx_q_callV (as := [.int (x1 &&& (((1 : Int32) <<< (x4 &&& 31)) ^^^ (-1 : Int32)))]) (rest := []) (M1 := M) (rv := some (.int v3)) kmo_0 rfl klk_X5_218 kse_X5_shownToAll rfl rfl rfl rfl (Nat.le_of_ble_eq_true rfl) (Nat.le_of_ble_eq_true rfl) (c_X5_shownToAll (d := d + 0) (x1 &&& (((1 : Int32) <<< (x4 &&& 31)) ^^^ (-1 : Int32))) M v3 hv4) ?_
        show kx_Rn _ _ _ (52, [some (.ref 0), some (.int x1), some (.int x2), some (.int x3), some (.int x4), none], [.int v3], M) _ _
        refine kx_r_callS (as := [.int v3]) (rest := []) (M1 := M) (rv := some (.int (f_J6_bitCount_0f7a4 v3))) rfl klk_X5_194 kst_J6_bitCount_0f7a4 rfl rfl (Nat.le_of_ble_eq_true rfl) (Nat.le_of_ble_eq_true rfl) (c_J6_bitCount_0f7a4 (d := d + 4) v3 M (f_J6_bitCount_0f7a4 v3) rfl) ?_
        show kx_Rn _ _ _ (55, [some (.ref 0), some (.int x1), some (.int x2), some (.int x3), some (.int x4), none], [.int (f_J6_bitCount_0f7a4 v3)], M) _ _
        refine kx_r_goto rfl ?_
        refine kx_wk [true, true, true, true, true, false] ?_
        exact t_X5_spoiler_59 (f_X5_spoiler_22 n) ih x1 x2 x3 x4 (f_J6_bitCount_0f7a4 v3) M h
set_option maxRecDepth 100000 in
set_option maxHeartbeats 4000000 in
theorem t_X5_spoiler {d : Nat} {r : Int32} {M' : kx_M} (a0 : Int32) (M : kx_M) (h : f_X5_spoiler a0 M = some (r, M')) : kx_Rn EM T_X5_spoiler (d + 5) (0, [some (.ref 0), some (.int a0), none, none, none, none], [], M) (some (.int r)) M' := by
  unfold f_X5_spoiler at h
  refine kx_go (pc' := 2) (L' := [some (.ref 0), some (.int a0), none, none, none, none]) (st' := [.int a0, .ref 0]) 2 rfl ?_
  refine kx_q_callV (as := [.int a0]) (rest := []) (M1 := M) (rv := some (.int (kx_bi (f_X5_isGroup M a0)))) kmo_0 rfl klk_X5_233 kse_X5_isGroup rfl rfl rfl rfl (Nat.le_of_ble_eq_true rfl) (Nat.le_of_ble_eq_true rfl) (c_X5_isGroup (d := d + 3) a0 M (f_X5_isGroup M a0) rfl) ?_
  show kx_Rn _ _ _ (5, [some (.ref 0), some (.int a0), none, none, none, none], [.int (kx_bi (f_X5_isGroup M a0))], M) _ _
  refine kx_q_zne rfl (fun hc1 => ?_) (fun hc1 => ?_)
  · rw [if_pos hc1] at h
    refine kx_go (pc' := 22) (L' := [some (.ref 0), some (.int a0), some (.int (-1 : Int32)), some (.int (-1 : Int32)), some (.int (0 : Int32)), none]) (st' := []) 6 rfl ?_
    refine kx_wk [true, true, true, true, true, false] ?_
    exact t_X5_spoiler_22 kx_fuel a0 (-1 : Int32) (-1 : Int32) (0 : Int32) M h
  · rw [if_neg hc1] at h
    refine kx_go (pc' := 11) (L' := [some (.ref 0), some (.int a0), none, none, none, none]) (st' := [.int (-2 : Int32), .ref 0]) 2 rfl ?_
    obtain ⟨v2, M4, hv3, h⟩ := kx_bd_some h
    refine kx_q_callV (as := [.int (-2 : Int32)]) (rest := []) (M1 := M4) (rv := some (.int v2)) kmo_0 rfl klk_X5_89 kse_X5_no rfl rfl rfl rfl (Nat.le_of_ble_eq_true rfl) (Nat.le_of_ble_eq_true rfl) (c_X5_no (d := d + 4) (-2 : Int32) M v2 M4 hv3) ?_
    show kx_Rn _ _ _ (14, [some (.ref 0), some (.int a0), none, none, none, none], [.int v2], M4) _ _
    cases h
    exact kx_r_iret rfl rfl
theorem c_X5_spoiler {d : Nat} (a0 : Int32) (M : kx_M) (r : Int32) (M' : kx_M) (h : f_X5_spoiler a0 M = some (r, M')) : kx_Call EM (d + 5) T_X5_spoiler [.ref 0, .int a0] M (some (.int r)) M' := kx_entry kok_X5_spoiler (Nat.le_of_ble_eq_true rfl) rfl (t_X5_spoiler (d := d) a0 M h)
set_option maxRecDepth 100000 in
set_option maxHeartbeats 4000000 in
theorem t_X5_split_85 {d : Nat} {r : Int32} {M' : kx_M} (k32 : Int32 → Int32 → Int32 → Int32 → Int32 → kx_M → Option (Int32 × kx_M)) (hk32 : ∀ (x1 : Int32) (x2 : Int32) (x3 : Int32) (x4 : Int32) (x5 : Int32) (M : kx_M), k32 x1 x2 x3 x4 x5 M = some (r, M') → kx_Rn EM T_X5_split (d + 5) (32, [some (.ref 0), some (.int x1), some (.int x2), some (.int x3), some (.int x4), some (.int x5), none], [], M) (some (.int r)) M') (x1 : Int32) (x2 : Int32) (x3 : Int32) (x4 : Int32) (x5 : Int32) (M : kx_M) (h : f_X5_split_85 k32 x1 x2 x3 x4 x5 M = some (r, M')) : kx_Rn EM T_X5_split (d + 5) (85, [some (.ref 0), some (.int x1), some (.int x2), some (.int x3), some (.int x4), some (.int x5), none], [], M) (some (.int r)) M' := by
  unfold f_X5_split_85 at h
  refine kx_go (pc' := 87) (L' := [some (.ref 0), some (.int x1), some (.int x2), some (.int x3), some (.int x4), some (.int x5), none]) (st' := [.ref 0, .ref 0]) 2 rfl ?_
  refine kx_q_callV (as := []) (rest := [.ref 0]) (M1 := M) (rv := some (.int (f_X5_all M))) kmo_0 rfl klk_X5_221 kse_X5_all rfl rfl rfl rfl (Nat.le_of_ble_eq_true rfl) (Nat.le_of_ble_eq_true rfl) (c_X5_all (d := d + 4) M (f_X5_all M) rfl) ?_
  show kx_Rn _ _ _ (90, [some (.ref 0), some (.int x1), some (.int x2), some (.int x3), some (.int x4), some (.int x5), none], [.int (f_X5_all M), .ref 0], M) _ _
  obtain ⟨v1, hv2, h⟩ := kx_bn_some h
  refine kx_q_callV (as := [.int (f_X5_all M)]) (rest := []) (M1 := M) (rv := some (.int v1)) kmo_0 rfl klk_X5_224 kse_X5_knownBy rfl rfl rfl rfl (Nat.le_of_ble_eq_true rfl) (Nat.le_of_ble_eq_true rfl) (c_X5_knownBy (d := d + 3) (f_X5_all M) M v1 hv2) ?_
  show kx_Rn _ _ _ (93, [some (.ref 0), some (.int x1), some (.int x2), some (.int x3), some (.int x4), some (.int x5), none], [.int v1], M) _ _
  refine kx_r_callS (as := [.int v1]) (rest := []) (M1 := M) (rv := some (.int (f_J6_bitCount_0f7a4 v1))) rfl klk_X5_194 kst_J6_bitCount_0f7a4 rfl rfl (Nat.le_of_ble_eq_true rfl) (Nat.le_of_ble_eq_true rfl) (c_J6_bitCount_0f7a4 (d := d + 4) v1 M (f_J6_bitCount_0f7a4 v1) rfl) ?_
  show kx_Rn _ _ _ (96, [some (.ref 0), some (.int x1), some (.int x2), some (.int x3), some (.int x4), some (.int x5), none], [.int (f_J6_bitCount_0f7a4 v1)], M) _ _
  refine kx_go (pc' := 100) (L' := [some (.ref 0), some (.int x1), some (.int x2), some (.int x3), some (.int x4), some (.int x5), some (.int (f_J6_bitCount_0f7a4 v1))]) (st' := [.ref 0, .ref 0]) 3 rfl ?_
  refine kx_q_getR (k := 23) (j := 15) kmo_0 rfl kfl_X5_53 rfl ?_
  obtain ⟨M5, hv4, h⟩ := kx_bn_some h
  refine kx_q_callV (as := [.ref 15]) (rest := []) (M1 := M5) (rv := none) kmo_0 rfl klk_X5_191 kse_X5_again rfl rfl rfl rfl (Nat.le_of_ble_eq_true rfl) (Nat.le_of_ble_eq_true rfl) (c_X5_again (d := d + 4) 15 (kma_15) M M5 hv4) ?_
  show kx_Rn _ _ _ (106, [some (.ref 0), some (.int x1), some (.int x2), some (.int x3), some (.int x4), some (.int x5), some (.int (f_J6_bitCount_0f7a4 v1))], [], M5) _ _
  refine kx_go (pc' := 110) (L' := [some (.ref 0), some (.int x1), some (.int x2), some (.int x3), some (.int x4), some (.int x5), some (.int (f_J6_bitCount_0f7a4 v1))]) (st' := [.int x4, .int (f_J6_bitCount_0f7a4 v1)]) 2 rfl ?_
  refine kx_r_icmp_gt rfl (fun hc6 => ?_) (fun hc6 => ?_)
  · rw [if_pos hc6] at h
    refine kx_go (pc' := 126) (L' := [some (.ref 0), some (.int x1), some (.int x2), some (.int x5), some (.int (f_J6_bitCount_0f7a4 v1)), some (.int (x5 + (1))), some (.int (f_J6_bitCount_0f7a4 v1))]) (st' := []) 5 rfl ?_
    refine kx_r_goto rfl ?_
    refine kx_wk [true, true, true, true, true, true, false] ?_
    exact hk32 x1 x2 x5 (f_J6_bitCount_0f7a4 v1) (x5 + (1)) M5 h
  · rw [if_neg hc6] at h
    refine kx_r_goto rfl ?_
    refine kx_go (pc' := 126) (L' := [some (.ref 0), some (.int x1), some (.int x2), some (.int x3), some (.int x4), some (.int (x5 + (1))), some (.int (f_J6_bitCount_0f7a4 v1))]) (st' := []) 1 rfl ?_
    refine kx_r_goto rfl ?_
    refine kx_wk [true, true, true, true, true, true, false] ?_
    exact hk32 x1 x2 x3 x4 (x5 + (1)) M5 h
set_option maxRecDepth 100000 in
set_option maxHeartbeats 4000000 in
theorem t_X5_split_69 {d : Nat} {r : Int32} {M' : kx_M} (k32 : Int32 → Int32 → Int32 → Int32 → Int32 → kx_M → Option (Int32 × kx_M)) (hk32 : ∀ (x1 : Int32) (x2 : Int32) (x3 : Int32) (x4 : Int32) (x5 : Int32) (M : kx_M), k32 x1 x2 x3 x4 x5 M = some (r, M') → kx_Rn EM T_X5_split (d + 5) (32, [some (.ref 0), some (.int x1), some (.int x2), some (.int x3), some (.int x4), some (.int x5), none], [], M) (some (.int r)) M') (x1 : Int32) (x2 : Int32) (x3 : Int32) (x4 : Int32) (x5 : Int32) (M : kx_M) (h : f_X5_split_69 k32 x1 x2 x3 x4 x5 M = some (r, M')) : kx_Rn EM T_X5_split (d + 5) (69, [some (.ref 0), some (.int x1), some (.int x2), some (.int x3), some (.int x4), some (.int x5), none], [], M) (some (.int r)) M' := by
  unfold f_X5_split_69 at h
  refine kx_go (pc' := 72) (L' := [some (.ref 0), some (.int x1), some (.int x2), some (.int x3), some (.int x4), some (.int x5), none]) (st' := [.int x1, .int x5]) 2 rfl ?_
  refine kx_r_icmp_eq rfl (fun hc1 => ?_) (fun hc1 => ?_)
  · rw [if_pos hc1] at h
    refine kx_wk [true, true, true, true, true, true, false] ?_
    exact t_X5_split_85 k32 hk32 x1 x2 x3 x4 x5 M h
  · rw [if_neg hc1] at h
    refine kx_go (pc' := 82) (L' := [some (.ref 0), some (.int x1), some (.int x2), some (.int x3), some (.int x4), some (.int x5), none]) (st' := [.int (x1 &&& (x5 ^^^ (-1 : Int32))), .ref 0]) 6 rfl ?_
    obtain ⟨M4, hv3, h⟩ := kx_bn_some h
    refine kx_q_callV (as := [.int (x1 &&& (x5 ^^^ (-1 : Int32)))]) (rest := []) (M1 := M4) (rv := none) kmo_0 rfl klk_X5_242 kse_X5_goes rfl rfl rfl rfl (Nat.le_of_ble_eq_true rfl) (Nat.le_of_ble_eq_true rfl) (c_X5_goes (d := d + 0) (x1 &&& (x5 ^^^ (-1 : Int32))) M M4 hv3) ?_
    show kx_Rn _ _ _ (85, [some (.ref 0), some (.int x1), some (.int x2), some (.int x3), some (.int x4), some (.int x5), none], [], M4) _ _
    refine kx_wk [true, true, true, true, true, true, false] ?_
    exact t_X5_split_85 k32 hk32 x1 x2 x3 x4 x5 M4 h
set_option maxRecDepth 100000 in
set_option maxHeartbeats 4000000 in
theorem t_X5_split_32 {d : Nat} {r : Int32} {M' : kx_M} : ∀ (n : Nat) (x1 : Int32) (x2 : Int32) (x3 : Int32) (x4 : Int32) (x5 : Int32) (M : kx_M), f_X5_split_32 n x1 x2 x3 x4 x5 M = some (r, M') → kx_Rn EM T_X5_split (d + 5) (32, [some (.ref 0), some (.int x1), some (.int x2), some (.int x3), some (.int x4), some (.int x5), none], [], M) (some (.int r)) M' := by
  intro n
  induction n with
  | zero =>
    intro x1 x2 x3 x4 x5 M h
    cases (show (none : Option (Int32 × kx_M)) = some _ from h)
  | succ n ih =>
    intro x1 x2 x3 x4 x5 M h
    rw [f_X5_split_32.eq_2] at h
    refine kx_go (pc' := 35) (L' := [some (.ref 0), some (.int x1), some (.int x2), some (.int x3), some (.int x4), some (.int x5), none]) (st' := [.int x1, .int x5]) 2 rfl ?_
    refine kx_r_icmp_gt rfl (fun hc1 => ?_) (fun hc1 => ?_)
    · rw [if_pos hc1] at h
      refine kx_go (pc' := 130) (L' := [some (.ref 0), some (.int x1), some (.int x2), some (.int x3), some (.int x4), some (.int x5), none]) (st' := [.int x2]) 1 rfl ?_
      refine kx_r_if_ne rfl (fun hc2 => ?_) (fun hc2 => ?_)
      · rw [if_neg hc2] at h
        refine kx_go (pc' := 139) (L' := [some (.ref 0), some (.int x1), some (.int x2), some (.int x3), some (.int x4), some (.int x5), none]) (st' := [.int x4]) 1 rfl ?_
        cases h
        exact kx_r_iret rfl rfl
      · rw [if_pos hc2] at h
        refine kx_go (pc' := 134) (L' := [some (.ref 0), some (.int x1), some (.int x2), some (.int x3), some (.int x4), some (.int x5), none]) (st' := [.int x3]) 1 rfl ?_
        refine kx_r_goto rfl ?_
        cases h
        exact kx_r_iret rfl rfl
    · rw [if_neg hc1] at h
      refine kx_go (pc' := 44) (L' := [some (.ref 0), some (.int x1), some (.int x2), some (.int x3), some (.int x4), some (.int x5), none]) (st' := [.int (x5 &&& (x1 ^^^ (-1 : Int32)))]) 5 rfl ?_
      refine kx_r_if_eq rfl (fun hc3 => ?_) (fun hc3 => ?_)
      · rw [if_pos hc3] at h
        refine kx_go (pc' := 52) (L' := [some (.ref 0), some (.int x1), some (.int x2), some (.int x3), some (.int x4), some (.int x5), none]) (st' := [.ref 0, .ref 0]) 2 rfl ?_
        refine kx_q_getR (k := 23) (j := 15) kmo_0 rfl kfl_X5_53 rfl ?_
        obtain ⟨M6, hv5, h⟩ := kx_bn_some h
        refine kx_q_callV (as := [.ref 15]) (rest := []) (M1 := M6) (rv := none) kmo_0 rfl klk_X5_184 kse_X5_keep rfl rfl rfl rfl (Nat.le_of_ble_eq_true rfl) (Nat.le_of_ble_eq_true rfl) (c_X5_keep (d := d + 4) 15 (kma_15) M M6 hv5) ?_
        show kx_Rn _ _ _ (58, [some (.ref 0), some (.int x1), some (.int x2), some (.int x3), some (.int x4), some (.int x5), none], [], M6) _ _
        refine kx_go (pc' := 60) (L' := [some (.ref 0), some (.int x1), some (.int x2), some (.int x3), some (.int x4), some (.int x5), none]) (st' := [.int x5]) 1 rfl ?_
        refine kx_r_if_le rfl (fun hc7 => ?_) (fun hc7 => ?_)
        · rw [if_pos hc7] at h
          refine kx_wk [true, true, true, true, true, true, false] ?_
          exact t_X5_split_69 (f_X5_split_32 n) ih x1 x2 x3 x4 x5 M6 h
        · rw [if_neg hc7] at h
          refine kx_go (pc' := 66) (L' := [some (.ref 0), some (.int x1), some (.int x2), some (.int x3), some (.int x4), some (.int x5), none]) (st' := [.int x5, .ref 0]) 2 rfl ?_
          obtain ⟨M10, hv9, h⟩ := kx_bn_some h
          refine kx_q_callV (as := [.int x5]) (rest := []) (M1 := M10) (rv := none) kmo_0 rfl klk_X5_242 kse_X5_goes rfl rfl rfl rfl (Nat.le_of_ble_eq_true rfl) (Nat.le_of_ble_eq_true rfl) (c_X5_goes (d := d + 0) x5 M6 M10 hv9) ?_
          show kx_Rn _ _ _ (69, [some (.ref 0), some (.int x1), some (.int x2), some (.int x3), some (.int x4), some (.int x5), none], [], M10) _ _
          refine kx_wk [true, true, true, true, true, true, false] ?_
          exact t_X5_split_69 (f_X5_split_32 n) ih x1 x2 x3 x4 x5 M10 h
      · rw [if_neg hc3] at h
        refine kx_r_goto rfl ?_
        refine kx_go (pc' := 126) (L' := [some (.ref 0), some (.int x1), some (.int x2), some (.int x3), some (.int x4), some (.int (x5 + (1))), none]) (st' := []) 1 rfl ?_
        refine kx_r_goto rfl ?_
        refine kx_wk [true, true, true, true, true, true, false] ?_
        exact ih x1 x2 x3 x4 (x5 + (1)) M h
set_option maxRecDepth 100000 in
set_option maxHeartbeats 4000000 in
theorem t_X5_split {d : Nat} {r : Int32} {M' : kx_M} (a0 : Int32) (a1 : Int32) (M : kx_M) (h : f_X5_split a0 a1 M = some (r, M')) : kx_Rn EM T_X5_split (d + 5) (0, [some (.ref 0), some (.int a0), some (.int a1), none, none, none, none], [], M) (some (.int r)) M' := by
  unfold f_X5_split at h
  refine kx_go (pc' := 2) (L' := [some (.ref 0), some (.int a0), some (.int a1), none, none, none, none]) (st' := [.int a0, .ref 0]) 2 rfl ?_
  refine kx_q_callV (as := [.int a0]) (rest := []) (M1 := M) (rv := some (.int (kx_bi (f_X5_isGroup M a0)))) kmo_0 rfl klk_X5_233 kse_X5_isGroup rfl rfl rfl rfl (Nat.le_of_ble_eq_true rfl) (Nat.le_of_ble_eq_true rfl) (c_X5_isGroup (d := d + 3) a0 M (f_X5_isGroup M a0) rfl) ?_
  show kx_Rn _ _ _ (5, [some (.ref 0), some (.int a0), some (.int a1), none, none, none, none], [.int (kx_bi (f_X5_isGroup M a0))], M) _ _
  refine kx_q_zeq rfl (fun hc1 => ?_) (fun hc1 => ?_)
  · rw [if_neg hc1] at h
    refine kx_go (pc' := 20) (L' := [some (.ref 0), some (.int a0), some (.int a1), none, none, none, none]) (st' := [.int (-2 : Int32), .ref 0]) 2 rfl ?_
    obtain ⟨v2, M4, hv3, h⟩ := kx_bd_some h
    refine kx_q_callV (as := [.int (-2 : Int32)]) (rest := []) (M1 := M4) (rv := some (.int v2)) kmo_0 rfl klk_X5_89 kse_X5_no rfl rfl rfl rfl (Nat.le_of_ble_eq_true rfl) (Nat.le_of_ble_eq_true rfl) (c_X5_no (d := d + 4) (-2 : Int32) M v2 M4 hv3) ?_
    show kx_Rn _ _ _ (23, [some (.ref 0), some (.int a0), some (.int a1), none, none, none, none], [.int v2], M4) _ _
    cases h
    exact kx_r_iret rfl rfl
  · rw [if_pos hc1] at h
    refine kx_go (pc' := 11) (L' := [some (.ref 0), some (.int a0), some (.int a1), none, none, none, none]) (st' := [.int (1 : Int32), .int (0 : Int32), .int a1]) 3 rfl ?_
    refine kx_r_callS (as := [.int a1, .int (0 : Int32), .int (1 : Int32)]) (rest := []) (M1 := M) (rv := some (.int (kx_bi (f_X5_within a1 (0 : Int32) (1 : Int32))))) rfl klk_X5_78 kst_X5_within rfl rfl (Nat.le_of_ble_eq_true rfl) (Nat.le_of_ble_eq_true rfl) (c_X5_within (d := d + 4) a1 (0 : Int32) (1 : Int32) M (f_X5_within a1 (0 : Int32) (1 : Int32)) rfl) ?_
    show kx_Rn _ _ _ (14, [some (.ref 0), some (.int a0), some (.int a1), none, none, none, none], [.int (kx_bi (f_X5_within a1 (0 : Int32) (1 : Int32)))], M) _ _
    refine kx_q_zne rfl (fun hc5 => ?_) (fun hc5 => ?_)
    · rw [if_pos hc5] at h
      refine kx_go (pc' := 32) (L' := [some (.ref 0), some (.int a0), some (.int a1), some (.int (0 : Int32)), some (.int (-1 : Int32)), some (.int (0 : Int32)), none]) (st' := []) 6 rfl ?_
      refine kx_wk [true, true, true, true, true, true, false] ?_
      exact t_X5_split_32 kx_fuel a0 a1 (0 : Int32) (-1 : Int32) (0 : Int32) M h
    · rw [if_neg hc5] at h
      refine kx_go (pc' := 20) (L' := [some (.ref 0), some (.int a0), some (.int a1), none, none, none, none]) (st' := [.int (-2 : Int32), .ref 0]) 2 rfl ?_
      obtain ⟨v6, M8, hv7, h⟩ := kx_bd_some h
      refine kx_q_callV (as := [.int (-2 : Int32)]) (rest := []) (M1 := M8) (rv := some (.int v6)) kmo_0 rfl klk_X5_89 kse_X5_no rfl rfl rfl rfl (Nat.le_of_ble_eq_true rfl) (Nat.le_of_ble_eq_true rfl) (c_X5_no (d := d + 4) (-2 : Int32) M v6 M8 hv7) ?_
      show kx_Rn _ _ _ (23, [some (.ref 0), some (.int a0), some (.int a1), none, none, none, none], [.int v6], M8) _ _
      cases h
      exact kx_r_iret rfl rfl
theorem c_X5_split {d : Nat} (a0 : Int32) (a1 : Int32) (M : kx_M) (r : Int32) (M' : kx_M) (h : f_X5_split a0 a1 M = some (r, M')) : kx_Call EM (d + 5) T_X5_split [.ref 0, .int a0, .int a1] M (some (.int r)) M' := kx_entry kok_X5_split (Nat.le_of_ble_eq_true rfl) rfl (t_X5_split (d := d) a0 a1 M h)
set_option maxRecDepth 100000 in
set_option maxHeartbeats 4000000 in
theorem t_X5_couple_19 {d : Nat} {r : Int32} (M : kx_M) (k6 : Int32 → Int32 → Int32 → Option Int32) (hk6 : ∀ (x1 : Int32) (x2 : Int32) (x3 : Int32), k6 x1 x2 x3 = some r → kx_Rn EM T_X5_couple (d + 1) (6, [some (.ref 0), some (.int x1), some (.int x2), some (.int x3), none, none], [], M) (some (.int r)) M) : ∀ (n : Nat) (x1 : Int32) (x2 : Int32) (x3 : Int32) (x4 : Int32), f_X5_couple_19 M k6 n x1 x2 x3 x4 = some r → kx_Rn EM T_X5_couple (d + 1) (19, [some (.ref 0), some (.int x1), some (.int x2), some (.int x3), some (.int x4), none], [], M) (some (.int r)) M := by
  intro n
  induction n with
  | zero =>
    intro x1 x2 x3 x4 h
    cases (show (none : Option Int32) = some _ from h)
  | succ n ih =>
    intro x1 x2 x3 x4 h
    rw [f_X5_couple_19.eq_2] at h
    refine kx_go (pc' := 22) (L' := [some (.ref 0), some (.int x1), some (.int x2), some (.int x3), some (.int x4), none]) (st' := [.ref 0, .int x4]) 2 rfl ?_
    refine kx_q_getI (k := 4) kmo_0 rfl kfl_X5_82 rfl ?_
    refine kx_r_icmp_ge rfl (fun hc1 => ?_) (fun hc1 => ?_)
    · rw [if_pos hc1] at h
      refine kx_go (pc' := 76) (L' := [some (.ref 0), some (.int x1), some (.int x2), some (.int (x3 + (1))), some (.int x4), none]) (st' := []) 1 rfl ?_
      refine kx_r_goto rfl ?_
      refine kx_wk [true, true, true, true, false, false] ?_
      exact hk6 x1 x2 (x3 + (1)) h
    · rw [if_neg hc1] at h
      refine kx_go (pc' := 29) (L' := [some (.ref 0), some (.int x1), some (.int x2), some (.int x3), some (.int x4), none]) (st' := [.ref 0]) 1 rfl ?_
      refine kx_q_getR (k := 8) (j := 7) kmo_0 rfl kfl_X5_28 rfl ?_
      refine kx_go (pc' := 33) (L' := [some (.ref 0), some (.int x1), some (.int x2), some (.int x3), some (.int x4), none]) (st' := [.int x3, .ref 7]) 1 rfl ?_
      obtain ⟨hi2, h⟩ := kx_ck_some h
      refine kx_q_iald (kma_7) rfl hi2 ?_
      refine kx_go (pc' := 35) (L' := [some (.ref 0), some (.int x1), some (.int x2), some (.int x3), some (.int x4), none]) (st' := [.ref 0, .int (M.1 7 (x3).toNatClampNeg)]) 1 rfl ?_
      refine kx_q_getR (k := 8) (j := 7) kmo_0 rfl kfl_X5_28 rfl ?_
      refine kx_go (pc' := 40) (L' := [some (.ref 0), some (.int x1), some (.int x2), some (.int x3), some (.int x4), none]) (st' := [.int x4, .ref 7, .int (M.1 7 (x3).toNatClampNeg)]) 1 rfl ?_
      obtain ⟨hi3, h⟩ := kx_ck_some h
      refine kx_q_iald (kma_7) rfl hi3 ?_
      refine kx_go (pc' := 42) (L' := [some (.ref 0), some (.int x1), some (.int x2), some (.int x3), some (.int x4), none]) (st' := [.int ((M.1 7 (x3).toNatClampNeg) ||| (M.1 7 (x4).toNatClampNeg))]) 1 rfl ?_
      refine kx_r_callS (as := [.int ((M.1 7 (x3).toNatClampNeg) ||| (M.1 7 (x4).toNatClampNeg))]) (rest := []) (M1 := M) (rv := some (.int (f_J6_bitCount_0f7a4 ((M.1 7 (x3).toNatClampNeg) ||| (M.1 7 (x4).toNatClampNeg))))) rfl klk_X5_194 kst_J6_bitCount_0f7a4 rfl rfl (Nat.le_of_ble_eq_true rfl) (Nat.le_of_ble_eq_true rfl) (c_J6_bitCount_0f7a4 (d := d + 0) ((M.1 7 (x3).toNatClampNeg) ||| (M.1 7 (x4).toNatClampNeg)) M (f_J6_bitCount_0f7a4 ((M.1 7 (x3).toNatClampNeg) ||| (M.1 7 (x4).toNatClampNeg))) rfl) ?_
      show kx_Rn _ _ _ (45, [some (.ref 0), some (.int x1), some (.int x2), some (.int x3), some (.int x4), none], [.int (f_J6_bitCount_0f7a4 ((M.1 7 (x3).toNatClampNeg) ||| (M.1 7 (x4).toNatClampNeg)))], M) _ _
      refine kx_go (pc' := 50) (L' := [some (.ref 0), some (.int x1), some (.int x2), some (.int x3), some (.int x4), some (.int (f_J6_bitCount_0f7a4 ((M.1 7 (x3).toNatClampNeg) ||| (M.1 7 (x4).toNatClampNeg))))]) (st' := [.int x2, .int (f_J6_bitCount_0f7a4 ((M.1 7 (x3).toNatClampNeg) ||| (M.1 7 (x4).toNatClampNeg)))]) 3 rfl ?_
      refine kx_r_icmp_gt rfl (fun hc4 => ?_) (fun hc4 => ?_)
      · rw [if_pos hc4] at h
        refine kx_go (pc' := 70) (L' := [some (.ref 0), some (.int (((10 : Int32) * x3) + x4)), some (.int (f_J6_bitCount_0f7a4 ((M.1 7 (x3).toNatClampNeg) ||| (M.1 7 (x4).toNatClampNeg)))), some (.int x3), some (.int (x4 + (1))), some (.int (f_J6_bitCount_0f7a4 ((M.1 7 (x3).toNatClampNeg) ||| (M.1 7 (x4).toNatClampNeg))))]) (st' := []) 9 rfl ?_
        refine kx_r_goto rfl ?_
        refine kx_wk [true, true, true, true, true, false] ?_
        exact ih (((10 : Int32) * x3) + x4) (f_J6_bitCount_0f7a4 ((M.1 7 (x3).toNatClampNeg) ||| (M.1 7 (x4).toNatClampNeg))) x3 (x4 + (1)) h
      · rw [if_neg hc4] at h
        refine kx_r_goto rfl ?_
        refine kx_go (pc' := 70) (L' := [some (.ref 0), some (.int x1), some (.int x2), some (.int x3), some (.int (x4 + (1))), some (.int (f_J6_bitCount_0f7a4 ((M.1 7 (x3).toNatClampNeg) ||| (M.1 7 (x4).toNatClampNeg))))]) (st' := []) 1 rfl ?_
        refine kx_r_goto rfl ?_
        refine kx_wk [true, true, true, true, true, false] ?_
        exact ih x1 x2 x3 (x4 + (1)) h
set_option maxRecDepth 100000 in
set_option maxHeartbeats 4000000 in
theorem t_X5_couple_6 {d : Nat} {r : Int32} (M : kx_M) : ∀ (n : Nat) (x1 : Int32) (x2 : Int32) (x3 : Int32), f_X5_couple_6 M n x1 x2 x3 = some r → kx_Rn EM T_X5_couple (d + 1) (6, [some (.ref 0), some (.int x1), some (.int x2), some (.int x3), none, none], [], M) (some (.int r)) M := by
  intro n
  induction n with
  | zero =>
    intro x1 x2 x3 h
    cases (show (none : Option Int32) = some _ from h)
  | succ n ih =>
    intro x1 x2 x3 h
    rw [f_X5_couple_6.eq_2] at h
    refine kx_go (pc' := 8) (L' := [some (.ref 0), some (.int x1), some (.int x2), some (.int x3), none, none]) (st' := [.ref 0, .int x3]) 2 rfl ?_
    refine kx_q_getI (k := 4) kmo_0 rfl kfl_X5_82 rfl ?_
    refine kx_r_icmp_ge rfl (fun hc1 => ?_) (fun hc1 => ?_)
    · rw [if_pos hc1] at h
      refine kx_go (pc' := 80) (L' := [some (.ref 0), some (.int x1), some (.int x2), some (.int x3), none, none]) (st' := [.int x1]) 1 rfl ?_
      cases h
      exact kx_r_iret rfl rfl
    · rw [if_neg hc1] at h
      refine kx_go (pc' := 19) (L' := [some (.ref 0), some (.int x1), some (.int x2), some (.int x3), some (.int (x3 + (1 : Int32))), none]) (st' := []) 4 rfl ?_
      refine kx_wk [true, true, true, true, true, false] ?_
      exact t_X5_couple_19 M (f_X5_couple_6 M n) ih kx_fuel x1 x2 x3 (x3 + (1 : Int32)) h
set_option maxRecDepth 100000 in
set_option maxHeartbeats 4000000 in
theorem t_X5_couple {d : Nat} {r : Int32} (M : kx_M) (h : f_X5_couple M = some r) : kx_Rn EM T_X5_couple (d + 1) (0, [some (.ref 0), none, none, none, none, none], [], M) (some (.int r)) M := by
  unfold f_X5_couple at h
  refine kx_go (pc' := 6) (L' := [some (.ref 0), some (.int (-1 : Int32)), some (.int (-1 : Int32)), some (.int (0 : Int32)), none, none]) (st' := []) 6 rfl ?_
  refine kx_wk [true, true, true, true, false, false] ?_
  exact t_X5_couple_6 M kx_fuel (-1 : Int32) (-1 : Int32) (0 : Int32) h
theorem c_X5_couple {d : Nat} (M : kx_M) (r : Int32) (h : f_X5_couple M = some r) : kx_Call EM (d + 1) T_X5_couple [.ref 0] M (some (.int r)) M := kx_entry kok_X5_couple (Nat.le_of_ble_eq_true rfl) rfl (t_X5_couple (d := d) M h)
set_option maxRecDepth 100000 in
set_option maxHeartbeats 4000000 in
theorem t_J6_numberOfTrailingZeros_0f7a4_62 {E : kx_E} {d : Nat} {r : Int32} (M : kx_M) (x0 : Int32) (x1 : Int32) (h : f_J6_numberOfTrailingZeros_0f7a4_62 x0 x1 = r) : kx_Rn E T_J6_numberOfTrailingZeros_0f7a4 (d + 0) (62, [some (.int x0), some (.int x1)], [], M) (some (.int r)) M := by
  unfold f_J6_numberOfTrailingZeros_0f7a4_62 at h
  refine kx_go (pc' := 64) (L' := [some (.int x0), some (.int x1)]) (st' := [.int (4 : Int32), .int x0]) 2 rfl ?_
  refine kx_r_icmp_le rfl (fun hc1 => ?_) (fun hc1 => ?_)
  · rw [if_pos hc1] at h
    refine kx_go (pc' := 79) (L' := [some (.int x0), some (.int x1)]) (st' := [.int (x1 + ((x0).toUInt32 >>> (((1 : Int32)).toUInt32 &&& Int32.toUInt32 31)).toInt32)]) 5 rfl ?_
    subst h
    exact kx_r_iret rfl rfl
  · rw [if_neg hc1] at h
    refine kx_go (pc' := 79) (L' := [some (.int ((x0).toUInt32 >>> (((2 : Int32)).toUInt32 &&& Int32.toUInt32 31)).toInt32), some (.int (x1 + (2)))]) (st' := [.int ((x1 + (2)) + ((((x0).toUInt32 >>> (((2 : Int32)).toUInt32 &&& Int32.toUInt32 31)).toInt32).toUInt32 >>> (((1 : Int32)).toUInt32 &&& Int32.toUInt32 31)).toInt32)]) 10 rfl ?_
    subst h
    exact kx_r_iret rfl rfl
set_option maxRecDepth 100000 in
set_option maxHeartbeats 4000000 in
theorem t_J6_numberOfTrailingZeros_0f7a4_49 {E : kx_E} {d : Nat} {r : Int32} (M : kx_M) (x0 : Int32) (x1 : Int32) (h : f_J6_numberOfTrailingZeros_0f7a4_49 x0 x1 = r) : kx_Rn E T_J6_numberOfTrailingZeros_0f7a4 (d + 0) (49, [some (.int x0), some (.int x1)], [], M) (some (.int r)) M := by
  unfold f_J6_numberOfTrailingZeros_0f7a4_49 at h
  refine kx_go (pc' := 52) (L' := [some (.int x0), some (.int x1)]) (st' := [.int (16 : Int32), .int x0]) 2 rfl ?_
  refine kx_r_icmp_le rfl (fun hc1 => ?_) (fun hc1 => ?_)
  · rw [if_pos hc1] at h
    refine kx_wk [true, true] ?_
    exact t_J6_numberOfTrailingZeros_0f7a4_62 M x0 x1 h
  · rw [if_neg hc1] at h
    refine kx_go (pc' := 62) (L' := [some (.int ((x0).toUInt32 >>> (((4 : Int32)).toUInt32 &&& Int32.toUInt32 31)).toInt32), some (.int (x1 + (4)))]) (st' := []) 5 rfl ?_
    refine kx_wk [true, true] ?_
    exact t_J6_numberOfTrailingZeros_0f7a4_62 M ((x0).toUInt32 >>> (((4 : Int32)).toUInt32 &&& Int32.toUInt32 31)).toInt32 (x1 + (4)) h
set_option maxRecDepth 100000 in
set_option maxHeartbeats 4000000 in
theorem t_J6_numberOfTrailingZeros_0f7a4_34 {E : kx_E} {d : Nat} {r : Int32} (M : kx_M) (x0 : Int32) (x1 : Int32) (h : f_J6_numberOfTrailingZeros_0f7a4_34 x0 x1 = r) : kx_Rn E T_J6_numberOfTrailingZeros_0f7a4 (d + 0) (34, [some (.int x0), some (.int x1)], [], M) (some (.int r)) M := by
  unfold f_J6_numberOfTrailingZeros_0f7a4_34 at h
  refine kx_go (pc' := 38) (L' := [some (.int x0), some (.int x1)]) (st' := [.int (256 : Int32), .int x0]) 2 rfl ?_
  refine kx_r_icmp_le rfl (fun hc1 => ?_) (fun hc1 => ?_)
  · rw [if_pos hc1] at h
    refine kx_wk [true, true] ?_
    exact t_J6_numberOfTrailingZeros_0f7a4_49 M x0 x1 h
  · rw [if_neg hc1] at h
    refine kx_go (pc' := 49) (L' := [some (.int ((x0).toUInt32 >>> (((8 : Int32)).toUInt32 &&& Int32.toUInt32 31)).toInt32), some (.int (x1 + (8)))]) (st' := []) 5 rfl ?_
    refine kx_wk [true, true] ?_
    exact t_J6_numberOfTrailingZeros_0f7a4_49 M ((x0).toUInt32 >>> (((8 : Int32)).toUInt32 &&& Int32.toUInt32 31)).toInt32 (x1 + (8)) h
set_option maxRecDepth 100000 in
set_option maxHeartbeats 4000000 in
theorem t_J6_numberOfTrailingZeros_0f7a4 {E : kx_E} {d : Nat} {r : Int32} (M : kx_M) (a0 : Int32) (h : f_J6_numberOfTrailingZeros_0f7a4 a0 = r) : kx_Rn E T_J6_numberOfTrailingZeros_0f7a4 (d + 0) (0, [some (.int a0), none], [], M) (some (.int r)) M := by
  unfold f_J6_numberOfTrailingZeros_0f7a4 at h
  refine kx_go (pc' := 9) (L' := [some (.int ((a0 ^^^ (-1 : Int32)) &&& (a0 - (1 : Int32)))), none]) (st' := [.int ((a0 ^^^ (-1 : Int32)) &&& (a0 - (1 : Int32)))]) 9 rfl ?_
  refine kx_r_if_gt rfl (fun hc1 => ?_) (fun hc1 => ?_)
  · rw [if_pos hc1] at h
    refine kx_go (pc' := 20) (L' := [some (.int ((a0 ^^^ (-1 : Int32)) &&& (a0 - (1 : Int32)))), some (.int (1 : Int32))]) (st' := [.int ((a0 ^^^ (-1 : Int32)) &&& (a0 - (1 : Int32)))]) 3 rfl ?_
    refine kx_r_ldc1 (v := 65536) rfl kcs_J6_264 ?_
    refine kx_r_icmp_le rfl (fun hc2 => ?_) (fun hc2 => ?_)
    · rw [if_pos hc2] at h
      refine kx_wk [true, true] ?_
      exact t_J6_numberOfTrailingZeros_0f7a4_34 M ((a0 ^^^ (-1 : Int32)) &&& (a0 - (1 : Int32))) (1 : Int32) h
    · rw [if_neg hc2] at h
      refine kx_go (pc' := 34) (L' := [some (.int ((((a0 ^^^ (-1 : Int32)) &&& (a0 - (1 : Int32)))).toUInt32 >>> (((16 : Int32)).toUInt32 &&& Int32.toUInt32 31)).toInt32), some (.int ((1 : Int32) + (16)))]) (st' := []) 5 rfl ?_
      obtain ⟨y3, hy3, h⟩ := kx_lt_ex h
      rw [← hy3]
      refine kx_wk [true, true] ?_
      exact t_J6_numberOfTrailingZeros_0f7a4_34 M y3 ((1 : Int32) + (16)) h
  · rw [if_neg hc1] at h
    refine kx_go (pc' := 16) (L' := [some (.int ((a0 ^^^ (-1 : Int32)) &&& (a0 - (1 : Int32)))), none]) (st' := [.int (((a0 ^^^ (-1 : Int32)) &&& (a0 - (1 : Int32))) &&& (32 : Int32))]) 3 rfl ?_
    subst h
    exact kx_r_iret rfl rfl
theorem c_J6_numberOfTrailingZeros_0f7a4 {E : kx_E} {d : Nat} (a0 : Int32) (M : kx_M) (r : Int32) (h : f_J6_numberOfTrailingZeros_0f7a4 a0 = r) : kx_Call E (d + 0) T_J6_numberOfTrailingZeros_0f7a4 [.int a0] M (some (.int r)) M := kx_entry kok_J6_numberOfTrailingZeros_0f7a4 (Nat.le_of_ble_eq_true rfl) rfl (t_J6_numberOfTrailingZeros_0f7a4 (d := d) M a0 h)
set_option maxRecDepth 100000 in
set_option maxHeartbeats 4000000 in
theorem t_X5_secret {d : Nat} {r : Int32} {M' : kx_M} (a0 : Int32) (M : kx_M) (h : f_X5_secret a0 M = some (r, M')) : kx_Rn EM T_X5_secret (d + 2) (0, [some (.ref 0), some (.int a0), none], [], M) (some (.int r)) M' := by
  unfold f_X5_secret at h
  refine kx_go (pc' := 2) (L' := [some (.ref 0), some (.int a0), none]) (st' := [.int a0, .ref 0]) 2 rfl ?_
  refine kx_q_callV (as := [.int a0]) (rest := []) (M1 := M) (rv := some (.int (kx_bi (f_X5_isCell M a0)))) kmo_0 rfl klk_X5_120 kse_X5_isCell rfl rfl rfl rfl (Nat.le_of_ble_eq_true rfl) (Nat.le_of_ble_eq_true rfl) (c_X5_isCell (d := d + 0) a0 M (f_X5_isCell M a0) rfl) ?_
  show kx_Rn _ _ _ (5, [some (.ref 0), some (.int a0), none], [.int (kx_bi (f_X5_isCell M a0))], M) _ _
  refine kx_q_zne rfl (fun hc1 => ?_) (fun hc1 => ?_)
  · rw [if_pos hc1] at h
    refine kx_go (pc' := 17) (L' := [some (.ref 0), some (.int a0), none]) (st' := [.int a0, .ref 0]) 2 rfl ?_
    obtain ⟨v2, hv3, h⟩ := kx_bn_some h
    refine kx_q_callV (as := [.int a0]) (rest := []) (M1 := M) (rv := some (.int v2)) kmo_0 rfl klk_X5_202 kse_X5_seenBy rfl rfl rfl rfl (Nat.le_of_ble_eq_true rfl) (Nat.le_of_ble_eq_true rfl) (c_X5_seenBy (d := d + 0) a0 M v2 hv3) ?_
    show kx_Rn _ _ _ (20, [some (.ref 0), some (.int a0), none], [.int v2], M) _ _
    refine kx_go (pc' := 22) (L' := [some (.ref 0), some (.int a0), some (.int v2)]) (st' := [.int v2]) 2 rfl ?_
    refine kx_r_callS (as := [.int v2]) (rest := []) (M1 := M) (rv := some (.int (f_J6_bitCount_0f7a4 v2))) rfl klk_X5_194 kst_J6_bitCount_0f7a4 rfl rfl (Nat.le_of_ble_eq_true rfl) (Nat.le_of_ble_eq_true rfl) (c_J6_bitCount_0f7a4 (d := d + 1) v2 M (f_J6_bitCount_0f7a4 v2) rfl) ?_
    show kx_Rn _ _ _ (25, [some (.ref 0), some (.int a0), some (.int v2)], [.int (f_J6_bitCount_0f7a4 v2)], M) _ _
    refine kx_go (pc' := 26) (L' := [some (.ref 0), some (.int a0), some (.int v2)]) (st' := [.int (1 : Int32), .int (f_J6_bitCount_0f7a4 v2)]) 1 rfl ?_
    refine kx_r_icmp_ne rfl (fun hc4 => ?_) (fun hc4 => ?_)
    · rw [if_neg hc4] at h
      refine kx_go (pc' := 37) (L' := [some (.ref 0), some (.int a0), some (.int v2)]) (st' := [.int (-1 : Int32)]) 1 rfl ?_
      cases h
      exact kx_r_iret rfl rfl
    · rw [if_pos hc4] at h
      refine kx_go (pc' := 30) (L' := [some (.ref 0), some (.int a0), some (.int v2)]) (st' := [.int v2]) 1 rfl ?_
      refine kx_r_callS (as := [.int v2]) (rest := []) (M1 := M) (rv := some (.int (f_J6_numberOfTrailingZeros_0f7a4 v2))) rfl klk_X5_283 kst_J6_numberOfTrailingZeros_0f7a4 rfl rfl (Nat.le_of_ble_eq_true rfl) (Nat.le_of_ble_eq_true rfl) (c_J6_numberOfTrailingZeros_0f7a4 (d := d + 1) v2 M (f_J6_numberOfTrailingZeros_0f7a4 v2) rfl) ?_
      show kx_Rn _ _ _ (33, [some (.ref 0), some (.int a0), some (.int v2)], [.int (f_J6_numberOfTrailingZeros_0f7a4 v2)], M) _ _
      refine kx_r_goto rfl ?_
      cases h
      exact kx_r_iret rfl rfl
  · rw [if_neg hc1] at h
    refine kx_go (pc' := 11) (L' := [some (.ref 0), some (.int a0), none]) (st' := [.int (-2 : Int32), .ref 0]) 2 rfl ?_
    obtain ⟨v5, M7, hv6, h⟩ := kx_bd_some h
    refine kx_q_callV (as := [.int (-2 : Int32)]) (rest := []) (M1 := M7) (rv := some (.int v5)) kmo_0 rfl klk_X5_89 kse_X5_no rfl rfl rfl rfl (Nat.le_of_ble_eq_true rfl) (Nat.le_of_ble_eq_true rfl) (c_X5_no (d := d + 1) (-2 : Int32) M v5 M7 hv6) ?_
    show kx_Rn _ _ _ (14, [some (.ref 0), some (.int a0), none], [.int v5], M7) _ _
    cases h
    exact kx_r_iret rfl rfl
theorem c_X5_secret {d : Nat} (a0 : Int32) (M : kx_M) (r : Int32) (M' : kx_M) (h : f_X5_secret a0 M = some (r, M')) : kx_Call EM (d + 2) T_X5_secret [.ref 0, .int a0] M (some (.int r)) M' := kx_entry kok_X5_secret (Nat.le_of_ble_eq_true rfl) rfl (t_X5_secret (d := d) a0 M h)
set_option maxRecDepth 100000 in
set_option maxHeartbeats 4000000 in
theorem t_X5_rank_30 {d : Nat} {r : Int32} {M' : kx_M} (k17 : Int32 → Int32 → kx_M → Option (Int32 × kx_M)) (hk17 : ∀ (x1 : Int32) (x2 : Int32) (M : kx_M), k17 x1 x2 M = some (r, M') → kx_Rn EM T_X5_rank (d + 2) (17, [some (.ref 0), some (.int x1), some (.int x2), none, none, none], [], M) (some (.int r)) M') : ∀ (n : Nat) (x1 : Int32) (x2 : Int32) (x3 : Int32) (x4 : Int32) (M : kx_M), f_X5_rank_30 k17 n x1 x2 x3 x4 M = some (r, M') → kx_Rn EM T_X5_rank (d + 2) (30, [some (.ref 0), some (.int x1), some (.int x2), some (.int x3), some (.int x4), none], [], M) (some (.int r)) M' := by
  intro n
  induction n with
  | zero =>
    intro x1 x2 x3 x4 M h
    cases (show (none : Option (Int32 × kx_M)) = some _ from h)
  | succ n ih =>
    intro x1 x2 x3 x4 M h
    rw [f_X5_rank_30.eq_2] at h
    refine kx_go (pc' := 33) (L' := [some (.ref 0), some (.int x1), some (.int x2), some (.int x3), some (.int x4), none]) (st' := [.ref 0, .int x4]) 2 rfl ?_
    refine kx_q_getI (k := 4) kmo_0 rfl kfl_X5_82 rfl ?_
    refine kx_r_icmp_ge rfl (fun hc1 => ?_) (fun hc1 => ?_)
    · rw [if_pos hc1] at h
      refine kx_go (pc' := 88) (L' := [some (.ref 0), some (.int x1), some (.int x2), some (.int x3), some (.int x4), none]) (st' := [.int x1, .int x3]) 2 rfl ?_
      refine kx_r_icmp_ne rfl (fun hc2 => ?_) (fun hc2 => ?_)
      · rw [if_neg hc2] at h
        refine kx_go (pc' := 96) (L' := [some (.ref 0), some (.int x1), some (.int (x2 + (1))), some (.int x3), some (.int x4), none]) (st' := []) 1 rfl ?_
        refine kx_r_goto rfl ?_
        refine kx_wk [true, true, true, false, false, false] ?_
        exact hk17 x1 (x2 + (1)) M h
      · rw [if_pos hc2] at h
        refine kx_go (pc' := 92) (L' := [some (.ref 0), some (.int x1), some (.int x2), some (.int x3), some (.int x4), none]) (st' := [.int x2]) 1 rfl ?_
        cases h
        exact kx_r_iret rfl rfl
    · rw [if_neg hc1] at h
      refine kx_go (pc' := 40) (L' := [some (.ref 0), some (.int x1), some (.int x2), some (.int x3), some (.int x4), none]) (st' := [.ref 0]) 1 rfl ?_
      refine kx_q_getR (k := 8) (j := 7) kmo_0 rfl kfl_X5_28 rfl ?_
      refine kx_go (pc' := 45) (L' := [some (.ref 0), some (.int x1), some (.int x2), some (.int x3), some (.int x4), none]) (st' := [.int x4, .ref 7]) 1 rfl ?_
      obtain ⟨hi3, h⟩ := kx_ck_some h
      refine kx_q_iald (kma_7) rfl hi3 ?_
      refine kx_r_callS (as := [.int (M.1 7 (x4).toNatClampNeg)]) (rest := []) (M1 := M) (rv := some (.int (f_J6_bitCount_0f7a4 (M.1 7 (x4).toNatClampNeg)))) rfl klk_X5_194 kst_J6_bitCount_0f7a4 rfl rfl (Nat.le_of_ble_eq_true rfl) (Nat.le_of_ble_eq_true rfl) (c_J6_bitCount_0f7a4 (d := d + 1) (M.1 7 (x4).toNatClampNeg) M (f_J6_bitCount_0f7a4 (M.1 7 (x4).toNatClampNeg)) rfl) ?_
      show kx_Rn _ _ _ (49, [some (.ref 0), some (.int x1), some (.int x2), some (.int x3), some (.int x4), none], [.int (f_J6_bitCount_0f7a4 (M.1 7 (x4).toNatClampNeg))], M) _ _
      refine kx_go (pc' := 50) (L' := [some (.ref 0), some (.int x1), some (.int x2), some (.int x3), some (.int x4), none]) (st' := [.ref 0, .int (f_J6_bitCount_0f7a4 (M.1 7 (x4).toNatClampNeg))]) 1 rfl ?_
      refine kx_q_getR (k := 8) (j := 7) kmo_0 rfl kfl_X5_28 rfl ?_
      refine kx_go (pc' := 54) (L' := [some (.ref 0), some (.int x1), some (.int x2), some (.int x3), some (.int x4), none]) (st' := [.int x2, .ref 7, .int (f_J6_bitCount_0f7a4 (M.1 7 (x4).toNatClampNeg))]) 1 rfl ?_
      obtain ⟨hi4, h⟩ := kx_ck_some h
      refine kx_q_iald (kma_7) rfl hi4 ?_
      refine kx_r_callS (as := [.int (M.1 7 (x2).toNatClampNeg)]) (rest := [.int (f_J6_bitCount_0f7a4 (M.1 7 (x4).toNatClampNeg))]) (M1 := M) (rv := some (.int (f_J6_bitCount_0f7a4 (M.1 7 (x2).toNatClampNeg)))) rfl klk_X5_194 kst_J6_bitCount_0f7a4 rfl rfl (Nat.le_of_ble_eq_true rfl) (Nat.le_of_ble_eq_true rfl) (c_J6_bitCount_0f7a4 (d := d + 1) (M.1 7 (x2).toNatClampNeg) M (f_J6_bitCount_0f7a4 (M.1 7 (x2).toNatClampNeg)) rfl) ?_
      show kx_Rn _ _ _ (58, [some (.ref 0), some (.int x1), some (.int x2), some (.int x3), some (.int x4), none], [.int (f_J6_bitCount_0f7a4 (M.1 7 (x2).toNatClampNeg)), .int (f_J6_bitCount_0f7a4 (M.1 7 (x4).toNatClampNeg))], M) _ _
      refine kx_go (pc' := 63) (L' := [some (.ref 0), some (.int x1), some (.int x2), some (.int x3), some (.int x4), some (.int ((f_J6_bitCount_0f7a4 (M.1 7 (x4).toNatClampNeg)) - (f_J6_bitCount_0f7a4 (M.1 7 (x2).toNatClampNeg))))]) (st' := [.int ((f_J6_bitCount_0f7a4 (M.1 7 (x4).toNatClampNeg)) - (f_J6_bitCount_0f7a4 (M.1 7 (x2).toNatClampNeg)))]) 3 rfl ?_
      refine kx_r_if_gt rfl (fun hc5 => ?_) (fun hc5 => ?_)
      · rw [if_pos hc5] at h
        refine kx_go (pc' := 83) (L' := [some (.ref 0), some (.int x1), some (.int x2), some (.int (x3 + (1))), some (.int (x4 + (1))), some (.int ((f_J6_bitCount_0f7a4 (M.1 7 (x4).toNatClampNeg)) - (f_J6_bitCount_0f7a4 (M.1 7 (x2).toNatClampNeg))))]) (st' := []) 2 rfl ?_
        refine kx_r_goto rfl ?_
        refine kx_wk [true, true, true, true, true, false] ?_
        exact ih x1 x2 (x3 + (1)) (x4 + (1)) M h
      · rw [if_neg hc5] at h
        refine kx_go (pc' := 68) (L' := [some (.ref 0), some (.int x1), some (.int x2), some (.int x3), some (.int x4), some (.int ((f_J6_bitCount_0f7a4 (M.1 7 (x4).toNatClampNeg)) - (f_J6_bitCount_0f7a4 (M.1 7 (x2).toNatClampNeg))))]) (st' := [.int ((f_J6_bitCount_0f7a4 (M.1 7 (x4).toNatClampNeg)) - (f_J6_bitCount_0f7a4 (M.1 7 (x2).toNatClampNeg)))]) 1 rfl ?_
        refine kx_r_if_ne rfl (fun hc6 => ?_) (fun hc6 => ?_)
        · rw [if_neg hc6] at h
          refine kx_go (pc' := 83) (L' := [some (.ref 0), some (.int x1), some (.int x2), some (.int x3), some (.int (x4 + (1))), some (.int ((f_J6_bitCount_0f7a4 (M.1 7 (x4).toNatClampNeg)) - (f_J6_bitCount_0f7a4 (M.1 7 (x2).toNatClampNeg))))]) (st' := []) 1 rfl ?_
          refine kx_r_goto rfl ?_
          refine kx_wk [true, true, true, true, true, false] ?_
          exact ih x1 x2 x3 (x4 + (1)) M h
        · rw [if_pos hc6] at h
          refine kx_go (pc' := 74) (L' := [some (.ref 0), some (.int x1), some (.int x2), some (.int x3), some (.int x4), some (.int ((f_J6_bitCount_0f7a4 (M.1 7 (x4).toNatClampNeg)) - (f_J6_bitCount_0f7a4 (M.1 7 (x2).toNatClampNeg))))]) (st' := [.int x2, .int x4]) 2 rfl ?_
          refine kx_r_icmp_ge rfl (fun hc7 => ?_) (fun hc7 => ?_)
          · rw [if_pos hc7] at h
            refine kx_go (pc' := 83) (L' := [some (.ref 0), some (.int x1), some (.int x2), some (.int x3), some (.int (x4 + (1))), some (.int ((f_J6_bitCount_0f7a4 (M.1 7 (x4).toNatClampNeg)) - (f_J6_bitCount_0f7a4 (M.1 7 (x2).toNatClampNeg))))]) (st' := []) 1 rfl ?_
            refine kx_r_goto rfl ?_
            refine kx_wk [true, true, true, true, true, false] ?_
            exact ih x1 x2 x3 (x4 + (1)) M h
          · rw [if_neg hc7] at h
            refine kx_go (pc' := 83) (L' := [some (.ref 0), some (.int x1), some (.int x2), some (.int (x3 + (1))), some (.int (x4 + (1))), some (.int ((f_J6_bitCount_0f7a4 (M.1 7 (x4).toNatClampNeg)) - (f_J6_bitCount_0f7a4 (M.1 7 (x2).toNatClampNeg))))]) (st' := []) 2 rfl ?_
            refine kx_r_goto rfl ?_
            refine kx_wk [true, true, true, true, true, false] ?_
            exact ih x1 x2 (x3 + (1)) (x4 + (1)) M h
set_option maxRecDepth 100000 in
set_option maxHeartbeats 4000000 in
theorem t_X5_rank_17 {d : Nat} {r : Int32} {M' : kx_M} : ∀ (n : Nat) (x1 : Int32) (x2 : Int32) (M : kx_M), f_X5_rank_17 n x1 x2 M = some (r, M') → kx_Rn EM T_X5_rank (d + 2) (17, [some (.ref 0), some (.int x1), some (.int x2), none, none, none], [], M) (some (.int r)) M' := by
  intro n
  induction n with
  | zero =>
    intro x1 x2 M h
    cases (show (none : Option (Int32 × kx_M)) = some _ from h)
  | succ n ih =>
    intro x1 x2 M h
    rw [f_X5_rank_17.eq_2] at h
    refine kx_go (pc' := 19) (L' := [some (.ref 0), some (.int x1), some (.int x2), none, none, none]) (st' := [.ref 0, .int x2]) 2 rfl ?_
    refine kx_q_getI (k := 4) kmo_0 rfl kfl_X5_82 rfl ?_
    refine kx_r_icmp_ge rfl (fun hc1 => ?_) (fun hc1 => ?_)
    · rw [if_pos hc1] at h
      refine kx_go (pc' := 100) (L' := [some (.ref 0), some (.int x1), some (.int x2), none, none, none]) (st' := [.int (-1 : Int32)]) 1 rfl ?_
      cases h
      exact kx_r_iret rfl rfl
    · rw [if_neg hc1] at h
      refine kx_go (pc' := 30) (L' := [some (.ref 0), some (.int x1), some (.int x2), some (.int (0 : Int32)), some (.int (0 : Int32)), none]) (st' := []) 4 rfl ?_
      refine kx_wk [true, true, true, true, true, false] ?_
      exact t_X5_rank_30 (f_X5_rank_17 n) ih kx_fuel x1 x2 (0 : Int32) (0 : Int32) M h
set_option maxRecDepth 100000 in
set_option maxHeartbeats 4000000 in
theorem t_X5_rank {d : Nat} {r : Int32} {M' : kx_M} (a0 : Int32) (M : kx_M) (h : f_X5_rank a0 M = some (r, M')) : kx_Rn EM T_X5_rank (d + 2) (0, [some (.ref 0), some (.int a0), none, none, none, none], [], M) (some (.int r)) M' := by
  unfold f_X5_rank at h
  refine kx_go (pc' := 2) (L' := [some (.ref 0), some (.int a0), none, none, none, none]) (st' := [.int a0, .ref 0]) 2 rfl ?_
  refine kx_q_callV (as := [.int a0]) (rest := []) (M1 := M) (rv := some (.int (kx_bi (f_X5_isOne M a0)))) kmo_0 rfl klk_X5_103 kse_X5_isOne rfl rfl rfl rfl (Nat.le_of_ble_eq_true rfl) (Nat.le_of_ble_eq_true rfl) (c_X5_isOne (d := d + 0) a0 M (f_X5_isOne M a0) rfl) ?_
  show kx_Rn _ _ _ (5, [some (.ref 0), some (.int a0), none, none, none, none], [.int (kx_bi (f_X5_isOne M a0))], M) _ _
  refine kx_q_zne rfl (fun hc1 => ?_) (fun hc1 => ?_)
  · rw [if_pos hc1] at h
    refine kx_go (pc' := 17) (L' := [some (.ref 0), some (.int a0), some (.int (0 : Int32)), none, none, none]) (st' := []) 2 rfl ?_
    refine kx_wk [true, true, true, false, false, false] ?_
    exact t_X5_rank_17 kx_fuel a0 (0 : Int32) M h
  · rw [if_neg hc1] at h
    refine kx_go (pc' := 11) (L' := [some (.ref 0), some (.int a0), none, none, none, none]) (st' := [.int (-2 : Int32), .ref 0]) 2 rfl ?_
    obtain ⟨v2, M4, hv3, h⟩ := kx_bd_some h
    refine kx_q_callV (as := [.int (-2 : Int32)]) (rest := []) (M1 := M4) (rv := some (.int v2)) kmo_0 rfl klk_X5_89 kse_X5_no rfl rfl rfl rfl (Nat.le_of_ble_eq_true rfl) (Nat.le_of_ble_eq_true rfl) (c_X5_no (d := d + 1) (-2 : Int32) M v2 M4 hv3) ?_
    show kx_Rn _ _ _ (14, [some (.ref 0), some (.int a0), none, none, none, none], [.int v2], M4) _ _
    cases h
    exact kx_r_iret rfl rfl
theorem c_X5_rank {d : Nat} (a0 : Int32) (M : kx_M) (r : Int32) (M' : kx_M) (h : f_X5_rank a0 M = some (r, M')) : kx_Call EM (d + 2) T_X5_rank [.ref 0, .int a0] M (some (.int r)) M' := kx_entry kok_X5_rank (Nat.le_of_ble_eq_true rfl) rfl (t_X5_rank (d := d) a0 M h)
set_option maxRecDepth 100000 in
set_option maxHeartbeats 4000000 in
theorem t_X5_blind_36 {d : Nat} {r : Int32} {M' : kx_M} : ∀ (n : Nat) (x2 : Int32) (x3 : Int32) (x4 : Int32) (M : kx_M), f_X5_blind_36 n x2 x3 x4 M = some (r, M') → kx_Rn EM T_X5_blind (d + 5) (36, [some (.ref 0), none, some (.int x2), some (.int x3), some (.int x4)], [], M) (some (.int r)) M' := by
  intro n
  induction n with
  | zero =>
    intro x2 x3 x4 M h
    cases (show (none : Option (Int32 × kx_M)) = some _ from h)
  | succ n ih =>
    intro x2 x3 x4 M h
    rw [f_X5_blind_36.eq_2] at h
    refine kx_go (pc' := 39) (L' := [some (.ref 0), none, some (.int x2), some (.int x3), some (.int x4)]) (st' := [.ref 0, .int x4]) 2 rfl ?_
    refine kx_q_getI (k := 4) kmo_0 rfl kfl_X5_82 rfl ?_
    refine kx_r_icmp_ge rfl (fun hc1 => ?_) (fun hc1 => ?_)
    · rw [if_pos hc1] at h
      refine kx_go (pc' := 64) (L' := [some (.ref 0), none, some (.int x2), some (.int x3), some (.int x4)]) (st' := [.ref 0]) 1 rfl ?_
      refine kx_q_getR (k := 3) (j := 3) kmo_0 rfl kfl_X5_16 rfl ?_
      refine kx_go (pc' := 69) (L' := [some (.ref 0), none, some (.int x2), some (.int x3), some (.int x4)]) (st' := [.int x2, .int (0 : Int32), .ref 3]) 2 rfl ?_
      obtain ⟨hi2, h⟩ := kx_ck_some h
      refine kx_q_iast (kma_3) rfl hi2 ?_
      refine kx_go (pc' := 71) (L' := [some (.ref 0), none, some (.int x2), some (.int x3), some (.int x4)]) (st' := [.int x3]) 1 rfl ?_
      cases h
      exact kx_r_iret rfl rfl
    · rw [if_neg hc1] at h
      refine kx_go (pc' := 48) (L' := [some (.ref 0), none, some (.int x2), some (.int x3), some (.int x4)]) (st' := [.int x4, .ref 0]) 2 rfl ?_
      obtain ⟨v3, hv4, h⟩ := kx_bn_some h
      refine kx_q_callV (as := [.int x4]) (rest := []) (M1 := M) (rv := some (.int v3)) kmo_0 rfl klk_X5_253 kse_X5_shownAlone rfl rfl rfl rfl (Nat.le_of_ble_eq_true rfl) (Nat.le_of_ble_eq_true rfl) (c_X5_shownAlone (d := d + 0) x4 M v3 hv4) ?_
      show kx_Rn _ _ _ (51, [some (.ref 0), none, some (.int x2), some (.int x3), some (.int x4)], [.int v3], M) _ _
      refine kx_r_if_ne rfl (fun hc5 => ?_) (fun hc5 => ?_)
      · rw [if_neg hc5] at h
        refine kx_go (pc' := 60) (L' := [some (.ref 0), none, some (.int x2), some (.int x3), some (.int (x4 + (1)))]) (st' := []) 1 rfl ?_
        refine kx_r_goto rfl ?_
        refine kx_wk [true, false, true, true, true] ?_
        exact ih x2 x3 (x4 + (1)) M h
      · rw [if_pos hc5] at h
        refine kx_go (pc' := 60) (L' := [some (.ref 0), none, some (.int x2), some (.int (x3 + (1))), some (.int (x4 + (1)))]) (st' := []) 2 rfl ?_
        refine kx_r_goto rfl ?_
        refine kx_wk [true, false, true, true, true] ?_
        exact ih x2 (x3 + (1)) (x4 + (1)) M h
set_option maxRecDepth 100000 in
set_option maxHeartbeats 4000000 in
theorem t_X5_blind {d : Nat} {r : Int32} {M' : kx_M} (a0 : Int32) (M : kx_M) (h : f_X5_blind a0 M = some (r, M')) : kx_Rn EM T_X5_blind (d + 5) (0, [some (.ref 0), some (.int a0), none, none, none], [], M) (some (.int r)) M' := by
  unfold f_X5_blind at h
  refine kx_go (pc' := 4) (L' := [some (.ref 0), some (.int a0), none, none, none]) (st' := [.int (20 : Int32), .int (0 : Int32), .int a0]) 3 rfl ?_
  refine kx_r_callS (as := [.int a0, .int (0 : Int32), .int (20 : Int32)]) (rest := []) (M1 := M) (rv := some (.int (kx_bi (f_X5_within a0 (0 : Int32) (20 : Int32))))) rfl klk_X5_78 kst_X5_within rfl rfl (Nat.le_of_ble_eq_true rfl) (Nat.le_of_ble_eq_true rfl) (c_X5_within (d := d + 4) a0 (0 : Int32) (20 : Int32) M (f_X5_within a0 (0 : Int32) (20 : Int32)) rfl) ?_
  show kx_Rn _ _ _ (7, [some (.ref 0), some (.int a0), none, none, none], [.int (kx_bi (f_X5_within a0 (0 : Int32) (20 : Int32)))], M) _ _
  refine kx_q_zne rfl (fun hc1 => ?_) (fun hc1 => ?_)
  · rw [if_pos hc1] at h
    refine kx_go (pc' := 18) (L' := [some (.ref 0), some (.int a0), none, none, none]) (st' := [.ref 0]) 1 rfl ?_
    refine kx_q_getR (k := 3) (j := 3) kmo_0 rfl kfl_X5_16 rfl ?_
    refine kx_go (pc' := 22) (L' := [some (.ref 0), some (.int a0), none, none, none]) (st' := [.int (0 : Int32), .ref 3]) 1 rfl ?_
    obtain ⟨hi2, h⟩ := kx_ck_some h
    refine kx_q_iald (kma_3) rfl hi2 ?_
    refine kx_go (pc' := 27) (L' := [some (.ref 0), some (.int a0), some (.int (M.1 3 ((0 : Int32)).toNatClampNeg)), some (.int (0 : Int32)), none]) (st' := [.ref 0]) 4 rfl ?_
    refine kx_q_getR (k := 3) (j := 3) kmo_0 rfl kfl_X5_16 rfl ?_
    refine kx_go (pc' := 32) (L' := [some (.ref 0), some (.int a0), some (.int (M.1 3 ((0 : Int32)).toNatClampNeg)), some (.int (0 : Int32)), none]) (st' := [.int a0, .int (0 : Int32), .ref 3]) 2 rfl ?_
    obtain ⟨hi3, h⟩ := kx_ck_some h
    refine kx_q_iast (kma_3) rfl hi3 ?_
    refine kx_go (pc' := 36) (L' := [some (.ref 0), some (.int a0), some (.int (M.1 3 ((0 : Int32)).toNatClampNeg)), some (.int (0 : Int32)), some (.int (0 : Int32))]) (st' := []) 2 rfl ?_
    refine kx_wk [true, false, true, true, true] ?_
    exact t_X5_blind_36 kx_fuel (M.1 3 ((0 : Int32)).toNatClampNeg) (0 : Int32) (0 : Int32) (kx_u1 M 3 ((0 : Int32)).toNatClampNeg a0) h
  · rw [if_neg hc1] at h
    refine kx_go (pc' := 13) (L' := [some (.ref 0), some (.int a0), none, none, none]) (st' := [.int (-2 : Int32), .ref 0]) 2 rfl ?_
    obtain ⟨v4, M6, hv5, h⟩ := kx_bd_some h
    refine kx_q_callV (as := [.int (-2 : Int32)]) (rest := []) (M1 := M6) (rv := some (.int v4)) kmo_0 rfl klk_X5_89 kse_X5_no rfl rfl rfl rfl (Nat.le_of_ble_eq_true rfl) (Nat.le_of_ble_eq_true rfl) (c_X5_no (d := d + 4) (-2 : Int32) M v4 M6 hv5) ?_
    show kx_Rn _ _ _ (16, [some (.ref 0), some (.int a0), none, none, none], [.int v4], M6) _ _
    cases h
    exact kx_r_iret rfl rfl
theorem c_X5_blind {d : Nat} (a0 : Int32) (M : kx_M) (r : Int32) (M' : kx_M) (h : f_X5_blind a0 M = some (r, M')) : kx_Call EM (d + 5) T_X5_blind [.ref 0, .int a0] M (some (.int r)) M' := kx_entry kok_X5_blind (Nat.le_of_ble_eq_true rfl) rfl (t_X5_blind (d := d) a0 M h)
set_option maxRecDepth 100000 in
set_option maxHeartbeats 4000000 in
theorem t_X5_shyest_19 {d : Nat} {r : Int32} {M' : kx_M} : ∀ (n : Nat) (x1 : Int32) (x2 : Int32) (x3 : Int32) (M : kx_M), f_X5_shyest_19 n x1 x2 x3 M = some (r, M') → kx_Rn EM T_X5_shyest (d + 2) (19, [some (.ref 0), some (.int x1), some (.int x2), some (.int x3)], [], M) (some (.int r)) M' := by
  intro n
  induction n with
  | zero =>
    intro x1 x2 x3 M h
    cases (show (none : Option (Int32 × kx_M)) = some _ from h)
  | succ n ih =>
    intro x1 x2 x3 M h
    rw [f_X5_shyest_19.eq_2] at h
    refine kx_go (pc' := 21) (L' := [some (.ref 0), some (.int x1), some (.int x2), some (.int x3)]) (st' := [.ref 0, .int x3]) 2 rfl ?_
    refine kx_q_getI (k := 0) kmo_0 rfl kfl_X5_65 rfl ?_
    refine kx_r_icmp_ge rfl (fun hc1 => ?_) (fun hc1 => ?_)
    · rw [if_pos hc1] at h
      refine kx_go (pc' := 64) (L' := [some (.ref 0), some (.int x1), some (.int x2), some (.int x3)]) (st' := [.int x2]) 1 rfl ?_
      cases h
      exact kx_r_iret rfl rfl
    · rw [if_neg hc1] at h
      refine kx_go (pc' := 29) (L' := [some (.ref 0), some (.int x1), some (.int x2), some (.int x3)]) (st' := [.int x3, .int x1]) 2 rfl ?_
      refine kx_r_callS (as := [.int x1, .int x3]) (rest := []) (M1 := M) (rv := some (.int (kx_bi (f_X5_has x1 x3)))) rfl klk_X5_199 kst_X5_has rfl rfl (Nat.le_of_ble_eq_true rfl) (Nat.le_of_ble_eq_true rfl) (c_X5_has (d := d + 1) x1 x3 M (f_X5_has x1 x3) rfl) ?_
      show kx_Rn _ _ _ (32, [some (.ref 0), some (.int x1), some (.int x2), some (.int x3)], [.int (kx_bi (f_X5_has x1 x3))], M) _ _
      refine kx_q_zeq rfl (fun hc2 => ?_) (fun hc2 => ?_)
      · rw [if_neg hc2] at h
        refine kx_go (pc' := 60) (L' := [some (.ref 0), some (.int x1), some (.int x2), some (.int (x3 + (1)))]) (st' := []) 1 rfl ?_
        refine kx_r_goto rfl ?_
        refine kx_wk [true, true, true, true] ?_
        exact ih x1 x2 (x3 + (1)) M h
      · rw [if_pos hc2] at h
        refine kx_go (pc' := 37) (L' := [some (.ref 0), some (.int x1), some (.int x2), some (.int x3)]) (st' := [.int (-1 : Int32), .int x2]) 2 rfl ?_
        refine kx_r_icmp_eq rfl (fun hc3 => ?_) (fun hc3 => ?_)
        · rw [if_pos hc3] at h
          refine kx_go (pc' := 60) (L' := [some (.ref 0), some (.int x1), some (.int x3), some (.int (x3 + (1)))]) (st' := []) 3 rfl ?_
          refine kx_r_goto rfl ?_
          refine kx_wk [true, true, true, true] ?_
          exact ih x1 x3 (x3 + (1)) M h
        · rw [if_neg hc3] at h
          refine kx_go (pc' := 41) (L' := [some (.ref 0), some (.int x1), some (.int x2), some (.int x3)]) (st' := [.ref 0]) 1 rfl ?_
          refine kx_q_getR (k := 1) (j := 1) kmo_0 rfl kfl_X5_7 rfl ?_
          refine kx_go (pc' := 45) (L' := [some (.ref 0), some (.int x1), some (.int x2), some (.int x3)]) (st' := [.int x3, .ref 1]) 1 rfl ?_
          obtain ⟨hi4, h⟩ := kx_ck_some h
          refine kx_q_iald (kma_1) rfl hi4 ?_
          refine kx_go (pc' := 47) (L' := [some (.ref 0), some (.int x1), some (.int x2), some (.int x3)]) (st' := [.ref 0, .int (M.1 1 (x3).toNatClampNeg)]) 1 rfl ?_
          refine kx_q_getR (k := 1) (j := 1) kmo_0 rfl kfl_X5_7 rfl ?_
          refine kx_go (pc' := 51) (L' := [some (.ref 0), some (.int x1), some (.int x2), some (.int x3)]) (st' := [.int x2, .ref 1, .int (M.1 1 (x3).toNatClampNeg)]) 1 rfl ?_
          obtain ⟨hi5, h⟩ := kx_ck_some h
          refine kx_q_iald (kma_1) rfl hi5 ?_
          refine kx_r_icmp_le rfl (fun hc6 => ?_) (fun hc6 => ?_)
          · rw [if_pos hc6] at h
            refine kx_go (pc' := 60) (L' := [some (.ref 0), some (.int x1), some (.int x2), some (.int (x3 + (1)))]) (st' := []) 1 rfl ?_
            refine kx_r_goto rfl ?_
            refine kx_wk [true, true, true, true] ?_
            exact ih x1 x2 (x3 + (1)) M h
          · rw [if_neg hc6] at h
            refine kx_go (pc' := 60) (L' := [some (.ref 0), some (.int x1), some (.int x3), some (.int (x3 + (1)))]) (st' := []) 3 rfl ?_
            refine kx_r_goto rfl ?_
            refine kx_wk [true, true, true, true] ?_
            exact ih x1 x3 (x3 + (1)) M h
set_option maxRecDepth 100000 in
set_option maxHeartbeats 4000000 in
theorem t_X5_shyest {d : Nat} {r : Int32} {M' : kx_M} (a0 : Int32) (M : kx_M) (h : f_X5_shyest a0 M = some (r, M')) : kx_Rn EM T_X5_shyest (d + 2) (0, [some (.ref 0), some (.int a0), none, none], [], M) (some (.int r)) M' := by
  unfold f_X5_shyest at h
  refine kx_go (pc' := 2) (L' := [some (.ref 0), some (.int a0), none, none]) (st' := [.int a0, .ref 0]) 2 rfl ?_
  refine kx_q_callV (as := [.int a0]) (rest := []) (M1 := M) (rv := some (.int (kx_bi (f_X5_areCells M a0)))) kmo_0 rfl klk_X5_239 kse_X5_areCells rfl rfl rfl rfl (Nat.le_of_ble_eq_true rfl) (Nat.le_of_ble_eq_true rfl) (c_X5_areCells (d := d + 0) a0 M (f_X5_areCells M a0) rfl) ?_
  show kx_Rn _ _ _ (5, [some (.ref 0), some (.int a0), none, none], [.int (kx_bi (f_X5_areCells M a0))], M) _ _
  refine kx_q_zne rfl (fun hc1 => ?_) (fun hc1 => ?_)
  · rw [if_pos hc1] at h
    refine kx_go (pc' := 19) (L' := [some (.ref 0), some (.int a0), some (.int (-1 : Int32)), some (.int (0 : Int32))]) (st' := []) 4 rfl ?_
    refine kx_wk [true, true, true, true] ?_
    exact t_X5_shyest_19 kx_fuel a0 (-1 : Int32) (0 : Int32) M h
  · rw [if_neg hc1] at h
    refine kx_go (pc' := 11) (L' := [some (.ref 0), some (.int a0), none, none]) (st' := [.int (-2 : Int32), .ref 0]) 2 rfl ?_
    obtain ⟨v2, M4, hv3, h⟩ := kx_bd_some h
    refine kx_q_callV (as := [.int (-2 : Int32)]) (rest := []) (M1 := M4) (rv := some (.int v2)) kmo_0 rfl klk_X5_89 kse_X5_no rfl rfl rfl rfl (Nat.le_of_ble_eq_true rfl) (Nat.le_of_ble_eq_true rfl) (c_X5_no (d := d + 1) (-2 : Int32) M v2 M4 hv3) ?_
    show kx_Rn _ _ _ (14, [some (.ref 0), some (.int a0), none, none], [.int v2], M4) _ _
    cases h
    exact kx_r_iret rfl rfl
theorem c_X5_shyest {d : Nat} (a0 : Int32) (M : kx_M) (r : Int32) (M' : kx_M) (h : f_X5_shyest a0 M = some (r, M')) : kx_Call EM (d + 2) T_X5_shyest [.ref 0, .int a0] M (some (.int r)) M' := kx_entry kok_X5_shyest (Nat.le_of_ble_eq_true rfl) rfl (t_X5_shyest (d := d) a0 M h)
set_option maxRecDepth 100000 in
set_option maxHeartbeats 4000000 in
theorem t_X5_alike {d : Nat} {r : Int32} {M' : kx_M} (a0 : Int32) (a1 : Int32) (M : kx_M) (h : f_X5_alike a0 a1 M = some (r, M')) : kx_Rn EM T_X5_alike (d + 5) (0, [some (.ref 0), some (.int a0), some (.int a1)], [], M) (some (.int r)) M' := by
  unfold f_X5_alike at h
  refine kx_go (pc' := 2) (L' := [some (.ref 0), some (.int a0), some (.int a1)]) (st' := [.int a0, .ref 0]) 2 rfl ?_
  refine kx_q_callV (as := [.int a0]) (rest := []) (M1 := M) (rv := some (.int (kx_bi (f_X5_isOne M a0)))) kmo_0 rfl klk_X5_103 kse_X5_isOne rfl rfl rfl rfl (Nat.le_of_ble_eq_true rfl) (Nat.le_of_ble_eq_true rfl) (c_X5_isOne (d := d + 3) a0 M (f_X5_isOne M a0) rfl) ?_
  show kx_Rn _ _ _ (5, [some (.ref 0), some (.int a0), some (.int a1)], [.int (kx_bi (f_X5_isOne M a0))], M) _ _
  refine kx_q_zeq rfl (fun hc1 => ?_) (fun hc1 => ?_)
  · rw [if_neg hc1] at h
    refine kx_go (pc' := 19) (L' := [some (.ref 0), some (.int a0), some (.int a1)]) (st' := [.int (-2 : Int32), .ref 0]) 2 rfl ?_
    obtain ⟨v2, M4, hv3, h⟩ := kx_bd_some h
    refine kx_q_callV (as := [.int (-2 : Int32)]) (rest := []) (M1 := M4) (rv := some (.int v2)) kmo_0 rfl klk_X5_89 kse_X5_no rfl rfl rfl rfl (Nat.le_of_ble_eq_true rfl) (Nat.le_of_ble_eq_true rfl) (c_X5_no (d := d + 4) (-2 : Int32) M v2 M4 hv3) ?_
    show kx_Rn _ _ _ (22, [some (.ref 0), some (.int a0), some (.int a1)], [.int v2], M4) _ _
    cases h
    exact kx_r_iret rfl rfl
  · rw [if_pos hc1] at h
    refine kx_go (pc' := 10) (L' := [some (.ref 0), some (.int a0), some (.int a1)]) (st' := [.int a1, .ref 0]) 2 rfl ?_
    refine kx_q_callV (as := [.int a1]) (rest := []) (M1 := M) (rv := some (.int (kx_bi (f_X5_isOne M a1)))) kmo_0 rfl klk_X5_103 kse_X5_isOne rfl rfl rfl rfl (Nat.le_of_ble_eq_true rfl) (Nat.le_of_ble_eq_true rfl) (c_X5_isOne (d := d + 3) a1 M (f_X5_isOne M a1) rfl) ?_
    show kx_Rn _ _ _ (13, [some (.ref 0), some (.int a0), some (.int a1)], [.int (kx_bi (f_X5_isOne M a1))], M) _ _
    refine kx_q_zne rfl (fun hc5 => ?_) (fun hc5 => ?_)
    · rw [if_pos hc5] at h
      refine kx_go (pc' := 25) (L' := [some (.ref 0), some (.int a0), some (.int a1)]) (st' := [.int a0, .ref 0]) 2 rfl ?_
      obtain ⟨v6, hv7, h⟩ := kx_bn_some h
      refine kx_q_callV (as := [.int a0]) (rest := []) (M1 := M) (rv := some (.int v6)) kmo_0 rfl klk_X5_253 kse_X5_shownAlone rfl rfl rfl rfl (Nat.le_of_ble_eq_true rfl) (Nat.le_of_ble_eq_true rfl) (c_X5_shownAlone (d := d + 0) a0 M v6 hv7) ?_
      show kx_Rn _ _ _ (28, [some (.ref 0), some (.int a0), some (.int a1)], [.int v6], M) _ _
      refine kx_go (pc' := 30) (L' := [some (.ref 0), some (.int a0), some (.int a1)]) (st' := [.int a1, .ref 0, .int v6]) 2 rfl ?_
      obtain ⟨v8, hv9, h⟩ := kx_bn_some h
      refine kx_q_callV (as := [.int a1]) (rest := [.int v6]) (M1 := M) (rv := some (.int v8)) kmo_0 rfl klk_X5_253 kse_X5_shownAlone rfl rfl rfl rfl (Nat.le_of_ble_eq_true rfl) (Nat.le_of_ble_eq_true rfl) (c_X5_shownAlone (d := d + 0) a1 M v8 hv9) ?_
      show kx_Rn _ _ _ (33, [some (.ref 0), some (.int a0), some (.int a1)], [.int v8, .int v6], M) _ _
      refine kx_r_icmp_ne rfl (fun hc10 => ?_) (fun hc10 => ?_)
      · rw [if_neg hc10] at h
        refine kx_go (pc' := 41) (L' := [some (.ref 0), some (.int a0), some (.int a1)]) (st' := [.int (0 : Int32)]) 1 rfl ?_
        cases h
        exact kx_r_iret rfl rfl
      · rw [if_pos hc10] at h
        refine kx_go (pc' := 37) (L' := [some (.ref 0), some (.int a0), some (.int a1)]) (st' := [.int (1 : Int32)]) 1 rfl ?_
        refine kx_r_goto rfl ?_
        cases h
        exact kx_r_iret rfl rfl
    · rw [if_neg hc5] at h
      refine kx_go (pc' := 19) (L' := [some (.ref 0), some (.int a0), some (.int a1)]) (st' := [.int (-2 : Int32), .ref 0]) 2 rfl ?_
      obtain ⟨v11, M13, hv12, h⟩ := kx_bd_some h
      refine kx_q_callV (as := [.int (-2 : Int32)]) (rest := []) (M1 := M13) (rv := some (.int v11)) kmo_0 rfl klk_X5_89 kse_X5_no rfl rfl rfl rfl (Nat.le_of_ble_eq_true rfl) (Nat.le_of_ble_eq_true rfl) (c_X5_no (d := d + 4) (-2 : Int32) M v11 M13 hv12) ?_
      show kx_Rn _ _ _ (22, [some (.ref 0), some (.int a0), some (.int a1)], [.int v11], M13) _ _
      cases h
      exact kx_r_iret rfl rfl
theorem c_X5_alike {d : Nat} (a0 : Int32) (a1 : Int32) (M : kx_M) (r : Int32) (M' : kx_M) (h : f_X5_alike a0 a1 M = some (r, M')) : kx_Call EM (d + 5) T_X5_alike [.ref 0, .int a0, .int a1] M (some (.int r)) M' := kx_entry kok_X5_alike (Nat.le_of_ble_eq_true rfl) rfl (t_X5_alike (d := d) a0 a1 M h)
set_option maxRecDepth 100000 in
set_option maxHeartbeats 4000000 in
theorem t_X5_ofKind_20 {d : Nat} {r : Int32} {M' : kx_M} : ∀ (n : Nat) (x1 : Int32) (x2 : Int32) (x3 : Int32) (M : kx_M), f_X5_ofKind_20 n x1 x2 x3 M = some (r, M') → kx_Rn EM T_X5_ofKind (d + 1) (20, [some (.ref 0), some (.int x1), some (.int x2), some (.int x3)], [], M) (some (.int r)) M' := by
  intro n
  induction n with
  | zero =>
    intro x1 x2 x3 M h
    cases (show (none : Option (Int32 × kx_M)) = some _ from h)
  | succ n ih =>
    intro x1 x2 x3 M h
    rw [f_X5_ofKind_20.eq_2] at h
    refine kx_go (pc' := 22) (L' := [some (.ref 0), some (.int x1), some (.int x2), some (.int x3)]) (st' := [.ref 0, .int x3]) 2 rfl ?_
    refine kx_q_getI (k := 4) kmo_0 rfl kfl_X5_82 rfl ?_
    refine kx_r_icmp_ge rfl (fun hc1 => ?_) (fun hc1 => ?_)
    · rw [if_pos hc1] at h
      refine kx_go (pc' := 48) (L' := [some (.ref 0), some (.int x1), some (.int x2), some (.int x3)]) (st' := [.int x2]) 1 rfl ?_
      cases h
      exact kx_r_iret rfl rfl
    · rw [if_neg hc1] at h
      refine kx_go (pc' := 29) (L' := [some (.ref 0), some (.int x1), some (.int x2), some (.int x3)]) (st' := [.ref 0]) 1 rfl ?_
      refine kx_q_getR (k := 5) (j := 4) kmo_0 rfl kfl_X5_19 rfl ?_
      refine kx_go (pc' := 33) (L' := [some (.ref 0), some (.int x1), some (.int x2), some (.int x3)]) (st' := [.int x3, .ref 4]) 1 rfl ?_
      obtain ⟨hi2, h⟩ := kx_ck_some h
      refine kx_q_iald (kma_4) rfl hi2 ?_
      refine kx_go (pc' := 35) (L' := [some (.ref 0), some (.int x1), some (.int x2), some (.int x3)]) (st' := [.int x1, .int (M.1 4 (x3).toNatClampNeg)]) 1 rfl ?_
      refine kx_r_icmp_ne rfl (fun hc3 => ?_) (fun hc3 => ?_)
      · rw [if_neg hc3] at h
        refine kx_go (pc' := 44) (L' := [some (.ref 0), some (.int x1), some (.int x2), some (.int (x3 + (1)))]) (st' := []) 1 rfl ?_
        refine kx_r_goto rfl ?_
        refine kx_wk [true, true, true, true] ?_
        exact ih x1 x2 (x3 + (1)) M h
      · rw [if_pos hc3] at h
        refine kx_go (pc' := 44) (L' := [some (.ref 0), some (.int x1), some (.int (x2 + (1))), some (.int (x3 + (1)))]) (st' := []) 2 rfl ?_
        refine kx_r_goto rfl ?_
        refine kx_wk [true, true, true, true] ?_
        exact ih x1 (x2 + (1)) (x3 + (1)) M h
set_option maxRecDepth 100000 in
set_option maxHeartbeats 4000000 in
theorem t_X5_ofKind {d : Nat} {r : Int32} {M' : kx_M} (a0 : Int32) (M : kx_M) (h : f_X5_ofKind a0 M = some (r, M')) : kx_Rn EM T_X5_ofKind (d + 1) (0, [some (.ref 0), some (.int a0), none, none], [], M) (some (.int r)) M' := by
  unfold f_X5_ofKind at h
  refine kx_go (pc' := 3) (L' := [some (.ref 0), some (.int a0), none, none]) (st' := [.int (5 : Int32), .int (0 : Int32), .int a0]) 3 rfl ?_
  refine kx_r_callS (as := [.int a0, .int (0 : Int32), .int (5 : Int32)]) (rest := []) (M1 := M) (rv := some (.int (kx_bi (f_X5_within a0 (0 : Int32) (5 : Int32))))) rfl klk_X5_78 kst_X5_within rfl rfl (Nat.le_of_ble_eq_true rfl) (Nat.le_of_ble_eq_true rfl) (c_X5_within (d := d + 0) a0 (0 : Int32) (5 : Int32) M (f_X5_within a0 (0 : Int32) (5 : Int32)) rfl) ?_
  show kx_Rn _ _ _ (6, [some (.ref 0), some (.int a0), none, none], [.int (kx_bi (f_X5_within a0 (0 : Int32) (5 : Int32)))], M) _ _
  refine kx_q_zne rfl (fun hc1 => ?_) (fun hc1 => ?_)
  · rw [if_pos hc1] at h
    refine kx_go (pc' := 20) (L' := [some (.ref 0), some (.int a0), some (.int (0 : Int32)), some (.int (0 : Int32))]) (st' := []) 4 rfl ?_
    refine kx_wk [true, true, true, true] ?_
    exact t_X5_ofKind_20 kx_fuel a0 (0 : Int32) (0 : Int32) M h
  · rw [if_neg hc1] at h
    refine kx_go (pc' := 12) (L' := [some (.ref 0), some (.int a0), none, none]) (st' := [.int (-2 : Int32), .ref 0]) 2 rfl ?_
    obtain ⟨v2, M4, hv3, h⟩ := kx_bd_some h
    refine kx_q_callV (as := [.int (-2 : Int32)]) (rest := []) (M1 := M4) (rv := some (.int v2)) kmo_0 rfl klk_X5_89 kse_X5_no rfl rfl rfl rfl (Nat.le_of_ble_eq_true rfl) (Nat.le_of_ble_eq_true rfl) (c_X5_no (d := d + 0) (-2 : Int32) M v2 M4 hv3) ?_
    show kx_Rn _ _ _ (15, [some (.ref 0), some (.int a0), none, none], [.int v2], M4) _ _
    cases h
    exact kx_r_iret rfl rfl
theorem c_X5_ofKind {d : Nat} (a0 : Int32) (M : kx_M) (r : Int32) (M' : kx_M) (h : f_X5_ofKind a0 M = some (r, M')) : kx_Call EM (d + 1) T_X5_ofKind [.ref 0, .int a0] M (some (.int r)) M' := kx_entry kok_X5_ofKind (Nat.le_of_ble_eq_true rfl) rfl (t_X5_ofKind (d := d) a0 M h)
set_option maxRecDepth 100000 in
set_option maxHeartbeats 4000000 in
theorem t_X5_canBe {d : Nat} {r : Bool} (M : kx_M) (a0 : Int64) (h : f_X5_canBe M a0 = r) : kx_Rn EM T_X5_canBe (d + 0) (0, [some (.ref 0), some (.long a0), none], [], M) (some (.int (kx_bi r))) M := by
  unfold f_X5_canBe at h
  refine kx_go (pc' := 3) (L' := [some (.ref 0), some (.long a0), none]) (st' := [.int (lg_cmp a0 (0 : Int64))]) 3 rfl ?_
  refine kx_r_if_le rfl (fun hc1 => ?_) (fun hc1 => ?_)
  · rw [if_pos hc1] at h
    refine kx_go (pc' := 22) (L' := [some (.ref 0), some (.long a0), none]) (st' := [.int (0 : Int32)]) 1 rfl ?_
    subst h
    exact kx_r_zret rfl rfl (Or.inl rfl)
  · rw [if_neg hc1] at h
    refine kx_go (pc' := 9) (L' := [some (.ref 0), some (.long a0), none]) (st' := [.ref 0, .long (1 : Int64), .long a0]) 3 rfl ?_
    refine kx_q_getI (k := 4) kmo_0 rfl kfl_X5_82 rfl ?_
    refine kx_go (pc' := 14) (L' := [some (.ref 0), some (.long a0), none]) (st' := [.int (lg_cmp a0 ((1 : Int64) <<< (((M.1 0 4)).toInt64 &&& 63)))]) 2 rfl ?_
    refine kx_r_if_ge rfl (fun hc2 => ?_) (fun hc2 => ?_)
    · rw [if_pos hc2] at h
      refine kx_go (pc' := 22) (L' := [some (.ref 0), some (.long a0), none]) (st' := [.int (0 : Int32)]) 1 rfl ?_
      subst h
      exact kx_r_zret rfl rfl (Or.inl rfl)
    · rw [if_neg hc2] at h
      refine kx_go (pc' := 18) (L' := [some (.ref 0), some (.long a0), none]) (st' := [.int (1 : Int32)]) 1 rfl ?_
      refine kx_r_goto rfl ?_
      subst h
      exact kx_r_zret rfl rfl (Or.inr rfl)
theorem c_X5_canBe {d : Nat} (a0 : Int64) (M : kx_M) (r : Bool) (h : f_X5_canBe M a0 = r) : kx_Call EM (d + 0) T_X5_canBe [.ref 0, .long a0] M (some (.int (kx_bi r))) M := kx_entry kok_X5_canBe (Nat.le_of_ble_eq_true rfl) rfl (t_X5_canBe (d := d) M a0 h)
set_option maxRecDepth 100000 in
set_option maxHeartbeats 4000000 in
theorem t_X5_wrong_2 {d : Nat} {r : Int32} (M : kx_M) : ∀ (n : Nat) (x1 : Int32) (x2 : Int32) (x3 : Int32), f_X5_wrong_2 M n x1 x2 x3 = some r → kx_Rn EM T_X5_wrong (d + 1) (2, [some (.ref 0), some (.int x1), some (.int x2), some (.int x3)], [], M) (some (.int r)) M := by
  intro n
  induction n with
  | zero =>
    intro x1 x2 x3 h
    cases (show (none : Option Int32) = some _ from h)
  | succ n ih =>
    intro x1 x2 x3 h
    rw [f_X5_wrong_2.eq_2] at h
    refine kx_go (pc' := 4) (L' := [some (.ref 0), some (.int x1), some (.int x2), some (.int x3)]) (st' := [.int x2, .int x3]) 2 rfl ?_
    refine kx_r_icmp_ge rfl (fun hc1 => ?_) (fun hc1 => ?_)
    · rw [if_pos hc1] at h
      refine kx_go (pc' := 29) (L' := [some (.ref 0), some (.int x1), some (.int x2), some (.int x3)]) (st' := [.int (-1 : Int32)]) 1 rfl ?_
      cases h
      exact kx_r_iret rfl rfl
    · rw [if_neg hc1] at h
      refine kx_go (pc' := 11) (L' := [some (.ref 0), some (.int x1), some (.int x2), some (.int x3)]) (st' := [.int x3, .int x1, .ref 0, .ref 0]) 4 rfl ?_
      obtain ⟨v2, hv3, h⟩ := kx_bn_some h
      refine kx_q_callV (as := [.int x1, .int x3]) (rest := [.ref 0]) (M1 := M) (rv := some (.long v2)) kmo_0 rfl klk_X5_259 kse_X5_toldAt rfl rfl rfl rfl (Nat.le_of_ble_eq_true rfl) (Nat.le_of_ble_eq_true rfl) (c_X5_toldAt (d := d + 0) x1 x3 M v2 hv3) ?_
      show kx_Rn _ _ _ (14, [some (.ref 0), some (.int x1), some (.int x2), some (.int x3)], [.long v2, .ref 0], M) _ _
      refine kx_q_callV (as := [.long v2]) (rest := []) (M1 := M) (rv := some (.int (kx_bi (f_X5_canBe M v2)))) kmo_0 rfl klk_X5_286 kse_X5_canBe rfl rfl rfl rfl (Nat.le_of_ble_eq_true rfl) (Nat.le_of_ble_eq_true rfl) (c_X5_canBe (d := d + 0) v2 M (f_X5_canBe M v2) rfl) ?_
      show kx_Rn _ _ _ (17, [some (.ref 0), some (.int x1), some (.int x2), some (.int x3)], [.int (kx_bi (f_X5_canBe M v2))], M) _ _
      refine kx_q_zne rfl (fun hc4 => ?_) (fun hc4 => ?_)
      · rw [if_pos hc4] at h
        refine kx_go (pc' := 25) (L' := [some (.ref 0), some (.int x1), some (.int x2), some (.int (x3 + (1)))]) (st' := []) 1 rfl ?_
        refine kx_r_goto rfl ?_
        refine kx_wk [true, true, true, true] ?_
        exact ih x1 x2 (x3 + (1)) h
      · rw [if_neg hc4] at h
        refine kx_go (pc' := 21) (L' := [some (.ref 0), some (.int x1), some (.int x2), some (.int x3)]) (st' := [.int x3]) 1 rfl ?_
        cases h
        exact kx_r_iret rfl rfl
set_option maxRecDepth 100000 in
set_option maxHeartbeats 4000000 in
theorem t_X5_wrong {d : Nat} {r : Int32} (M : kx_M) (a0 : Int32) (a1 : Int32) (h : f_X5_wrong M a0 a1 = some r) : kx_Rn EM T_X5_wrong (d + 1) (0, [some (.ref 0), some (.int a0), some (.int a1), none], [], M) (some (.int r)) M := by
  unfold f_X5_wrong at h
  refine kx_go (pc' := 2) (L' := [some (.ref 0), some (.int a0), some (.int a1), some (.int (0 : Int32))]) (st' := []) 2 rfl ?_
  refine kx_wk [true, true, true, true] ?_
  exact t_X5_wrong_2 M kx_fuel a0 a1 (0 : Int32) h
theorem c_X5_wrong {d : Nat} (a0 : Int32) (a1 : Int32) (M : kx_M) (r : Int32) (h : f_X5_wrong M a0 a1 = some r) : kx_Call EM (d + 1) T_X5_wrong [.ref 0, .int a0, .int a1] M (some (.int r)) M := kx_entry kok_X5_wrong (Nat.le_of_ble_eq_true rfl) rfl (t_X5_wrong (d := d) M a0 a1 h)
set_option maxRecDepth 100000 in
set_option maxHeartbeats 4000000 in
theorem t_X5_judge {d : Nat} {r : Int32} {M' : kx_M} (a0 : Int32) (a1 : Int32) (M : kx_M) (h : f_X5_judge a0 a1 M = some (r, M')) : kx_Rn EM T_X5_judge (d + 3) (0, [some (.ref 0), some (.int a0), some (.int a1), none], [], M) (some (.int r)) M' := by
  unfold f_X5_judge at h
  refine kx_go (pc' := 1) (L' := [some (.ref 0), some (.int a0), some (.int a1), none]) (st' := [.int a0]) 1 rfl ?_
  refine kx_r_callS (as := [.int a0]) (rest := []) (M1 := M) (rv := some (.int (kx_bi (f_X5_isShelf a0)))) rfl klk_X5_85 kst_X5_isShelf rfl rfl (Nat.le_of_ble_eq_true rfl) (Nat.le_of_ble_eq_true rfl) (c_X5_isShelf (d := d + 1) a0 M (f_X5_isShelf a0) rfl) ?_
  show kx_Rn _ _ _ (4, [some (.ref 0), some (.int a0), some (.int a1), none], [.int (kx_bi (f_X5_isShelf a0))], M) _ _
  refine kx_q_zeq rfl (fun hc1 => ?_) (fun hc1 => ?_)
  · rw [if_neg hc1] at h
    refine kx_go (pc' := 20) (L' := [some (.ref 0), some (.int a0), some (.int a1), none]) (st' := [.int (-2 : Int32), .ref 0]) 2 rfl ?_
    obtain ⟨v2, M4, hv3, h⟩ := kx_bd_some h
    refine kx_q_callV (as := [.int (-2 : Int32)]) (rest := []) (M1 := M4) (rv := some (.int v2)) kmo_0 rfl klk_X5_89 kse_X5_no rfl rfl rfl rfl (Nat.le_of_ble_eq_true rfl) (Nat.le_of_ble_eq_true rfl) (c_X5_no (d := d + 2) (-2 : Int32) M v2 M4 hv3) ?_
    show kx_Rn _ _ _ (23, [some (.ref 0), some (.int a0), some (.int a1), none], [.int v2], M4) _ _
    cases h
    exact kx_r_iret rfl rfl
  · rw [if_pos hc1] at h
    refine kx_go (pc' := 11) (L' := [some (.ref 0), some (.int a0), some (.int a1), none]) (st' := [.int (40 : Int32), .int (0 : Int32), .int a1]) 3 rfl ?_
    refine kx_r_callS (as := [.int a1, .int (0 : Int32), .int (40 : Int32)]) (rest := []) (M1 := M) (rv := some (.int (kx_bi (f_X5_within a1 (0 : Int32) (40 : Int32))))) rfl klk_X5_78 kst_X5_within rfl rfl (Nat.le_of_ble_eq_true rfl) (Nat.le_of_ble_eq_true rfl) (c_X5_within (d := d + 2) a1 (0 : Int32) (40 : Int32) M (f_X5_within a1 (0 : Int32) (40 : Int32)) rfl) ?_
    show kx_Rn _ _ _ (14, [some (.ref 0), some (.int a0), some (.int a1), none], [.int (kx_bi (f_X5_within a1 (0 : Int32) (40 : Int32)))], M) _ _
    refine kx_q_zne rfl (fun hc5 => ?_) (fun hc5 => ?_)
    · rw [if_pos hc5] at h
      refine kx_go (pc' := 27) (L' := [some (.ref 0), some (.int a0), some (.int a1), none]) (st' := [.int a1, .int a0, .ref 0]) 3 rfl ?_
      obtain ⟨v6, hv7, h⟩ := kx_bn_some h
      refine kx_q_callV (as := [.int a0, .int a1]) (rest := []) (M1 := M) (rv := some (.int v6)) kmo_0 rfl klk_X5_256 kse_X5_noTold rfl rfl rfl rfl (Nat.le_of_ble_eq_true rfl) (Nat.le_of_ble_eq_true rfl) (c_X5_noTold (d := d + 0) a0 a1 M v6 hv7) ?_
      show kx_Rn _ _ _ (30, [some (.ref 0), some (.int a0), some (.int a1), none], [.int v6], M) _ _
      refine kx_go (pc' := 32) (L' := [some (.ref 0), some (.int a0), some (.int a1), some (.int v6)]) (st' := [.int v6]) 2 rfl ?_
      refine kx_r_if_ge rfl (fun hc8 => ?_) (fun hc8 => ?_)
      · rw [if_pos hc8] at h
        refine kx_go (pc' := 46) (L' := [some (.ref 0), some (.int a0), some (.int a1), some (.int v6)]) (st' := [.int a1, .int a0, .ref 0]) 3 rfl ?_
        obtain ⟨v9, hv10, h⟩ := kx_bn_some h
        refine kx_q_callV (as := [.int a0, .int a1]) (rest := []) (M1 := M) (rv := some (.int v9)) kmo_0 rfl klk_X5_290 kse_X5_wrong rfl rfl rfl rfl (Nat.le_of_ble_eq_true rfl) (Nat.le_of_ble_eq_true rfl) (c_X5_wrong (d := d + 1) a0 a1 M v9 hv10) ?_
        show kx_Rn _ _ _ (49, [some (.ref 0), some (.int a0), some (.int a1), some (.int v6)], [.int v9], M) _ _
        cases h
        exact kx_r_iret rfl rfl
      · rw [if_neg hc8] at h
        refine kx_go (pc' := 37) (L' := [some (.ref 0), some (.int a0), some (.int a1), some (.int v6)]) (st' := [.int v6, .ref 0]) 2 rfl ?_
        obtain ⟨v11, M13, hv12, h⟩ := kx_bd_some h
        refine kx_q_callV (as := [.int v6]) (rest := []) (M1 := M13) (rv := some (.int v11)) kmo_0 rfl klk_X5_89 kse_X5_no rfl rfl rfl rfl (Nat.le_of_ble_eq_true rfl) (Nat.le_of_ble_eq_true rfl) (c_X5_no (d := d + 2) v6 M v11 M13 hv12) ?_
        show kx_Rn _ _ _ (40, [some (.ref 0), some (.int a0), some (.int a1), some (.int v6)], [.int v11], M13) _ _
        refine kx_r_goto rfl ?_
        cases h
        exact kx_r_iret rfl rfl
    · rw [if_neg hc5] at h
      refine kx_go (pc' := 20) (L' := [some (.ref 0), some (.int a0), some (.int a1), none]) (st' := [.int (-2 : Int32), .ref 0]) 2 rfl ?_
      obtain ⟨v14, M16, hv15, h⟩ := kx_bd_some h
      refine kx_q_callV (as := [.int (-2 : Int32)]) (rest := []) (M1 := M16) (rv := some (.int v14)) kmo_0 rfl klk_X5_89 kse_X5_no rfl rfl rfl rfl (Nat.le_of_ble_eq_true rfl) (Nat.le_of_ble_eq_true rfl) (c_X5_no (d := d + 2) (-2 : Int32) M v14 M16 hv15) ?_
      show kx_Rn _ _ _ (23, [some (.ref 0), some (.int a0), some (.int a1), none], [.int v14], M16) _ _
      cases h
      exact kx_r_iret rfl rfl
theorem c_X5_judge {d : Nat} (a0 : Int32) (a1 : Int32) (M : kx_M) (r : Int32) (M' : kx_M) (h : f_X5_judge a0 a1 M = some (r, M')) : kx_Call EM (d + 3) T_X5_judge [.ref 0, .int a0, .int a1] M (some (.int r)) M' := kx_entry kok_X5_judge (Nat.le_of_ble_eq_true rfl) rfl (t_X5_judge (d := d) a0 a1 M h)
set_option maxRecDepth 100000 in
set_option maxHeartbeats 4000000 in
theorem t_X5_behind_81 {d : Nat} {r : Int32} {M' : kx_M} : ∀ (n : Nat) (x1 : Int32) (x2 : Int32) (x3 : Int32) (x5 : Int32) (M : kx_M), f_X5_behind_81 n x1 x2 x3 x5 M = some (r, M') → kx_Rn EM T_X5_behind (d + 5) (81, [some (.ref 0), some (.int x1), some (.int x2), some (.int x3), none, some (.int x5)], [], M) (some (.int r)) M' := by
  intro n
  induction n with
  | zero =>
    intro x1 x2 x3 x5 M h
    cases (show (none : Option (Int32 × kx_M)) = some _ from h)
  | succ n ih =>
    intro x1 x2 x3 x5 M h
    rw [f_X5_behind_81.eq_2] at h
    refine kx_go (pc' := 84) (L' := [some (.ref 0), some (.int x1), some (.int x2), some (.int x3), none, some (.int x5)]) (st' := [.int x2, .int x5]) 2 rfl ?_
    refine kx_r_icmp_ge rfl (fun hc1 => ?_) (fun hc1 => ?_)
    · rw [if_pos hc1] at h
      refine kx_go (pc' := 106) (L' := [some (.ref 0), some (.int x1), some (.int x2), some (.int x3), none, some (.int x5)]) (st' := [.int x3]) 1 rfl ?_
      refine kx_r_if_ne rfl (fun hc2 => ?_) (fun hc2 => ?_)
      · rw [if_neg hc2] at h
        refine kx_go (pc' := 121) (L' := [some (.ref 0), some (.int x1), some (.int x2), some (.int x3), none, some (.int x5)]) (st' := [.ref 0]) 1 rfl ?_
        refine kx_q_getR (k := 3) (j := 3) kmo_0 rfl kfl_X5_16 rfl ?_
        refine kx_go (pc' := 125) (L' := [some (.ref 0), some (.int x1), some (.int x2), some (.int x3), none, some (.int x5)]) (st' := [.int (0 : Int32), .ref 3]) 1 rfl ?_
        obtain ⟨hi3, h⟩ := kx_ck_some h
        refine kx_q_iald (kma_3) rfl hi3 ?_
        refine kx_go (pc' := 130) (L' := [some (.ref 0), some (.int x1), some (.int x2), some (.int x3), none, some (.int (M.1 3 ((0 : Int32)).toNatClampNeg))]) (st' := [.ref 0, .ref 0]) 3 rfl ?_
        refine kx_q_getR (k := 23) (j := 15) kmo_0 rfl kfl_X5_53 rfl ?_
        obtain ⟨M6, hv5, h⟩ := kx_bn_some h
        refine kx_q_callV (as := [.ref 15]) (rest := []) (M1 := M6) (rv := none) kmo_0 rfl klk_X5_191 kse_X5_again rfl rfl rfl rfl (Nat.le_of_ble_eq_true rfl) (Nat.le_of_ble_eq_true rfl) (c_X5_again (d := d + 4) 15 (kma_15) M M6 hv5) ?_
        show kx_Rn _ _ _ (136, [some (.ref 0), some (.int x1), some (.int x2), some (.int x3), none, some (.int (M.1 3 ((0 : Int32)).toNatClampNeg))], [], M6) _ _
        refine kx_go (pc' := 138) (L' := [some (.ref 0), some (.int x1), some (.int x2), some (.int x3), none, some (.int (M.1 3 ((0 : Int32)).toNatClampNeg))]) (st' := [.int (M.1 3 ((0 : Int32)).toNatClampNeg)]) 1 rfl ?_
        cases h
        exact kx_r_iret rfl rfl
      · rw [if_pos hc2] at h
        refine kx_go (pc' := 111) (L' := [some (.ref 0), some (.int x1), some (.int x2), some (.int x3), none, some (.int x5)]) (st' := [.ref 0, .ref 0]) 2 rfl ?_
        refine kx_q_callV (as := []) (rest := [.ref 0]) (M1 := M) (rv := some (.int (f_X5_all M))) kmo_0 rfl klk_X5_221 kse_X5_all rfl rfl rfl rfl (Nat.le_of_ble_eq_true rfl) (Nat.le_of_ble_eq_true rfl) (c_X5_all (d := d + 4) M (f_X5_all M) rfl) ?_
        show kx_Rn _ _ _ (114, [some (.ref 0), some (.int x1), some (.int x2), some (.int x3), none, some (.int x5)], [.int (f_X5_all M), .ref 0], M) _ _
        obtain ⟨v7, hv8, h⟩ := kx_bn_some h
        refine kx_q_callV (as := [.int (f_X5_all M)]) (rest := []) (M1 := M) (rv := some (.int v7)) kmo_0 rfl klk_X5_224 kse_X5_knownBy rfl rfl rfl rfl (Nat.le_of_ble_eq_true rfl) (Nat.le_of_ble_eq_true rfl) (c_X5_knownBy (d := d + 3) (f_X5_all M) M v7 hv8) ?_
        show kx_Rn _ _ _ (117, [some (.ref 0), some (.int x1), some (.int x2), some (.int x3), none, some (.int x5)], [.int v7], M) _ _
        refine kx_r_goto rfl ?_
        refine kx_go (pc' := 130) (L' := [some (.ref 0), some (.int x1), some (.int x2), some (.int x3), none, some (.int v7)]) (st' := [.ref 0, .ref 0]) 3 rfl ?_
        refine kx_q_getR (k := 23) (j := 15) kmo_0 rfl kfl_X5_53 rfl ?_
        obtain ⟨M11, hv10, h⟩ := kx_bn_some h
        refine kx_q_callV (as := [.ref 15]) (rest := []) (M1 := M11) (rv := none) kmo_0 rfl klk_X5_191 kse_X5_again rfl rfl rfl rfl (Nat.le_of_ble_eq_true rfl) (Nat.le_of_ble_eq_true rfl) (c_X5_again (d := d + 4) 15 (kma_15) M M11 hv10) ?_
        show kx_Rn _ _ _ (136, [some (.ref 0), some (.int x1), some (.int x2), some (.int x3), none, some (.int v7)], [], M11) _ _
        refine kx_go (pc' := 138) (L' := [some (.ref 0), some (.int x1), some (.int x2), some (.int x3), none, some (.int v7)]) (st' := [.int v7]) 1 rfl ?_
        cases h
        exact kx_r_iret rfl rfl
    · rw [if_neg hc1] at h
      refine kx_go (pc' := 92) (L' := [some (.ref 0), some (.int x1), some (.int x2), some (.int x3), none, some (.int x5)]) (st' := [.int x5, .int x1, .ref 0, .ref 0]) 4 rfl ?_
      obtain ⟨v12, hv13, h⟩ := kx_bn_some h
      refine kx_q_callV (as := [.int x1, .int x5]) (rest := [.ref 0]) (M1 := M) (rv := some (.long v12)) kmo_0 rfl klk_X5_259 kse_X5_toldAt rfl rfl rfl rfl (Nat.le_of_ble_eq_true rfl) (Nat.le_of_ble_eq_true rfl) (c_X5_toldAt (d := d + 4) x1 x5 M v12 hv13) ?_
      show kx_Rn _ _ _ (95, [some (.ref 0), some (.int x1), some (.int x2), some (.int x3), none, some (.int x5)], [.long v12, .ref 0], M) _ _
      refine kx_go (pc' := 96) (L' := [some (.ref 0), some (.int x1), some (.int x2), some (.int x3), none, some (.int x5)]) (st' := [.int (v12).toInt32, .ref 0]) 1 rfl ?_
      obtain ⟨M16, hv15, h⟩ := kx_bn_some h
      refine kx_q_callV (as := [.int (v12).toInt32]) (rest := []) (M1 := M16) (rv := none) kmo_0 rfl klk_X5_242 kse_X5_goes rfl rfl rfl rfl (Nat.le_of_ble_eq_true rfl) (Nat.le_of_ble_eq_true rfl) (c_X5_goes (d := d + 0) (v12).toInt32 M M16 hv15) ?_
      show kx_Rn _ _ _ (99, [some (.ref 0), some (.int x1), some (.int x2), some (.int x3), none, some (.int x5)], [], M16) _ _
      refine kx_go (pc' := 102) (L' := [some (.ref 0), some (.int x1), some (.int x2), some (.int x3), none, some (.int (x5 + (1)))]) (st' := []) 1 rfl ?_
      refine kx_r_goto rfl ?_
      refine kx_wk [true, true, true, true, false, true] ?_
      exact ih x1 x2 x3 (x5 + (1)) M16 h
set_option maxRecDepth 100000 in
set_option maxHeartbeats 4000000 in
theorem t_X5_behind {d : Nat} {r : Int32} {M' : kx_M} (a0 : Int32) (a1 : Int32) (a2 : Int32) (M : kx_M) (h : f_X5_behind a0 a1 a2 M = some (r, M')) : kx_Rn EM T_X5_behind (d + 5) (0, [some (.ref 0), some (.int a0), some (.int a1), some (.int a2), none, none], [], M) (some (.int r)) M' := by
  unfold f_X5_behind at h
  refine kx_go (pc' := 1) (L' := [some (.ref 0), some (.int a0), some (.int a1), some (.int a2), none, none]) (st' := [.int a0]) 1 rfl ?_
  refine kx_r_callS (as := [.int a0]) (rest := []) (M1 := M) (rv := some (.int (kx_bi (f_X5_isShelf a0)))) rfl klk_X5_85 kst_X5_isShelf rfl rfl (Nat.le_of_ble_eq_true rfl) (Nat.le_of_ble_eq_true rfl) (c_X5_isShelf (d := d + 3) a0 M (f_X5_isShelf a0) rfl) ?_
  show kx_Rn _ _ _ (4, [some (.ref 0), some (.int a0), some (.int a1), some (.int a2), none, none], [.int (kx_bi (f_X5_isShelf a0))], M) _ _
  refine kx_q_zeq rfl (fun hc1 => ?_) (fun hc1 => ?_)
  · rw [if_neg hc1] at h
    refine kx_go (pc' := 29) (L' := [some (.ref 0), some (.int a0), some (.int a1), some (.int a2), none, none]) (st' := [.int (-2 : Int32), .ref 0]) 2 rfl ?_
    obtain ⟨v2, M4, hv3, h⟩ := kx_bd_some h
    refine kx_q_callV (as := [.int (-2 : Int32)]) (rest := []) (M1 := M4) (rv := some (.int v2)) kmo_0 rfl klk_X5_89 kse_X5_no rfl rfl rfl rfl (Nat.le_of_ble_eq_true rfl) (Nat.le_of_ble_eq_true rfl) (c_X5_no (d := d + 4) (-2 : Int32) M v2 M4 hv3) ?_
    show kx_Rn _ _ _ (32, [some (.ref 0), some (.int a0), some (.int a1), some (.int a2), none, none], [.int v2], M4) _ _
    cases h
    exact kx_r_iret rfl rfl
  · rw [if_pos hc1] at h
    refine kx_go (pc' := 11) (L' := [some (.ref 0), some (.int a0), some (.int a1), some (.int a2), none, none]) (st' := [.int (40 : Int32), .int (0 : Int32), .int a1]) 3 rfl ?_
    refine kx_r_callS (as := [.int a1, .int (0 : Int32), .int (40 : Int32)]) (rest := []) (M1 := M) (rv := some (.int (kx_bi (f_X5_within a1 (0 : Int32) (40 : Int32))))) rfl klk_X5_78 kst_X5_within rfl rfl (Nat.le_of_ble_eq_true rfl) (Nat.le_of_ble_eq_true rfl) (c_X5_within (d := d + 4) a1 (0 : Int32) (40 : Int32) M (f_X5_within a1 (0 : Int32) (40 : Int32)) rfl) ?_
    show kx_Rn _ _ _ (14, [some (.ref 0), some (.int a0), some (.int a1), some (.int a2), none, none], [.int (kx_bi (f_X5_within a1 (0 : Int32) (40 : Int32)))], M) _ _
    refine kx_q_zeq rfl (fun hc5 => ?_) (fun hc5 => ?_)
    · rw [if_neg hc5] at h
      refine kx_go (pc' := 29) (L' := [some (.ref 0), some (.int a0), some (.int a1), some (.int a2), none, none]) (st' := [.int (-2 : Int32), .ref 0]) 2 rfl ?_
      obtain ⟨v6, M8, hv7, h⟩ := kx_bd_some h
      refine kx_q_callV (as := [.int (-2 : Int32)]) (rest := []) (M1 := M8) (rv := some (.int v6)) kmo_0 rfl klk_X5_89 kse_X5_no rfl rfl rfl rfl (Nat.le_of_ble_eq_true rfl) (Nat.le_of_ble_eq_true rfl) (c_X5_no (d := d + 4) (-2 : Int32) M v6 M8 hv7) ?_
      show kx_Rn _ _ _ (32, [some (.ref 0), some (.int a0), some (.int a1), some (.int a2), none, none], [.int v6], M8) _ _
      cases h
      exact kx_r_iret rfl rfl
    · rw [if_pos hc5] at h
      refine kx_go (pc' := 20) (L' := [some (.ref 0), some (.int a0), some (.int a1), some (.int a2), none, none]) (st' := [.int (1 : Int32), .int (0 : Int32), .int a2]) 3 rfl ?_
      refine kx_r_callS (as := [.int a2, .int (0 : Int32), .int (1 : Int32)]) (rest := []) (M1 := M) (rv := some (.int (kx_bi (f_X5_within a2 (0 : Int32) (1 : Int32))))) rfl klk_X5_78 kst_X5_within rfl rfl (Nat.le_of_ble_eq_true rfl) (Nat.le_of_ble_eq_true rfl) (c_X5_within (d := d + 4) a2 (0 : Int32) (1 : Int32) M (f_X5_within a2 (0 : Int32) (1 : Int32)) rfl) ?_
      show kx_Rn _ _ _ (23, [some (.ref 0), some (.int a0), some (.int a1), some (.int a2), none, none], [.int (kx_bi (f_X5_within a2 (0 : Int32) (1 : Int32)))], M) _ _
      refine kx_q_zne rfl (fun hc9 => ?_) (fun hc9 => ?_)
      · rw [if_pos hc9] at h
        refine kx_go (pc' := 36) (L' := [some (.ref 0), some (.int a0), some (.int a1), some (.int a2), none, none]) (st' := [.int a1, .int a0, .ref 0]) 3 rfl ?_
        obtain ⟨v10, hv11, h⟩ := kx_bn_some h
        refine kx_q_callV (as := [.int a0, .int a1]) (rest := []) (M1 := M) (rv := some (.int v10)) kmo_0 rfl klk_X5_256 kse_X5_noTold rfl rfl rfl rfl (Nat.le_of_ble_eq_true rfl) (Nat.le_of_ble_eq_true rfl) (c_X5_noTold (d := d + 2) a0 a1 M v10 hv11) ?_
        show kx_Rn _ _ _ (39, [some (.ref 0), some (.int a0), some (.int a1), some (.int a2), none, none], [.int v10], M) _ _
        refine kx_go (pc' := 43) (L' := [some (.ref 0), some (.int a0), some (.int a1), some (.int a2), some (.int v10), none]) (st' := [.int v10]) 2 rfl ?_
        refine kx_r_if_ge rfl (fun hc12 => ?_) (fun hc12 => ?_)
        · rw [if_pos hc12] at h
          refine kx_go (pc' := 56) (L' := [some (.ref 0), some (.int a0), some (.int a1), some (.int a2), some (.int v10), none]) (st' := [.int a1, .int a0, .ref 0]) 3 rfl ?_
          obtain ⟨v13, hv14, h⟩ := kx_bn_some h
          refine kx_q_callV (as := [.int a0, .int a1]) (rest := []) (M1 := M) (rv := some (.int v13)) kmo_0 rfl klk_X5_290 kse_X5_wrong rfl rfl rfl rfl (Nat.le_of_ble_eq_true rfl) (Nat.le_of_ble_eq_true rfl) (c_X5_wrong (d := d + 3) a0 a1 M v13 hv14) ?_
          show kx_Rn _ _ _ (59, [some (.ref 0), some (.int a0), some (.int a1), some (.int a2), some (.int v10), none], [.int v13], M) _ _
          refine kx_go (pc' := 60) (L' := [some (.ref 0), some (.int a0), some (.int a1), some (.int a2), some (.int v10), none]) (st' := [.int (-1 : Int32), .int v13]) 1 rfl ?_
          refine kx_r_icmp_eq rfl (fun hc15 => ?_) (fun hc15 => ?_)
          · rw [if_pos hc15] at h
            refine kx_go (pc' := 72) (L' := [some (.ref 0), some (.int a0), some (.int a1), some (.int a2), some (.int v10), none]) (st' := [.ref 0, .ref 0]) 2 rfl ?_
            refine kx_q_getR (k := 23) (j := 15) kmo_0 rfl kfl_X5_53 rfl ?_
            obtain ⟨M18, hv17, h⟩ := kx_bn_some h
            refine kx_q_callV (as := [.ref 15]) (rest := []) (M1 := M18) (rv := none) kmo_0 rfl klk_X5_184 kse_X5_keep rfl rfl rfl rfl (Nat.le_of_ble_eq_true rfl) (Nat.le_of_ble_eq_true rfl) (c_X5_keep (d := d + 4) 15 (kma_15) M M18 hv17) ?_
            show kx_Rn _ _ _ (78, [some (.ref 0), some (.int a0), some (.int a1), some (.int a2), some (.int v10), none], [], M18) _ _
            refine kx_go (pc' := 81) (L' := [some (.ref 0), some (.int a0), some (.int a1), some (.int a2), some (.int v10), some (.int (0 : Int32))]) (st' := []) 2 rfl ?_
            refine kx_wk [true, true, true, true, false, true] ?_
            exact t_X5_behind_81 kx_fuel a0 a1 a2 (0 : Int32) M18 h
          · rw [if_neg hc15] at h
            refine kx_go (pc' := 66) (L' := [some (.ref 0), some (.int a0), some (.int a1), some (.int a2), some (.int v10), none]) (st' := [.int (-5 : Int32), .ref 0]) 2 rfl ?_
            obtain ⟨v19, M21, hv20, h⟩ := kx_bd_some h
            refine kx_q_callV (as := [.int (-5 : Int32)]) (rest := []) (M1 := M21) (rv := some (.int v19)) kmo_0 rfl klk_X5_89 kse_X5_no rfl rfl rfl rfl (Nat.le_of_ble_eq_true rfl) (Nat.le_of_ble_eq_true rfl) (c_X5_no (d := d + 4) (-5 : Int32) M v19 M21 hv20) ?_
            show kx_Rn _ _ _ (69, [some (.ref 0), some (.int a0), some (.int a1), some (.int a2), some (.int v10), none], [.int v19], M21) _ _
            cases h
            exact kx_r_iret rfl rfl
        · rw [if_neg hc12] at h
          refine kx_go (pc' := 49) (L' := [some (.ref 0), some (.int a0), some (.int a1), some (.int a2), some (.int v10), none]) (st' := [.int v10, .ref 0]) 2 rfl ?_
          obtain ⟨v22, M24, hv23, h⟩ := kx_bd_some h
          refine kx_q_callV (as := [.int v10]) (rest := []) (M1 := M24) (rv := some (.int v22)) kmo_0 rfl klk_X5_89 kse_X5_no rfl rfl rfl rfl (Nat.le_of_ble_eq_true rfl) (Nat.le_of_ble_eq_true rfl) (c_X5_no (d := d + 4) v10 M v22 M24 hv23) ?_
          show kx_Rn _ _ _ (52, [some (.ref 0), some (.int a0), some (.int a1), some (.int a2), some (.int v10), none], [.int v22], M24) _ _
          cases h
          exact kx_r_iret rfl rfl
      · rw [if_neg hc9] at h
        refine kx_go (pc' := 29) (L' := [some (.ref 0), some (.int a0), some (.int a1), some (.int a2), none, none]) (st' := [.int (-2 : Int32), .ref 0]) 2 rfl ?_
        obtain ⟨v25, M27, hv26, h⟩ := kx_bd_some h
        refine kx_q_callV (as := [.int (-2 : Int32)]) (rest := []) (M1 := M27) (rv := some (.int v25)) kmo_0 rfl klk_X5_89 kse_X5_no rfl rfl rfl rfl (Nat.le_of_ble_eq_true rfl) (Nat.le_of_ble_eq_true rfl) (c_X5_no (d := d + 4) (-2 : Int32) M v25 M27 hv26) ?_
        show kx_Rn _ _ _ (32, [some (.ref 0), some (.int a0), some (.int a1), some (.int a2), none, none], [.int v25], M27) _ _
        cases h
        exact kx_r_iret rfl rfl
theorem c_X5_behind {d : Nat} (a0 : Int32) (a1 : Int32) (a2 : Int32) (M : kx_M) (r : Int32) (M' : kx_M) (h : f_X5_behind a0 a1 a2 M = some (r, M')) : kx_Call EM (d + 5) T_X5_behind [.ref 0, .int a0, .int a1, .int a2] M (some (.int r)) M' := kx_entry kok_X5_behind (Nat.le_of_ble_eq_true rfl) rfl (t_X5_behind (d := d) a0 a1 a2 M h)
set_option maxRecDepth 100000 in
set_option maxHeartbeats 4000000 in
theorem t_X5_visit {d : Nat} {r : Int32} {M' : kx_M} (a0 : Int32) (M : kx_M) (h : f_X5_visit a0 M = some (r, M')) : kx_Rn EM T_X5_visit (d + 6) (0, [some (.ref 0), some (.int a0), none], [], M) (some (.int r)) M' := by
  unfold f_X5_visit at h
  refine kx_go (pc' := 2) (L' := [some (.ref 0), some (.int a0), none]) (st' := [.int a0, .ref 0]) 2 rfl ?_
  refine kx_q_callV (as := [.int a0]) (rest := []) (M1 := M) (rv := some (.int (kx_bi (f_X5_isGroup M a0)))) kmo_0 rfl klk_X5_233 kse_X5_isGroup rfl rfl rfl rfl (Nat.le_of_ble_eq_true rfl) (Nat.le_of_ble_eq_true rfl) (c_X5_isGroup (d := d + 4) a0 M (f_X5_isGroup M a0) rfl) ?_
  show kx_Rn _ _ _ (5, [some (.ref 0), some (.int a0), none], [.int (kx_bi (f_X5_isGroup M a0))], M) _ _
  refine kx_q_zeq rfl (fun hc1 => ?_) (fun hc1 => ?_)
  · rw [if_neg hc1] at h
    refine kx_go (pc' := 15) (L' := [some (.ref 0), some (.int a0), none]) (st' := [.int (-2 : Int32), .ref 0]) 2 rfl ?_
    obtain ⟨v2, M4, hv3, h⟩ := kx_bd_some h
    refine kx_q_callV (as := [.int (-2 : Int32)]) (rest := []) (M1 := M4) (rv := some (.int v2)) kmo_0 rfl klk_X5_89 kse_X5_no rfl rfl rfl rfl (Nat.le_of_ble_eq_true rfl) (Nat.le_of_ble_eq_true rfl) (c_X5_no (d := d + 5) (-2 : Int32) M v2 M4 hv3) ?_
    show kx_Rn _ _ _ (18, [some (.ref 0), some (.int a0), none], [.int v2], M4) _ _
    cases h
    exact kx_r_iret rfl rfl
  · rw [if_pos hc1] at h
    refine kx_go (pc' := 9) (L' := [some (.ref 0), some (.int a0), none]) (st' := [.int a0]) 1 rfl ?_
    refine kx_r_if_ne rfl (fun hc5 => ?_) (fun hc5 => ?_)
    · rw [if_neg hc5] at h
      refine kx_go (pc' := 21) (L' := [some (.ref 0), some (.int a0), none]) (st' := [.int a0, .ref 0]) 2 rfl ?_
      obtain ⟨v6, hv7, h⟩ := kx_bn_some h
      refine kx_q_callV (as := [.int a0]) (rest := []) (M1 := M) (rv := some (.int v6)) kmo_0 rfl klk_X5_236 kse_X5_newOf rfl rfl rfl rfl (Nat.le_of_ble_eq_true rfl) (Nat.le_of_ble_eq_true rfl) (c_X5_newOf (d := d + 0) a0 M v6 hv7) ?_
      show kx_Rn _ _ _ (24, [some (.ref 0), some (.int a0), none], [.int v6], M) _ _
      refine kx_go (pc' := 27) (L' := [some (.ref 0), some (.int a0), some (.int v6)]) (st' := [.int a0, .ref 0]) 3 rfl ?_
      obtain ⟨M10, hv9, h⟩ := kx_bn_some h
      refine kx_q_callV (as := [.int a0]) (rest := []) (M1 := M10) (rv := none) kmo_0 rfl klk_X5_242 kse_X5_goes rfl rfl rfl rfl (Nat.le_of_ble_eq_true rfl) (Nat.le_of_ble_eq_true rfl) (c_X5_goes (d := d + 1) a0 M M10 hv9) ?_
      show kx_Rn _ _ _ (30, [some (.ref 0), some (.int a0), some (.int v6)], [], M10) _ _
      refine kx_go (pc' := 31) (L' := [some (.ref 0), some (.int a0), some (.int v6)]) (st' := [.int v6]) 1 rfl ?_
      cases h
      exact kx_r_iret rfl rfl
    · rw [if_pos hc5] at h
      refine kx_go (pc' := 15) (L' := [some (.ref 0), some (.int a0), none]) (st' := [.int (-2 : Int32), .ref 0]) 2 rfl ?_
      obtain ⟨v11, M13, hv12, h⟩ := kx_bd_some h
      refine kx_q_callV (as := [.int (-2 : Int32)]) (rest := []) (M1 := M13) (rv := some (.int v11)) kmo_0 rfl klk_X5_89 kse_X5_no rfl rfl rfl rfl (Nat.le_of_ble_eq_true rfl) (Nat.le_of_ble_eq_true rfl) (c_X5_no (d := d + 5) (-2 : Int32) M v11 M13 hv12) ?_
      show kx_Rn _ _ _ (18, [some (.ref 0), some (.int a0), none], [.int v11], M13) _ _
      cases h
      exact kx_r_iret rfl rfl
theorem c_X5_visit {d : Nat} (a0 : Int32) (M : kx_M) (r : Int32) (M' : kx_M) (h : f_X5_visit a0 M = some (r, M')) : kx_Call EM (d + 6) T_X5_visit [.ref 0, .int a0] M (some (.int r)) M' := kx_entry kok_X5_visit (Nat.le_of_ble_eq_true rfl) rfl (t_X5_visit (d := d) a0 M h)
set_option maxRecDepth 100000 in
set_option maxHeartbeats 4000000 in
theorem t_X5_draw {d : Nat} {r : Int32} {M' : kx_M} (a0 : Int32) (M : kx_M) (h : f_X5_draw a0 M = some (r, M')) : kx_Rn EM T_X5_draw (d + 0) (0, [some (.ref 0), some (.int a0)], [], M) (some (.int r)) M' := by
  unfold f_X5_draw at h
  refine kx_go (pc' := 2) (L' := [some (.ref 0), some (.int a0)]) (st' := [.ref 0, .ref 0]) 2 rfl ?_
  refine kx_q_getI (k := 9) kmo_0 rfl kfl_X5_75 rfl ?_
  refine kx_r_ldc1 (v := 1103515245) rfl kcs_X5_293 ?_
  refine kx_go (pc' := 13) (L' := [some (.ref 0), some (.int a0)]) (st' := [.int (((M.1 0 9) * (1103515245 : Int32)) + (12345 : Int32)), .ref 0]) 3 rfl ?_
  refine kx_q_putI (k := 9) kmo_0 rfl kfw_X5_75 rfl ?_
  refine kx_go (pc' := 17) (L' := [some (.ref 0), some (.int a0)]) (st' := [.ref 0]) 1 rfl ?_
  refine kx_q_getI (k := 9) kmo_0 rfl kfl_X5_75 rfl ?_
  refine kx_go (pc' := 24) (L' := [some (.ref 0), some (.int a0)]) (st' := [.int a0, .int ((((kx_u1 M 0 9 (((M.1 0 9) * (1103515245 : Int32)) + (12345 : Int32))).1 0 9)).toUInt32 >>> (((16 : Int32)).toUInt32 &&& Int32.toUInt32 31)).toInt32]) 3 rfl ?_
  obtain ⟨hi1, h⟩ := kx_nz_some h
  refine kx_r_irem rfl hi1 ?_
  cases h
  exact kx_r_iret rfl rfl
theorem c_X5_draw {d : Nat} (a0 : Int32) (M : kx_M) (r : Int32) (M' : kx_M) (h : f_X5_draw a0 M = some (r, M')) : kx_Call EM (d + 0) T_X5_draw [.ref 0, .int a0] M (some (.int r)) M' := kx_entry kok_X5_draw (Nat.le_of_ble_eq_true rfl) rfl (t_X5_draw (d := d) a0 M h)
set_option maxRecDepth 100000 in
set_option maxHeartbeats 4000000 in
theorem t_X5_days_44 {d : Nat} {r : Int32} {M' : kx_M} (k21 : Int32 → Int32 → Int32 → kx_M → Option (Int32 × kx_M)) (hk21 : ∀ (x1 : Int32) (x2 : Int32) (x3 : Int32) (M : kx_M), k21 x1 x2 x3 M = some (r, M') → kx_Rn EM T_X5_days (d + 6) (21, [some (.ref 0), some (.int x1), some (.int x2), some (.int x3), none, none], [], M) (some (.int r)) M') : ∀ (n : Nat) (x1 : Int32) (x2 : Int32) (x3 : Int32) (x4 : Int32) (x5 : Int32) (M : kx_M), f_X5_days_44 k21 n x1 x2 x3 x4 x5 M = some (r, M') → kx_Rn EM T_X5_days (d + 6) (44, [some (.ref 0), some (.int x1), some (.int x2), some (.int x3), some (.int x4), some (.int x5)], [], M) (some (.int r)) M' := by
  intro n
  induction n with
  | zero =>
    intro x1 x2 x3 x4 x5 M h
    cases (show (none : Option (Int32 × kx_M)) = some _ from h)
  | succ n ih =>
    intro x1 x2 x3 x4 x5 M h
    rw [f_X5_days_44.eq_2] at h
    refine kx_go (pc' := 47) (L' := [some (.ref 0), some (.int x1), some (.int x2), some (.int x3), some (.int x4), some (.int x5)]) (st' := [.ref 0, .int x5]) 2 rfl ?_
    refine kx_q_getI (k := 4) kmo_0 rfl kfl_X5_82 rfl ?_
    refine kx_r_icmp_ge rfl (fun hc1 => ?_) (fun hc1 => ?_)
    · rw [if_pos hc1] at h
      refine kx_go (pc' := 79) (L' := [some (.ref 0), some (.int x1), some (.int x2), some (.int x3), some (.int x4), some (.int x5)]) (st' := [.int x4]) 1 rfl ?_
      refine kx_r_if_ne rfl (fun hc2 => ?_) (fun hc2 => ?_)
      · rw [if_neg hc2] at h
        refine kx_go (pc' := 93) (L' := [some (.ref 0), some (.int x1), some (.int x2), some (.int x3), some (.int x4), some (.int x5)]) (st' := [.int x4, .ref 0, .int x2]) 3 rfl ?_
        obtain ⟨v3, hv4, h⟩ := kx_bn_some h
        refine kx_q_callV (as := [.int x4]) (rest := [.int x2]) (M1 := M) (rv := some (.int v3)) kmo_0 rfl klk_X5_236 kse_X5_newOf rfl rfl rfl rfl (Nat.le_of_ble_eq_true rfl) (Nat.le_of_ble_eq_true rfl) (c_X5_newOf (d := d + 0) x4 M v3 hv4) ?_
        show kx_Rn _ _ _ (96, [some (.ref 0), some (.int x1), some (.int x2), some (.int x3), some (.int x4), some (.int x5)], [.int v3, .int x2], M) _ _
        refine kx_r_callS (as := [.int v3]) (rest := [.int x2]) (M1 := M) (rv := some (.int (f_J6_bitCount_0f7a4 v3))) rfl klk_X5_194 kst_J6_bitCount_0f7a4 rfl rfl (Nat.le_of_ble_eq_true rfl) (Nat.le_of_ble_eq_true rfl) (c_J6_bitCount_0f7a4 (d := d + 5) v3 M (f_J6_bitCount_0f7a4 v3) rfl) ?_
        show kx_Rn _ _ _ (99, [some (.ref 0), some (.int x1), some (.int x2), some (.int x3), some (.int x4), some (.int x5)], [.int (f_J6_bitCount_0f7a4 v3), .int x2], M) _ _
        refine kx_go (pc' := 104) (L' := [some (.ref 0), some (.int x1), some (.int (x2 + (f_J6_bitCount_0f7a4 v3))), some (.int x3), some (.int x4), some (.int x5)]) (st' := [.int x4, .ref 0]) 4 rfl ?_
        obtain ⟨M7, hv6, h⟩ := kx_bn_some h
        refine kx_q_callV (as := [.int x4]) (rest := []) (M1 := M7) (rv := none) kmo_0 rfl klk_X5_242 kse_X5_goes rfl rfl rfl rfl (Nat.le_of_ble_eq_true rfl) (Nat.le_of_ble_eq_true rfl) (c_X5_goes (d := d + 1) x4 M M7 hv6) ?_
        show kx_Rn _ _ _ (107, [some (.ref 0), some (.int x1), some (.int (x2 + (f_J6_bitCount_0f7a4 v3))), some (.int x3), some (.int x4), some (.int x5)], [], M7) _ _
        refine kx_go (pc' := 110) (L' := [some (.ref 0), some (.int x1), some (.int (x2 + (f_J6_bitCount_0f7a4 v3))), some (.int (x3 + (1))), some (.int x4), some (.int x5)]) (st' := []) 1 rfl ?_
        refine kx_r_goto rfl ?_
        refine kx_wk [true, true, true, true, false, false] ?_
        exact hk21 x1 (x2 + (f_J6_bitCount_0f7a4 v3)) (x3 + (1)) M7 h
      · rw [if_pos hc2] at h
        refine kx_go (pc' := 83) (L' := [some (.ref 0), some (.int x1), some (.int x2), some (.int x3), some (.int x4), some (.int x5)]) (st' := [.ref 0]) 1 rfl ?_
        obtain ⟨M10, hv9, h⟩ := kx_bn_some h
        refine kx_q_callV (as := []) (rest := []) (M1 := M10) (rv := none) kmo_0 rfl klk_X5_230 kse_X5_passesDay rfl rfl rfl rfl (Nat.le_of_ble_eq_true rfl) (Nat.le_of_ble_eq_true rfl) (c_X5_passesDay (d := d + 5) M M10 hv9) ?_
        show kx_Rn _ _ _ (86, [some (.ref 0), some (.int x1), some (.int x2), some (.int x3), some (.int x4), some (.int x5)], [], M10) _ _
        refine kx_r_goto rfl ?_
        refine kx_go (pc' := 110) (L' := [some (.ref 0), some (.int x1), some (.int x2), some (.int (x3 + (1))), some (.int x4), some (.int x5)]) (st' := []) 1 rfl ?_
        refine kx_r_goto rfl ?_
        refine kx_wk [true, true, true, true, false, false] ?_
        exact hk21 x1 x2 (x3 + (1)) M10 h
    · rw [if_neg hc1] at h
      refine kx_go (pc' := 55) (L' := [some (.ref 0), some (.int x1), some (.int x2), some (.int x3), some (.int x4), some (.int x5)]) (st' := [.int (2 : Int32), .ref 0]) 2 rfl ?_
      obtain ⟨v11, M13, hv12, h⟩ := kx_bd_some h
      refine kx_q_callV (as := [.int (2 : Int32)]) (rest := []) (M1 := M13) (rv := some (.int v11)) kmo_0 rfl klk_X5_294 kse_X5_draw rfl rfl rfl rfl (Nat.le_of_ble_eq_true rfl) (Nat.le_of_ble_eq_true rfl) (c_X5_draw (d := d + 5) (2 : Int32) M v11 M13 hv12) ?_
      show kx_Rn _ _ _ (58, [some (.ref 0), some (.int x1), some (.int x2), some (.int x3), some (.int x4), some (.int x5)], [.int v11], M13) _ _
      refine kx_go (pc' := 59) (L' := [some (.ref 0), some (.int x1), some (.int x2), some (.int x3), some (.int x4), some (.int x5)]) (st' := [.int (1 : Int32), .int v11]) 1 rfl ?_
      refine kx_r_icmp_ne rfl (fun hc14 => ?_) (fun hc14 => ?_)
      · rw [if_neg hc14] at h
        refine kx_go (pc' := 74) (L' := [some (.ref 0), some (.int x1), some (.int x2), some (.int x3), some (.int x4), some (.int (x5 + (1)))]) (st' := []) 1 rfl ?_
        refine kx_r_goto rfl ?_
        refine kx_wk [true, true, true, true, true, true] ?_
        exact ih x1 x2 x3 x4 (x5 + (1)) M13 h
      · rw [if_pos hc14] at h
        refine kx_go (pc' := 74) (L' := [some (.ref 0), some (.int x1), some (.int x2), some (.int x3), some (.int (x4 ||| ((1 : Int32) <<< (x5 &&& 31)))), some (.int (x5 + (1)))]) (st' := []) 7 rfl ?_
        refine kx_r_goto rfl ?_
        refine kx_wk [true, true, true, true, true, true] ?_
        exact ih x1 x2 x3 (x4 ||| ((1 : Int32) <<< (x5 &&& 31))) (x5 + (1)) M13 h
set_option maxRecDepth 100000 in
set_option maxHeartbeats 4000000 in
theorem t_X5_days_21 {d : Nat} {r : Int32} {M' : kx_M} : ∀ (n : Nat) (x1 : Int32) (x2 : Int32) (x3 : Int32) (M : kx_M), f_X5_days_21 n x1 x2 x3 M = some (r, M') → kx_Rn EM T_X5_days (d + 6) (21, [some (.ref 0), some (.int x1), some (.int x2), some (.int x3), none, none], [], M) (some (.int r)) M' := by
  intro n
  induction n with
  | zero =>
    intro x1 x2 x3 M h
    cases (show (none : Option (Int32 × kx_M)) = some _ from h)
  | succ n ih =>
    intro x1 x2 x3 M h
    rw [f_X5_days_21.eq_2] at h
    refine kx_go (pc' := 23) (L' := [some (.ref 0), some (.int x1), some (.int x2), some (.int x3), none, none]) (st' := [.int x1, .int x3]) 2 rfl ?_
    refine kx_r_icmp_ge rfl (fun hc1 => ?_) (fun hc1 => ?_)
    · rw [if_pos hc1] at h
      refine kx_go (pc' := 114) (L' := [some (.ref 0), some (.int x1), some (.int x2), some (.int x3), none, none]) (st' := [.int x2]) 1 rfl ?_
      cases h
      exact kx_r_iret rfl rfl
    · rw [if_neg hc1] at h
      refine kx_go (pc' := 27) (L' := [some (.ref 0), some (.int x1), some (.int x2), some (.int x3), none, none]) (st' := [.ref 0]) 1 rfl ?_
      refine kx_q_getR (k := 3) (j := 3) kmo_0 rfl kfl_X5_16 rfl ?_
      refine kx_go (pc' := 34) (L' := [some (.ref 0), some (.int x1), some (.int x2), some (.int x3), none, none]) (st' := [.int (21 : Int32), .ref 0, .int (0 : Int32), .ref 3]) 3 rfl ?_
      obtain ⟨v2, M4, hv3, h⟩ := kx_bd_some h
      refine kx_q_callV (as := [.int (21 : Int32)]) (rest := [.int (0 : Int32), .ref 3]) (M1 := M4) (rv := some (.int v2)) kmo_0 rfl klk_X5_294 kse_X5_draw rfl rfl rfl rfl (Nat.le_of_ble_eq_true rfl) (Nat.le_of_ble_eq_true rfl) (c_X5_draw (d := d + 5) (21 : Int32) M v2 M4 hv3) ?_
      show kx_Rn _ _ _ (37, [some (.ref 0), some (.int x1), some (.int x2), some (.int x3), none, none], [.int v2, .int (0 : Int32), .ref 3], M4) _ _
      obtain ⟨hi5, h⟩ := kx_ck_some h
      refine kx_q_iast (kma_3) rfl hi5 ?_
      refine kx_go (pc' := 44) (L' := [some (.ref 0), some (.int x1), some (.int x2), some (.int x3), some (.int (0 : Int32)), some (.int (0 : Int32))]) (st' := []) 4 rfl ?_
      refine kx_wk [true, true, true, true, true, true] ?_
      exact t_X5_days_44 (f_X5_days_21 n) ih kx_fuel x1 x2 x3 (0 : Int32) (0 : Int32) (kx_u1 M4 3 ((0 : Int32)).toNatClampNeg v2) h
set_option maxRecDepth 100000 in
set_option maxHeartbeats 4000000 in
theorem t_X5_days {d : Nat} {r : Int32} {M' : kx_M} (a0 : Int32) (M : kx_M) (h : f_X5_days a0 M = some (r, M')) : kx_Rn EM T_X5_days (d + 6) (0, [some (.ref 0), some (.int a0), none, none, none, none], [], M) (some (.int r)) M' := by
  unfold f_X5_days at h
  refine kx_go (pc' := 4) (L' := [some (.ref 0), some (.int a0), none, none, none, none]) (st' := [.int (60 : Int32), .int (1 : Int32), .int a0]) 3 rfl ?_
  refine kx_r_callS (as := [.int a0, .int (1 : Int32), .int (60 : Int32)]) (rest := []) (M1 := M) (rv := some (.int (kx_bi (f_X5_within a0 (1 : Int32) (60 : Int32))))) rfl klk_X5_78 kst_X5_within rfl rfl (Nat.le_of_ble_eq_true rfl) (Nat.le_of_ble_eq_true rfl) (c_X5_within (d := d + 5) a0 (1 : Int32) (60 : Int32) M (f_X5_within a0 (1 : Int32) (60 : Int32)) rfl) ?_
  show kx_Rn _ _ _ (7, [some (.ref 0), some (.int a0), none, none, none, none], [.int (kx_bi (f_X5_within a0 (1 : Int32) (60 : Int32)))], M) _ _
  refine kx_q_zne rfl (fun hc1 => ?_) (fun hc1 => ?_)
  · rw [if_pos hc1] at h
    refine kx_go (pc' := 21) (L' := [some (.ref 0), some (.int a0), some (.int (0 : Int32)), some (.int (0 : Int32)), none, none]) (st' := []) 4 rfl ?_
    refine kx_wk [true, true, true, true, false, false] ?_
    exact t_X5_days_21 kx_fuel a0 (0 : Int32) (0 : Int32) M h
  · rw [if_neg hc1] at h
    refine kx_go (pc' := 13) (L' := [some (.ref 0), some (.int a0), none, none, none, none]) (st' := [.int (-2 : Int32), .ref 0]) 2 rfl ?_
    obtain ⟨v2, M4, hv3, h⟩ := kx_bd_some h
    refine kx_q_callV (as := [.int (-2 : Int32)]) (rest := []) (M1 := M4) (rv := some (.int v2)) kmo_0 rfl klk_X5_89 kse_X5_no rfl rfl rfl rfl (Nat.le_of_ble_eq_true rfl) (Nat.le_of_ble_eq_true rfl) (c_X5_no (d := d + 5) (-2 : Int32) M v2 M4 hv3) ?_
    show kx_Rn _ _ _ (16, [some (.ref 0), some (.int a0), none, none, none, none], [.int v2], M4) _ _
    cases h
    exact kx_r_iret rfl rfl
theorem c_X5_days {d : Nat} (a0 : Int32) (M : kx_M) (r : Int32) (M' : kx_M) (h : f_X5_days a0 M = some (r, M')) : kx_Call EM (d + 6) T_X5_days [.ref 0, .int a0] M (some (.int r)) M' := kx_entry kok_X5_days (Nat.le_of_ble_eq_true rfl) rfl (t_X5_days (d := d) a0 M h)
