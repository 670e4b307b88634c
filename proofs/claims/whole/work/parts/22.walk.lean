set_option maxRecDepth 100000 in
set_option maxHeartbeats 4000000 in
theorem t_X4_mate_25 {d : Nat} {r : Int32} {M' : kx_M} : ∀ (n : Nat) (x1 : Int32) (x2 : Int32) (x3 : Int32) (x4 : Int32) (M : kx_M), f_X4_mate_25 n x1 x2 x3 x4 M = some (r, M') → kx_Rn EX T_X4_mate (d + 4) (25, [some (.ref 0), some (.int x1), some (.int x2), some (.int x3), some (.int x4), none, none], [], M) (some (.int r)) M' := by
  intro n
  induction n with
  | zero =>
    intro x1 x2 x3 x4 M h
    cases (show (none : Option (Int32 × kx_M)) = some _ from h)
  | succ n ih =>
    intro x1 x2 x3 x4 M h
    rw [f_X4_mate_25.eq_2] at h
    refine kx_go (pc' := 28) (L' := [some (.ref 0), some (.int x1), some (.int x2), some (.int x3), some (.int x4), none, none]) (st' := [.ref 0, .int x4]) 2 rfl ?_
    refine kx_q_getR (k := 0) (j := 1) kxo_0 rfl kfl_X4_10 rfl ?_
    refine kx_q_getI (k := 11) kxl_1.1 rfl kfl_X4_146 rfl ?_
    refine kx_r_icmp_ge rfl (fun hc1 => ?_) (fun hc1 => ?_)
    · rw [if_pos hc1] at h
      refine kx_go (pc' := 94) (L' := [some (.ref 0), some (.int x1), some (.int x2), some (.int x3), some (.int x4), none, none]) (st' := [.int x2]) 1 rfl ?_
      cases h
      exact kx_r_iret rfl rfl
    · rw [if_neg hc1] at h
      refine kx_go (pc' := 40) (L' := [some (.ref 0), some (.int x1), some (.int x2), some (.int x3), some (.int x4), none, none]) (st' := [.int x1, .int x4]) 2 rfl ?_
      refine kx_r_icmp_eq rfl (fun hc2 => ?_) (fun hc2 => ?_)
      · rw [if_pos hc2] at h
        refine kx_go (pc' := 90) (L' := [some (.ref 0), some (.int x1), some (.int x2), some (.int x3), some (.int (x4 + (1))), none, none]) (st' := []) 1 rfl ?_
        refine kx_r_goto rfl ?_
        refine kx_wk [true, true, true, true, true, false, false] ?_
        exact ih x1 x2 x3 (x4 + (1)) M h
      · rw [if_neg hc2] at h
        refine kx_go (pc' := 54) (L' := [some (.ref 0), some (.int x1), some (.int x2), some (.int x3), some (.int x4), some (.int (((1 : Int32) <<< (x1 &&& 31)) ||| ((1 : Int32) <<< (x4 &&& 31)))), none]) (st' := [.ref 0]) 9 rfl ?_
        refine kx_q_getR (k := 0) (j := 1) kxo_0 rfl kfl_X4_10 rfl ?_
        refine kx_go (pc' := 61) (L' := [some (.ref 0), some (.int x1), some (.int x2), some (.int x3), some (.int x4), some (.int (((1 : Int32) <<< (x1 &&& 31)) ||| ((1 : Int32) <<< (x4 &&& 31)))), none]) (st' := [.ref 0, .int (((1 : Int32) <<< (x1 &&& 31)) ||| ((1 : Int32) <<< (x4 &&& 31))), .int x1, .ref 1]) 3 rfl ?_
        refine kx_q_getR (k := 0) (j := 1) kxo_0 rfl kfl_X4_10 rfl ?_
        refine kx_q_getI (k := 8) kxl_1.1 rfl kfl_X4_122 rfl ?_
        obtain ⟨v3, hv4, h⟩ := kx_bn_some h
        refine kx_q_callV (as := [.int x1, .int (((1 : Int32) <<< (x1 &&& 31)) ||| ((1 : Int32) <<< (x4 &&& 31))), .int (M.1 1 8)]) (rest := []) (M1 := M) (rv := some (.int v3)) kxl_1.1 rfl klk_X4_197 kse_X0_shownTo rfl rfl rfl rfl (Nat.le_of_ble_eq_true rfl) (Nat.le_of_ble_eq_true rfl) (c_X0_shownTo (d := d + 0) 1 (kxl_1) x1 (((1 : Int32) <<< (x1 &&& 31)) ||| ((1 : Int32) <<< (x4 &&& 31))) (M.1 1 8) M v3 hv4) ?_
        show kx_Rn _ _ _ (70, [some (.ref 0), some (.int x1), some (.int x2), some (.int x3), some (.int x4), some (.int (((1 : Int32) <<< (x1 &&& 31)) ||| ((1 : Int32) <<< (x4 &&& 31)))), none], [.int v3], M) _ _
        refine kx_r_callS (as := [.int v3]) (rest := []) (M1 := M) (rv := some (.int (f_J6_bitCount_0f7a4 v3))) rfl klk_X4_186 kst_J6_bitCount_0f7a4 rfl rfl (Nat.le_of_ble_eq_true rfl) (Nat.le_of_ble_eq_true rfl) (c_J6_bitCount_0f7a4 (d := d + 3) v3 M (f_J6_bitCount_0f7a4 v3) rfl) ?_
        show kx_Rn _ _ _ (73, [some (.ref 0), some (.int x1), some (.int x2), some (.int x3), some (.int x4), some (.int (((1 : Int32) <<< (x1 &&& 31)) ||| ((1 : Int32) <<< (x4 &&& 31)))), none], [.int (f_J6_bitCount_0f7a4 v3)], M) _ _
        refine kx_go (pc' := 78) (L' := [some (.ref 0), some (.int x1), some (.int x2), some (.int x3), some (.int x4), some (.int (((1 : Int32) <<< (x1 &&& 31)) ||| ((1 : Int32) <<< (x4 &&& 31)))), some (.int (f_J6_bitCount_0f7a4 v3))]) (st' := [.int x3, .int (f_J6_bitCount_0f7a4 v3)]) 3 rfl ?_
        refine kx_r_icmp_le rfl (fun hc5 => ?_) (fun hc5 => ?_)
        · rw [if_pos hc5] at h
          refine kx_go (pc' := 90) (L' := [some (.ref 0), some (.int x1), some (.int x2), some (.int x3), some (.int (x4 + (1))), some (.int (((1 : Int32) <<< (x1 &&& 31)) ||| ((1 : Int32) <<< (x4 &&& 31)))), some (.int (f_J6_bitCount_0f7a4 v3))]) (st' := []) 1 rfl ?_
          refine kx_r_goto rfl ?_
          refine kx_wk [true, true, true, true, true, false, false] ?_
          exact ih x1 x2 x3 (x4 + (1)) M h
        · rw [if_neg hc5] at h
          refine kx_go (pc' := 90) (L' := [some (.ref 0), some (.int x1), some (.int x4), some (.int (f_J6_bitCount_0f7a4 v3)), some (.int (x4 + (1))), some (.int (((1 : Int32) <<< (x1 &&& 31)) ||| ((1 : Int32) <<< (x4 &&& 31)))), some (.int (f_J6_bitCount_0f7a4 v3))]) (st' := []) 5 rfl ?_
          refine kx_r_goto rfl ?_
          refine kx_wk [true, true, true, true, true, false, false] ?_
          exact ih x1 x4 (f_J6_bitCount_0f7a4 v3) (x4 + (1)) M h
set_option maxRecDepth 100000 in
set_option maxHeartbeats 4000000 in
theorem t_X4_mate {d : Nat} {r : Int32} {M' : kx_M} (a0 : Int32) (M : kx_M) (h : f_X4_mate a0 M = some (r, M')) : kx_Rn EX T_X4_mate (d + 4) (0, [some (.ref 0), some (.int a0), none, none, none, none, none], [], M) (some (.int r)) M' := by
  unfold f_X4_mate at h
  refine kx_go (pc' := 1) (L' := [some (.ref 0), some (.int a0), none, none, none, none, none]) (st' := [.ref 0]) 1 rfl ?_
  refine kx_q_getR (k := 0) (j := 1) kxo_0 rfl kfl_X4_10 rfl ?_
  refine kx_go (pc' := 5) (L' := [some (.ref 0), some (.int a0), none, none, none, none, none]) (st' := [.int a0, .ref 1]) 1 rfl ?_
  refine kx_q_callV (as := [.int a0]) (rest := []) (M1 := M) (rv := some (.int (kx_bi (f_X0_hasVisitor 1 M a0)))) kxl_1.1 rfl klk_X4_104 kse_X0_hasVisitor rfl rfl rfl rfl (Nat.le_of_ble_eq_true rfl) (Nat.le_of_ble_eq_true rfl) (c_X0_hasVisitor (d := d + 2) 1 (kxl_1) a0 M (f_X0_hasVisitor 1 M a0) rfl) ?_
  show kx_Rn _ _ _ (8, [some (.ref 0), some (.int a0), none, none, none, none, none], [.int (kx_bi (f_X0_hasVisitor 1 M a0))], M) _ _
  refine kx_q_zne rfl (fun hc1 => ?_) (fun hc1 => ?_)
  · rw [if_pos hc1] at h
    refine kx_go (pc' := 25) (L' := [some (.ref 0), some (.int a0), some (.int (-1 : Int32)), some (.int (-1 : Int32)), some (.int (0 : Int32)), none, none]) (st' := []) 6 rfl ?_
    refine kx_wk [true, true, true, true, true, false, false] ?_
    exact t_X4_mate_25 kx_fuel a0 (-1 : Int32) (-1 : Int32) (0 : Int32) M h
  · rw [if_neg hc1] at h
    refine kx_go (pc' := 14) (L' := [some (.ref 0), some (.int a0), none, none, none, none, none]) (st' := [.int (-2 : Int32), .ref 0]) 2 rfl ?_
    obtain ⟨v2, M4, hv3, h⟩ := kx_bd_some h
    refine kx_q_callV (as := [.int (-2 : Int32)]) (rest := []) (M1 := M4) (rv := some (.int v2)) kxo_0 rfl klk_X4_59 kse_X4_refuse rfl rfl rfl rfl (Nat.le_of_ble_eq_true rfl) (Nat.le_of_ble_eq_true rfl) (c_X4_refuse (d := d + 2) (-2 : Int32) M v2 M4 hv3) ?_
    show kx_Rn _ _ _ (17, [some (.ref 0), some (.int a0), none, none, none, none, none], [.int v2], M4) _ _
    cases h
    exact kx_r_iret rfl rfl
theorem c_X4_mate {d : Nat} (a0 : Int32) (M : kx_M) (r : Int32) (M' : kx_M) (h : f_X4_mate a0 M = some (r, M')) : kx_Call EX (d + 4) T_X4_mate [.ref 0, .int a0] M (some (.int r)) M' := kx_entry kok_X4_mate (Nat.le_of_ble_eq_true rfl) rfl (t_X4_mate (d := d) a0 M h)
set_option maxRecDepth 100000 in
set_option maxHeartbeats 4000000 in
theorem t_X4_rarest_31 {d : Nat} {r : Int32} {M' : kx_M} : ∀ (n : Nat) (x1 : Int32) (x2 : Int32) (x3 : Int32) (x4 : Int32) (M : kx_M), f_X4_rarest_31 n x1 x2 x3 x4 M = some (r, M') → kx_Rn EX T_X4_rarest (d + 2) (31, [some (.ref 0), some (.int x1), some (.int x2), some (.int x3), some (.int x4), none], [], M) (some (.int r)) M' := by
  intro n
  induction n with
  | zero =>
    intro x1 x2 x3 x4 M h
    cases (show (none : Option (Int32 × kx_M)) = some _ from h)
  | succ n ih =>
    intro x1 x2 x3 x4 M h
    rw [f_X4_rarest_31.eq_2] at h
    refine kx_go (pc' := 34) (L' := [some (.ref 0), some (.int x1), some (.int x2), some (.int x3), some (.int x4), none]) (st' := [.ref 0, .int x4]) 2 rfl ?_
    refine kx_q_getR (k := 0) (j := 1) kxo_0 rfl kfl_X4_10 rfl ?_
    refine kx_q_getI (k := 7) kxl_1.1 rfl kfl_X4_129 rfl ?_
    refine kx_r_icmp_ge rfl (fun hc1 => ?_) (fun hc1 => ?_)
    · rw [if_pos hc1] at h
      refine kx_go (pc' := 89) (L' := [some (.ref 0), some (.int x1), some (.int x2), some (.int x3), some (.int x4), none]) (st' := [.int x2]) 1 rfl ?_
      cases h
      exact kx_r_iret rfl rfl
    · rw [if_neg hc1] at h
      refine kx_go (pc' := 44) (L' := [some (.ref 0), some (.int x1), some (.int x2), some (.int x3), some (.int x4), none]) (st' := [.ref 0]) 1 rfl ?_
      refine kx_q_getR (k := 0) (j := 1) kxo_0 rfl kfl_X4_10 rfl ?_
      refine kx_go (pc' := 49) (L' := [some (.ref 0), some (.int x1), some (.int x2), some (.int x3), some (.int x4), none]) (st' := [.int x4, .ref 1]) 1 rfl ?_
      obtain ⟨v2, hv3, h⟩ := kx_bn_some h
      refine kx_q_callV (as := [.int x4]) (rest := []) (M1 := M) (rv := some (.int v2)) kxl_1.1 rfl klk_X4_191 kse_X0_seenBy rfl rfl rfl rfl (Nat.le_of_ble_eq_true rfl) (Nat.le_of_ble_eq_true rfl) (c_X0_seenBy (d := d + 0) 1 (kxl_1) x4 M v2 hv3) ?_
      show kx_Rn _ _ _ (52, [some (.ref 0), some (.int x1), some (.int x2), some (.int x3), some (.int x4), none], [.int v2], M) _ _
      refine kx_r_callS (as := [.int v2]) (rest := []) (M1 := M) (rv := some (.int (f_J6_bitCount_0f7a4 v2))) rfl klk_X4_186 kst_J6_bitCount_0f7a4 rfl rfl (Nat.le_of_ble_eq_true rfl) (Nat.le_of_ble_eq_true rfl) (c_J6_bitCount_0f7a4 (d := d + 1) v2 M (f_J6_bitCount_0f7a4 v2) rfl) ?_
      show kx_Rn _ _ _ (55, [some (.ref 0), some (.int x1), some (.int x2), some (.int x3), some (.int x4), none], [.int (f_J6_bitCount_0f7a4 v2)], M) _ _
      refine kx_go (pc' := 58) (L' := [some (.ref 0), some (.int x1), some (.int x2), some (.int x3), some (.int x4), some (.int (f_J6_bitCount_0f7a4 v2))]) (st' := [.int x1]) 2 rfl ?_
      refine kx_r_if_ne rfl (fun hc4 => ?_) (fun hc4 => ?_)
      · rw [if_neg hc4] at h
        refine kx_go (pc' := 73) (L' := [some (.ref 0), some (.int x1), some (.int x2), some (.int x3), some (.int x4), some (.int (f_J6_bitCount_0f7a4 v2))]) (st' := [.int x3, .int (f_J6_bitCount_0f7a4 v2)]) 2 rfl ?_
        refine kx_r_icmp_le rfl (fun hc5 => ?_) (fun hc5 => ?_)
        · rw [if_pos hc5] at h
          refine kx_go (pc' := 85) (L' := [some (.ref 0), some (.int x1), some (.int x2), some (.int x3), some (.int (x4 + (1))), some (.int (f_J6_bitCount_0f7a4 v2))]) (st' := []) 1 rfl ?_
          refine kx_r_goto rfl ?_
          refine kx_wk [true, true, true, true, true, false] ?_
          exact ih x1 x2 x3 (x4 + (1)) M h
        · rw [if_neg hc5] at h
          refine kx_go (pc' := 85) (L' := [some (.ref 0), some (.int x1), some (.int x4), some (.int (f_J6_bitCount_0f7a4 v2)), some (.int (x4 + (1))), some (.int (f_J6_bitCount_0f7a4 v2))]) (st' := []) 5 rfl ?_
          refine kx_r_goto rfl ?_
          refine kx_wk [true, true, true, true, true, false] ?_
          exact ih x1 x4 (f_J6_bitCount_0f7a4 v2) (x4 + (1)) M h
      · rw [if_pos hc4] at h
        refine kx_go (pc' := 64) (L' := [some (.ref 0), some (.int x1), some (.int x2), some (.int x3), some (.int x4), some (.int (f_J6_bitCount_0f7a4 v2))]) (st' := [.int x3, .int (f_J6_bitCount_0f7a4 v2)]) 2 rfl ?_
        refine kx_r_icmp_ge rfl (fun hc6 => ?_) (fun hc6 => ?_)
        · rw [if_pos hc6] at h
          refine kx_go (pc' := 85) (L' := [some (.ref 0), some (.int x1), some (.int x2), some (.int x3), some (.int (x4 + (1))), some (.int (f_J6_bitCount_0f7a4 v2))]) (st' := []) 1 rfl ?_
          refine kx_r_goto rfl ?_
          refine kx_wk [true, true, true, true, true, false] ?_
          exact ih x1 x2 x3 (x4 + (1)) M h
        · rw [if_neg hc6] at h
          refine kx_r_goto rfl ?_
          refine kx_go (pc' := 85) (L' := [some (.ref 0), some (.int x1), some (.int x4), some (.int (f_J6_bitCount_0f7a4 v2)), some (.int (x4 + (1))), some (.int (f_J6_bitCount_0f7a4 v2))]) (st' := []) 5 rfl ?_
          refine kx_r_goto rfl ?_
          refine kx_wk [true, true, true, true, true, false] ?_
          exact ih x1 x4 (f_J6_bitCount_0f7a4 v2) (x4 + (1)) M h
set_option maxRecDepth 100000 in
set_option maxHeartbeats 4000000 in
theorem t_X4_rarest {d : Nat} {r : Int32} {M' : kx_M} (a0 : Int32) (M : kx_M) (h : f_X4_rarest a0 M = some (r, M')) : kx_Rn EX T_X4_rarest (d + 2) (0, [some (.ref 0), some (.int a0), none, none, none, none], [], M) (some (.int r)) M' := by
  unfold f_X4_rarest at h
  refine kx_go (pc' := 1) (L' := [some (.ref 0), some (.int a0), none, none, none, none]) (st' := [.int a0]) 1 rfl ?_
  refine kx_r_callS (as := [.int a0]) (rest := []) (M1 := M) (rv := some (.int (kx_bi (f_X4_isOneOfTwo a0)))) rfl klk_X4_152 kst_X4_isOneOfTwo rfl rfl (Nat.le_of_ble_eq_true rfl) (Nat.le_of_ble_eq_true rfl) (c_X4_isOneOfTwo (d := d + 1) a0 M (f_X4_isOneOfTwo a0) rfl) ?_
  show kx_Rn _ _ _ (4, [some (.ref 0), some (.int a0), none, none, none, none], [.int (kx_bi (f_X4_isOneOfTwo a0))], M) _ _
  refine kx_q_zne rfl (fun hc1 => ?_) (fun hc1 => ?_)
  · rw [if_pos hc1] at h
    refine kx_go (pc' := 17) (L' := [some (.ref 0), some (.int a0), some (.int (0 : Int32)), none, none, none]) (st' := [.ref 0]) 3 rfl ?_
    refine kx_q_getR (k := 0) (j := 1) kxo_0 rfl kfl_X4_10 rfl ?_
    refine kx_go (pc' := 21) (L' := [some (.ref 0), some (.int a0), some (.int (0 : Int32)), none, none, none]) (st' := [.int (0 : Int32), .ref 1]) 1 rfl ?_
    obtain ⟨v2, hv3, h⟩ := kx_bn_some h
    refine kx_q_callV (as := [.int (0 : Int32)]) (rest := []) (M1 := M) (rv := some (.int v2)) kxl_1.1 rfl klk_X4_191 kse_X0_seenBy rfl rfl rfl rfl (Nat.le_of_ble_eq_true rfl) (Nat.le_of_ble_eq_true rfl) (c_X0_seenBy (d := d + 0) 1 (kxl_1) (0 : Int32) M v2 hv3) ?_
    show kx_Rn _ _ _ (24, [some (.ref 0), some (.int a0), some (.int (0 : Int32)), none, none, none], [.int v2], M) _ _
    refine kx_r_callS (as := [.int v2]) (rest := []) (M1 := M) (rv := some (.int (f_J6_bitCount_0f7a4 v2))) rfl klk_X4_186 kst_J6_bitCount_0f7a4 rfl rfl (Nat.le_of_ble_eq_true rfl) (Nat.le_of_ble_eq_true rfl) (c_J6_bitCount_0f7a4 (d := d + 1) v2 M (f_J6_bitCount_0f7a4 v2) rfl) ?_
    show kx_Rn _ _ _ (27, [some (.ref 0), some (.int a0), some (.int (0 : Int32)), none, none, none], [.int (f_J6_bitCount_0f7a4 v2)], M) _ _
    refine kx_go (pc' := 31) (L' := [some (.ref 0), some (.int a0), some (.int (0 : Int32)), some (.int (f_J6_bitCount_0f7a4 v2)), some (.int (1 : Int32)), none]) (st' := []) 3 rfl ?_
    refine kx_wk [true, true, true, true, true, false] ?_
    exact t_X4_rarest_31 kx_fuel a0 (0 : Int32) (f_J6_bitCount_0f7a4 v2) (1 : Int32) M h
  · rw [if_neg hc1] at h
    refine kx_go (pc' := 10) (L' := [some (.ref 0), some (.int a0), none, none, none, none]) (st' := [.int (-2 : Int32), .ref 0]) 2 rfl ?_
    obtain ⟨v4, M6, hv5, h⟩ := kx_bd_some h
    refine kx_q_callV (as := [.int (-2 : Int32)]) (rest := []) (M1 := M6) (rv := some (.int v4)) kxo_0 rfl klk_X4_59 kse_X4_refuse rfl rfl rfl rfl (Nat.le_of_ble_eq_true rfl) (Nat.le_of_ble_eq_true rfl) (c_X4_refuse (d := d + 0) (-2 : Int32) M v4 M6 hv5) ?_
    show kx_Rn _ _ _ (13, [some (.ref 0), some (.int a0), none, none, none, none], [.int v4], M6) _ _
    cases h
    exact kx_r_iret rfl rfl
theorem c_X4_rarest {d : Nat} (a0 : Int32) (M : kx_M) (r : Int32) (M' : kx_M) (h : f_X4_rarest a0 M = some (r, M')) : kx_Call EX (d + 2) T_X4_rarest [.ref 0, .int a0] M (some (.int r)) M' := kx_entry kok_X4_rarest (Nat.le_of_ble_eq_true rfl) rfl (t_X4_rarest (d := d) a0 M h)
set_option maxRecDepth 100000 in
set_option maxHeartbeats 4000000 in
theorem t_X4_both {d : Nat} {r : Int32} {M' : kx_M} (a0 : Int32) (a1 : Int32) (M : kx_M) (h : f_X4_both a0 a1 M = some (r, M')) : kx_Rn EX T_X4_both (d + 2) (0, [some (.ref 0), some (.int a0), some (.int a1)], [], M) (some (.int r)) M' := by
  unfold f_X4_both at h
  refine kx_go (pc' := 1) (L' := [some (.ref 0), some (.int a0), some (.int a1)]) (st' := [.ref 0]) 1 rfl ?_
  refine kx_q_getR (k := 0) (j := 1) kxo_0 rfl kfl_X4_10 rfl ?_
  refine kx_go (pc' := 5) (L' := [some (.ref 0), some (.int a0), some (.int a1)]) (st' := [.int a0, .ref 1]) 1 rfl ?_
  refine kx_q_callV (as := [.int a0]) (rest := []) (M1 := M) (rv := some (.int (kx_bi (f_X0_hasVisitor 1 M a0)))) kxl_1.1 rfl klk_X4_104 kse_X0_hasVisitor rfl rfl rfl rfl (Nat.le_of_ble_eq_true rfl) (Nat.le_of_ble_eq_true rfl) (c_X0_hasVisitor (d := d + 0) 1 (kxl_1) a0 M (f_X0_hasVisitor 1 M a0) rfl) ?_
  show kx_Rn _ _ _ (8, [some (.ref 0), some (.int a0), some (.int a1)], [.int (kx_bi (f_X0_hasVisitor 1 M a0))], M) _ _
  refine kx_q_zeq rfl (fun hc1 => ?_) (fun hc1 => ?_)
  · rw [if_neg hc1] at h
    refine kx_go (pc' := 30) (L' := [some (.ref 0), some (.int a0), some (.int a1)]) (st' := [.int (-2 : Int32), .ref 0]) 2 rfl ?_
    obtain ⟨v2, M4, hv3, h⟩ := kx_bd_some h
    refine kx_q_callV (as := [.int (-2 : Int32)]) (rest := []) (M1 := M4) (rv := some (.int v2)) kxo_0 rfl klk_X4_59 kse_X4_refuse rfl rfl rfl rfl (Nat.le_of_ble_eq_true rfl) (Nat.le_of_ble_eq_true rfl) (c_X4_refuse (d := d + 0) (-2 : Int32) M v2 M4 hv3) ?_
    show kx_Rn _ _ _ (33, [some (.ref 0), some (.int a0), some (.int a1)], [.int v2], M4) _ _
    cases h
    exact kx_r_iret rfl rfl
  · rw [if_pos hc1] at h
    refine kx_go (pc' := 12) (L' := [some (.ref 0), some (.int a0), some (.int a1)]) (st' := [.ref 0]) 1 rfl ?_
    refine kx_q_getR (k := 0) (j := 1) kxo_0 rfl kfl_X4_10 rfl ?_
    refine kx_go (pc' := 16) (L' := [some (.ref 0), some (.int a0), some (.int a1)]) (st' := [.int a1, .ref 1]) 1 rfl ?_
    refine kx_q_callV (as := [.int a1]) (rest := []) (M1 := M) (rv := some (.int (kx_bi (f_X0_hasVisitor 1 M a1)))) kxl_1.1 rfl klk_X4_104 kse_X0_hasVisitor rfl rfl rfl rfl (Nat.le_of_ble_eq_true rfl) (Nat.le_of_ble_eq_true rfl) (c_X0_hasVisitor (d := d + 0) 1 (kxl_1) a1 M (f_X0_hasVisitor 1 M a1) rfl) ?_
    show kx_Rn _ _ _ (19, [some (.ref 0), some (.int a0), some (.int a1)], [.int (kx_bi (f_X0_hasVisitor 1 M a1))], M) _ _
    refine kx_q_zeq rfl (fun hc5 => ?_) (fun hc5 => ?_)
    · rw [if_neg hc5] at h
      refine kx_go (pc' := 30) (L' := [some (.ref 0), some (.int a0), some (.int a1)]) (st' := [.int (-2 : Int32), .ref 0]) 2 rfl ?_
      obtain ⟨v6, M8, hv7, h⟩ := kx_bd_some h
      refine kx_q_callV (as := [.int (-2 : Int32)]) (rest := []) (M1 := M8) (rv := some (.int v6)) kxo_0 rfl klk_X4_59 kse_X4_refuse rfl rfl rfl rfl (Nat.le_of_ble_eq_true rfl) (Nat.le_of_ble_eq_true rfl) (c_X4_refuse (d := d + 0) (-2 : Int32) M v6 M8 hv7) ?_
      show kx_Rn _ _ _ (33, [some (.ref 0), some (.int a0), some (.int a1)], [.int v6], M8) _ _
      cases h
      exact kx_r_iret rfl rfl
    · rw [if_pos hc5] at h
      refine kx_go (pc' := 24) (L' := [some (.ref 0), some (.int a0), some (.int a1)]) (st' := [.int a1, .int a0]) 2 rfl ?_
      refine kx_r_icmp_ne rfl (fun hc9 => ?_) (fun hc9 => ?_)
      · rw [if_neg hc9] at h
        refine kx_go (pc' := 35) (L' := [some (.ref 0), some (.int a0), some (.int a1)]) (st' := [.ref 0]) 1 rfl ?_
        refine kx_q_getR (k := 0) (j := 1) kxo_0 rfl kfl_X4_10 rfl ?_
        refine kx_q_getR (k := 6) (j := 8) kxl_1.1 rfl kfl_X4_183 rfl ?_
        refine kx_go (pc' := 42) (L' := [some (.ref 0), some (.int a0), some (.int a1)]) (st' := [.int a0, .ref 8]) 1 rfl ?_
        obtain ⟨hi10, h⟩ := kx_ck_some h
        refine kx_q_iald (kxl_1.2.2.2.2.2.2.2) rfl hi10 ?_
        refine kx_go (pc' := 44) (L' := [some (.ref 0), some (.int a0), some (.int a1)]) (st' := [.ref 0, .int (M.1 8 (a0).toNatClampNeg)]) 1 rfl ?_
        refine kx_q_getR (k := 0) (j := 1) kxo_0 rfl kfl_X4_10 rfl ?_
        refine kx_q_getR (k := 6) (j := 8) kxl_1.1 rfl kfl_X4_183 rfl ?_
        refine kx_go (pc' := 51) (L' := [some (.ref 0), some (.int a0), some (.int a1)]) (st' := [.int a1, .ref 8, .int (M.1 8 (a0).toNatClampNeg)]) 1 rfl ?_
        obtain ⟨hi11, h⟩ := kx_ck_some h
        refine kx_q_iald (kxl_1.2.2.2.2.2.2.2) rfl hi11 ?_
        refine kx_go (pc' := 53) (L' := [some (.ref 0), some (.int a0), some (.int a1)]) (st' := [.int ((M.1 8 (a0).toNatClampNeg) &&& (M.1 8 (a1).toNatClampNeg))]) 1 rfl ?_
        refine kx_r_callS (as := [.int ((M.1 8 (a0).toNatClampNeg) &&& (M.1 8 (a1).toNatClampNeg))]) (rest := []) (M1 := M) (rv := some (.int (f_J6_bitCount_0f7a4 ((M.1 8 (a0).toNatClampNeg) &&& (M.1 8 (a1).toNatClampNeg))))) rfl klk_X4_186 kst_J6_bitCount_0f7a4 rfl rfl (Nat.le_of_ble_eq_true rfl) (Nat.le_of_ble_eq_true rfl) (c_J6_bitCount_0f7a4 (d := d + 1) ((M.1 8 (a0).toNatClampNeg) &&& (M.1 8 (a1).toNatClampNeg)) M (f_J6_bitCount_0f7a4 ((M.1 8 (a0).toNatClampNeg) &&& (M.1 8 (a1).toNatClampNeg))) rfl) ?_
        show kx_Rn _ _ _ (56, [some (.ref 0), some (.int a0), some (.int a1)], [.int (f_J6_bitCount_0f7a4 ((M.1 8 (a0).toNatClampNeg) &&& (M.1 8 (a1).toNatClampNeg)))], M) _ _
        cases h
        exact kx_r_iret rfl rfl
      · rw [if_pos hc9] at h
        refine kx_go (pc' := 30) (L' := [some (.ref 0), some (.int a0), some (.int a1)]) (st' := [.int (-2 : Int32), .ref 0]) 2 rfl ?_
        obtain ⟨v12, M14, hv13, h⟩ := kx_bd_some h
        refine kx_q_callV (as := [.int (-2 : Int32)]) (rest := []) (M1 := M14) (rv := some (.int v12)) kxo_0 rfl klk_X4_59 kse_X4_refuse rfl rfl rfl rfl (Nat.le_of_ble_eq_true rfl) (Nat.le_of_ble_eq_true rfl) (c_X4_refuse (d := d + 0) (-2 : Int32) M v12 M14 hv13) ?_
        show kx_Rn _ _ _ (33, [some (.ref 0), some (.int a0), some (.int a1)], [.int v12], M14) _ _
        cases h
        exact kx_r_iret rfl rfl
theorem c_X4_both {d : Nat} (a0 : Int32) (a1 : Int32) (M : kx_M) (r : Int32) (M' : kx_M) (h : f_X4_both a0 a1 M = some (r, M')) : kx_Call EX (d + 2) T_X4_both [.ref 0, .int a0, .int a1] M (some (.int r)) M' := kx_entry kok_X4_both (Nat.le_of_ble_eq_true rfl) rfl (t_X4_both (d := d) a0 a1 M h)
set_option maxRecDepth 100000 in
set_option maxHeartbeats 4000000 in
theorem t_X4_visitsTill_42 {d : Nat} {r : Int32} {M' : kx_M} : ∀ (n : Nat) (x1 : Int32) (x2 : Int32) (x3 : Int32) (M : kx_M), f_X4_visitsTill_42 n x1 x2 x3 M = some (r, M') → kx_Rn EX T_X4_visitsTill (d + 5) (42, [some (.ref 0), some (.int x1), some (.int x2), some (.int x3)], [], M) (some (.int r)) M' := by
  intro n
  induction n with
  | zero =>
    intro x1 x2 x3 M h
    cases (show (none : Option (Int32 × kx_M)) = some _ from h)
  | succ n ih =>
    intro x1 x2 x3 M h
    rw [f_X4_visitsTill_42.eq_2] at h
    refine kx_go (pc' := 45) (L' := [some (.ref 0), some (.int x1), some (.int x2), some (.int x3)]) (st' := [.int (60 : Int32), .int x3]) 2 rfl ?_
    refine kx_r_icmp_gt rfl (fun hc1 => ?_) (fun hc1 => ?_)
    · rw [if_pos hc1] at h
      refine kx_go (pc' := 84) (L' := [some (.ref 0), some (.int x1), some (.int x2), some (.int x3)]) (st' := [.int (-1 : Int32)]) 1 rfl ?_
      cases h
      exact kx_r_iret rfl rfl
    · rw [if_neg hc1] at h
      refine kx_go (pc' := 50) (L' := [some (.ref 0), some (.int x1), some (.int x2), some (.int x3)]) (st' := [.ref 0, .int x2]) 2 rfl ?_
      refine kx_q_getR (k := 2) (j := 17) kxo_0 rfl kfl_X4_19 rfl ?_
      refine kx_q_getR (k := 6) (j := 24) kxl_17.1 rfl kfl_X4_183 rfl ?_
      refine kx_go (pc' := 57) (L' := [some (.ref 0), some (.int x1), some (.int x2), some (.int x3)]) (st' := [.int x1, .ref 24, .int x2]) 1 rfl ?_
      obtain ⟨hi2, h⟩ := kx_ck_some h
      refine kx_q_iald (kxl_17.2.2.2.2.2.2.2) rfl hi2 ?_
      refine kx_go (pc' := 59) (L' := [some (.ref 0), some (.int x1), some (.int x2), some (.int x3)]) (st' := [.long ((M.1 24 (x1).toNatClampNeg)).toInt64, .int x2]) 1 rfl ?_
      refine kx_r_callS (as := [.int x2, .long ((M.1 24 (x1).toNatClampNeg)).toInt64]) (rest := []) (M1 := M) (rv := some (.int (kx_bi (f_X4_isIn x2 ((M.1 24 (x1).toNatClampNeg)).toInt64)))) rfl klk_X4_238 kst_X4_isIn rfl rfl (Nat.le_of_ble_eq_true rfl) (Nat.le_of_ble_eq_true rfl) (c_X4_isIn (d := d + 4) x2 ((M.1 24 (x1).toNatClampNeg)).toInt64 M (f_X4_isIn x2 ((M.1 24 (x1).toNatClampNeg)).toInt64) rfl) ?_
      show kx_Rn _ _ _ (62, [some (.ref 0), some (.int x1), some (.int x2), some (.int x3)], [.int (kx_bi (f_X4_isIn x2 ((M.1 24 (x1).toNatClampNeg)).toInt64))], M) _ _
      refine kx_q_zeq rfl (fun hc3 => ?_) (fun hc3 => ?_)
      · rw [if_neg hc3] at h
        refine kx_go (pc' := 68) (L' := [some (.ref 0), some (.int x1), some (.int x2), some (.int x3)]) (st' := [.ref 0]) 1 rfl ?_
        refine kx_q_getR (k := 2) (j := 17) kxo_0 rfl kfl_X4_19 rfl ?_
        refine kx_go (pc' := 74) (L' := [some (.ref 0), some (.int x1), some (.int x2), some (.int x3)]) (st' := [.int ((1 : Int32) <<< (x1 &&& 31)), .ref 17]) 3 rfl ?_
        obtain ⟨M6, hv5, h⟩ := kx_bn_some h
        refine kx_q_callV (as := [.int ((1 : Int32) <<< (x1 &&& 31))]) (rest := []) (M1 := M6) (rv := none) kxl_17.1 rfl klk_X4_278 kse_X0_goTogether rfl rfl rfl rfl (Nat.le_of_ble_eq_true rfl) (Nat.le_of_ble_eq_true rfl) (c_X0_goTogether (d := d + 0) 17 (kxl_17) ((1 : Int32) <<< (x1 &&& 31)) M M6 hv5) ?_
        show kx_Rn _ _ _ (77, [some (.ref 0), some (.int x1), some (.int x2), some (.int x3)], [], M6) _ _
        refine kx_go (pc' := 80) (L' := [some (.ref 0), some (.int x1), some (.int x2), some (.int (x3 + (1)))]) (st' := []) 1 rfl ?_
        refine kx_r_goto rfl ?_
        refine kx_wk [true, true, true, true] ?_
        exact ih x1 x2 (x3 + (1)) M6 h
      · rw [if_pos hc3] at h
        refine kx_go (pc' := 66) (L' := [some (.ref 0), some (.int x1), some (.int x2), some (.int x3)]) (st' := [.int x3]) 1 rfl ?_
        cases h
        exact kx_r_iret rfl rfl
set_option maxRecDepth 100000 in
set_option maxHeartbeats 4000000 in
theorem t_X4_visitsTill {d : Nat} {r : Int32} {M' : kx_M} (a0 : Int32) (a1 : Int32) (M : kx_M) (h : f_X4_visitsTill a0 a1 M = some (r, M')) : kx_Rn EX T_X4_visitsTill (d + 5) (0, [some (.ref 0), some (.int a0), some (.int a1), none], [], M) (some (.int r)) M' := by
  unfold f_X4_visitsTill at h
  refine kx_go (pc' := 1) (L' := [some (.ref 0), some (.int a0), some (.int a1), none]) (st' := [.ref 0]) 1 rfl ?_
  refine kx_q_getR (k := 0) (j := 1) kxo_0 rfl kfl_X4_10 rfl ?_
  refine kx_go (pc' := 5) (L' := [some (.ref 0), some (.int a0), some (.int a1), none]) (st' := [.int a0, .ref 1]) 1 rfl ?_
  refine kx_q_callV (as := [.int a0]) (rest := []) (M1 := M) (rv := some (.int (kx_bi (f_X0_hasVisitor 1 M a0)))) kxl_1.1 rfl klk_X4_104 kse_X0_hasVisitor rfl rfl rfl rfl (Nat.le_of_ble_eq_true rfl) (Nat.le_of_ble_eq_true rfl) (c_X0_hasVisitor (d := d + 3) 1 (kxl_1) a0 M (f_X0_hasVisitor 1 M a0) rfl) ?_
  show kx_Rn _ _ _ (8, [some (.ref 0), some (.int a0), some (.int a1), none], [.int (kx_bi (f_X0_hasVisitor 1 M a0))], M) _ _
  refine kx_q_zeq rfl (fun hc1 => ?_) (fun hc1 => ?_)
  · rw [if_neg hc1] at h
    refine kx_go (pc' := 25) (L' := [some (.ref 0), some (.int a0), some (.int a1), none]) (st' := [.int (-2 : Int32), .ref 0]) 2 rfl ?_
    obtain ⟨v2, M4, hv3, h⟩ := kx_bd_some h
    refine kx_q_callV (as := [.int (-2 : Int32)]) (rest := []) (M1 := M4) (rv := some (.int v2)) kxo_0 rfl klk_X4_59 kse_X4_refuse rfl rfl rfl rfl (Nat.le_of_ble_eq_true rfl) (Nat.le_of_ble_eq_true rfl) (c_X4_refuse (d := d + 3) (-2 : Int32) M v2 M4 hv3) ?_
    show kx_Rn _ _ _ (28, [some (.ref 0), some (.int a0), some (.int a1), none], [.int v2], M4) _ _
    cases h
    exact kx_r_iret rfl rfl
  · rw [if_pos hc1] at h
    refine kx_go (pc' := 12) (L' := [some (.ref 0), some (.int a0), some (.int a1), none]) (st' := [.ref 0]) 1 rfl ?_
    refine kx_q_getR (k := 0) (j := 1) kxo_0 rfl kfl_X4_10 rfl ?_
    refine kx_go (pc' := 16) (L' := [some (.ref 0), some (.int a0), some (.int a1), none]) (st' := [.int a1, .ref 1]) 1 rfl ?_
    refine kx_q_callV (as := [.int a1]) (rest := []) (M1 := M) (rv := some (.int (kx_bi (f_X0_hasCell 1 M a1)))) kxl_1.1 rfl klk_X4_149 kse_X0_hasCell rfl rfl rfl rfl (Nat.le_of_ble_eq_true rfl) (Nat.le_of_ble_eq_true rfl) (c_X0_hasCell (d := d + 3) 1 (kxl_1) a1 M (f_X0_hasCell 1 M a1) rfl) ?_
    show kx_Rn _ _ _ (19, [some (.ref 0), some (.int a0), some (.int a1), none], [.int (kx_bi (f_X0_hasCell 1 M a1))], M) _ _
    refine kx_q_zne rfl (fun hc5 => ?_) (fun hc5 => ?_)
    · rw [if_pos hc5] at h
      refine kx_go (pc' := 30) (L' := [some (.ref 0), some (.int a0), some (.int a1), none]) (st' := [.ref 0]) 1 rfl ?_
      refine kx_q_getR (k := 2) (j := 17) kxo_0 rfl kfl_X4_19 rfl ?_
      refine kx_go (pc' := 34) (L' := [some (.ref 0), some (.int a0), some (.int a1), none]) (st' := [.ref 0, .ref 17]) 1 rfl ?_
      refine kx_q_getR (k := 0) (j := 1) kxo_0 rfl kfl_X4_10 rfl ?_
      obtain ⟨M8, hv7, h⟩ := kx_bn_some h
      refine kx_q_callV (as := [.ref 1]) (rest := []) (M1 := M8) (rv := none) kxl_17.1 rfl klk_X4_172 kse_X0_takeFrom rfl rfl rfl rfl (Nat.le_of_ble_eq_true rfl) (Nat.le_of_ble_eq_true rfl) (c_X0_takeFrom (d := d + 3) 17 (kxl_17) 1 (kxl_1) M M8 hv7) ?_
      show kx_Rn _ _ _ (40, [some (.ref 0), some (.int a0), some (.int a1), none], [], M8) _ _
      refine kx_go (pc' := 42) (L' := [some (.ref 0), some (.int a0), some (.int a1), some (.int (0 : Int32))]) (st' := []) 2 rfl ?_
      refine kx_wk [true, true, true, true] ?_
      exact t_X4_visitsTill_42 kx_fuel a0 a1 (0 : Int32) M8 h
    · rw [if_neg hc5] at h
      refine kx_go (pc' := 25) (L' := [some (.ref 0), some (.int a0), some (.int a1), none]) (st' := [.int (-2 : Int32), .ref 0]) 2 rfl ?_
      obtain ⟨v9, M11, hv10, h⟩ := kx_bd_some h
      refine kx_q_callV (as := [.int (-2 : Int32)]) (rest := []) (M1 := M11) (rv := some (.int v9)) kxo_0 rfl klk_X4_59 kse_X4_refuse rfl rfl rfl rfl (Nat.le_of_ble_eq_true rfl) (Nat.le_of_ble_eq_true rfl) (c_X4_refuse (d := d + 3) (-2 : Int32) M v9 M11 hv10) ?_
      show kx_Rn _ _ _ (28, [some (.ref 0), some (.int a0), some (.int a1), none], [.int v9], M11) _ _
      cases h
      exact kx_r_iret rfl rfl
theorem c_X4_visitsTill {d : Nat} (a0 : Int32) (a1 : Int32) (M : kx_M) (r : Int32) (M' : kx_M) (h : f_X4_visitsTill a0 a1 M = some (r, M')) : kx_Call EX (d + 5) T_X4_visitsTill [.ref 0, .int a0, .int a1] M (some (.int r)) M' := kx_entry kok_X4_visitsTill (Nat.le_of_ble_eq_true rfl) rfl (t_X4_visitsTill (d := d) a0 a1 M h)
set_option maxRecDepth 100000 in
set_option maxHeartbeats 4000000 in
theorem t_X4_who_22 {d : Nat} {r : Int32} {M' : kx_M} : ∀ (n : Nat) (x1 : Int32) (x2 : Int32) (x3 : Int32) (M : kx_M), f_X4_who_22 n x1 x2 x3 M = some (r, M') → kx_Rn EX T_X4_who (d + 5) (22, [some (.ref 0), some (.int x1), some (.int x2), some (.int x3)], [], M) (some (.int r)) M' := by
  intro n
  induction n with
  | zero =>
    intro x1 x2 x3 M h
    cases (show (none : Option (Int32 × kx_M)) = some _ from h)
  | succ n ih =>
    intro x1 x2 x3 M h
    rw [f_X4_who_22.eq_2] at h
    refine kx_go (pc' := 24) (L' := [some (.ref 0), some (.int x1), some (.int x2), some (.int x3)]) (st' := [.ref 0, .int x3]) 2 rfl ?_
    refine kx_q_getR (k := 0) (j := 1) kxo_0 rfl kfl_X4_10 rfl ?_
    refine kx_q_getI (k := 11) kxl_1.1 rfl kfl_X4_146 rfl ?_
    refine kx_r_icmp_ge rfl (fun hc1 => ?_) (fun hc1 => ?_)
    · rw [if_pos hc1] at h
      refine kx_go (pc' := 69) (L' := [some (.ref 0), some (.int x1), some (.int x2), some (.int x3)]) (st' := [.int x2]) 1 rfl ?_
      cases h
      exact kx_r_iret rfl rfl
    · rw [if_neg hc1] at h
      refine kx_go (pc' := 35) (L' := [some (.ref 0), some (.int x1), some (.int x2), some (.int x3)]) (st' := [.ref 0, .int x1]) 2 rfl ?_
      refine kx_q_getR (k := 0) (j := 1) kxo_0 rfl kfl_X4_10 rfl ?_
      refine kx_go (pc' := 40) (L' := [some (.ref 0), some (.int x1), some (.int x2), some (.int x3)]) (st' := [.ref 0, .int x3, .ref 1, .int x1]) 2 rfl ?_
      refine kx_q_getR (k := 0) (j := 1) kxo_0 rfl kfl_X4_10 rfl ?_
      refine kx_q_getI (k := 8) kxl_1.1 rfl kfl_X4_122 rfl ?_
      obtain ⟨v2, hv3, h⟩ := kx_bn_some h
      refine kx_q_callV (as := [.int x3, .int (M.1 1 8)]) (rest := [.int x1]) (M1 := M) (rv := some (.int v2)) kxl_1.1 rfl klk_X4_242 kse_X0_shownAlone rfl rfl rfl rfl (Nat.le_of_ble_eq_true rfl) (Nat.le_of_ble_eq_true rfl) (c_X0_shownAlone (d := d + 0) 1 (kxl_1) x3 (M.1 1 8) M v2 hv3) ?_
      show kx_Rn _ _ _ (49, [some (.ref 0), some (.int x1), some (.int x2), some (.int x3)], [.int v2, .int x1], M) _ _
      refine kx_go (pc' := 50) (L' := [some (.ref 0), some (.int x1), some (.int x2), some (.int x3)]) (st' := [.long (v2).toInt64, .int x1]) 1 rfl ?_
      refine kx_r_callS (as := [.int x1, .long (v2).toInt64]) (rest := []) (M1 := M) (rv := some (.int (kx_bi (f_X4_isIn x1 (v2).toInt64)))) rfl klk_X4_238 kst_X4_isIn rfl rfl (Nat.le_of_ble_eq_true rfl) (Nat.le_of_ble_eq_true rfl) (c_X4_isIn (d := d + 4) x1 (v2).toInt64 M (f_X4_isIn x1 (v2).toInt64) rfl) ?_
      show kx_Rn _ _ _ (53, [some (.ref 0), some (.int x1), some (.int x2), some (.int x3)], [.int (kx_bi (f_X4_isIn x1 (v2).toInt64))], M) _ _
      refine kx_q_zeq rfl (fun hc4 => ?_) (fun hc4 => ?_)
      · rw [if_neg hc4] at h
        refine kx_go (pc' := 65) (L' := [some (.ref 0), some (.int x1), some (.int x2), some (.int (x3 + (1)))]) (st' := []) 1 rfl ?_
        refine kx_r_goto rfl ?_
        refine kx_wk [true, true, true, true] ?_
        exact ih x1 x2 (x3 + (1)) M h
      · rw [if_pos hc4] at h
        refine kx_go (pc' := 65) (L' := [some (.ref 0), some (.int x1), some (.int (x2 ||| ((1 : Int32) <<< (x3 &&& 31)))), some (.int (x3 + (1)))]) (st' := []) 7 rfl ?_
        refine kx_r_goto rfl ?_
        refine kx_wk [true, true, true, true] ?_
        exact ih x1 (x2 ||| ((1 : Int32) <<< (x3 &&& 31))) (x3 + (1)) M h
set_option maxRecDepth 100000 in
set_option maxHeartbeats 4000000 in
theorem t_X4_who {d : Nat} {r : Int32} {M' : kx_M} (a0 : Int32) (M : kx_M) (h : f_X4_who a0 M = some (r, M')) : kx_Rn EX T_X4_who (d + 5) (0, [some (.ref 0), some (.int a0), none, none], [], M) (some (.int r)) M' := by
  unfold f_X4_who at h
  refine kx_go (pc' := 1) (L' := [some (.ref 0), some (.int a0), none, none]) (st' := [.ref 0]) 1 rfl ?_
  refine kx_q_getR (k := 0) (j := 1) kxo_0 rfl kfl_X4_10 rfl ?_
  refine kx_go (pc' := 5) (L' := [some (.ref 0), some (.int a0), none, none]) (st' := [.int a0, .ref 1]) 1 rfl ?_
  refine kx_q_callV (as := [.int a0]) (rest := []) (M1 := M) (rv := some (.int (kx_bi (f_X0_hasCell 1 M a0)))) kxl_1.1 rfl klk_X4_149 kse_X0_hasCell rfl rfl rfl rfl (Nat.le_of_ble_eq_true rfl) (Nat.le_of_ble_eq_true rfl) (c_X0_hasCell (d := d + 3) 1 (kxl_1) a0 M (f_X0_hasCell 1 M a0) rfl) ?_
  show kx_Rn _ _ _ (8, [some (.ref 0), some (.int a0), none, none], [.int (kx_bi (f_X0_hasCell 1 M a0))], M) _ _
  refine kx_q_zne rfl (fun hc1 => ?_) (fun hc1 => ?_)
  · rw [if_pos hc1] at h
    refine kx_go (pc' := 22) (L' := [some (.ref 0), some (.int a0), some (.int (0 : Int32)), some (.int (0 : Int32))]) (st' := []) 4 rfl ?_
    refine kx_wk [true, true, true, true] ?_
    exact t_X4_who_22 kx_fuel a0 (0 : Int32) (0 : Int32) M h
  · rw [if_neg hc1] at h
    refine kx_go (pc' := 14) (L' := [some (.ref 0), some (.int a0), none, none]) (st' := [.int (-2 : Int32), .ref 0]) 2 rfl ?_
    obtain ⟨v2, M4, hv3, h⟩ := kx_bd_some h
    refine kx_q_callV (as := [.int (-2 : Int32)]) (rest := []) (M1 := M4) (rv := some (.int v2)) kxo_0 rfl klk_X4_59 kse_X4_refuse rfl rfl rfl rfl (Nat.le_of_ble_eq_true rfl) (Nat.le_of_ble_eq_true rfl) (c_X4_refuse (d := d + 3) (-2 : Int32) M v2 M4 hv3) ?_
    show kx_Rn _ _ _ (17, [some (.ref 0), some (.int a0), none, none], [.int v2], M4) _ _
    cases h
    exact kx_r_iret rfl rfl
theorem c_X4_who {d : Nat} (a0 : Int32) (M : kx_M) (r : Int32) (M' : kx_M) (h : f_X4_who a0 M = some (r, M')) : kx_Call EX (d + 5) T_X4_who [.ref 0, .int a0] M (some (.int r)) M' := kx_entry kok_X4_who (Nat.le_of_ble_eq_true rfl) rfl (t_X4_who (d := d) a0 M h)
set_option maxRecDepth 100000 in
set_option maxHeartbeats 4000000 in
theorem t_X4_company_25 {d : Nat} {r : Int32} {M' : kx_M} : ∀ (n : Nat) (x1 : Int32) (x2 : Int32) (x3 : Int32) (x4 : Int32) (M : kx_M), f_X4_company_25 n x1 x2 x3 x4 M = some (r, M') → kx_Rn EX T_X4_company (d + 4) (25, [some (.ref 0), some (.int x1), some (.int x2), some (.int x3), some (.int x4), none], [], M) (some (.int r)) M' := by
  intro n
  induction n with
  | zero =>
    intro x1 x2 x3 x4 M h
    cases (show (none : Option (Int32 × kx_M)) = some _ from h)
  | succ n ih =>
    intro x1 x2 x3 x4 M h
    rw [f_X4_company_25.eq_2] at h
    refine kx_go (pc' := 28) (L' := [some (.ref 0), some (.int x1), some (.int x2), some (.int x3), some (.int x4), none]) (st' := [.ref 0, .int x4]) 2 rfl ?_
    refine kx_q_getR (k := 0) (j := 1) kxo_0 rfl kfl_X4_10 rfl ?_
    refine kx_q_callV (as := []) (rest := [.int x4]) (M1 := M) (rv := some (.int (f_X0_all 1 M))) kxl_1.1 rfl klk_X4_215 kse_X0_all rfl rfl rfl rfl (Nat.le_of_ble_eq_true rfl) (Nat.le_of_ble_eq_true rfl) (c_X0_all (d := d + 3) 1 (kxl_1) M (f_X0_all 1 M) rfl) ?_
    show kx_Rn _ _ _ (34, [some (.ref 0), some (.int x1), some (.int x2), some (.int x3), some (.int x4), none], [.int (f_X0_all 1 M), .int x4], M) _ _
    refine kx_r_icmp_gt rfl (fun hc1 => ?_) (fun hc1 => ?_)
    · rw [if_pos hc1] at h
      refine kx_go (pc' := 88) (L' := [some (.ref 0), some (.int x1), some (.int x2), some (.int x3), some (.int x4), none]) (st' := [.int x2]) 1 rfl ?_
      cases h
      exact kx_r_iret rfl rfl
    · rw [if_neg hc1] at h
      refine kx_go (pc' := 41) (L' := [some (.ref 0), some (.int x1), some (.int x2), some (.int x3), some (.int x4), none]) (st' := [.long (x4).toInt64, .int x1]) 3 rfl ?_
      refine kx_r_callS (as := [.int x1, .long (x4).toInt64]) (rest := []) (M1 := M) (rv := some (.int (kx_bi (f_X4_isIn x1 (x4).toInt64)))) rfl klk_X4_238 kst_X4_isIn rfl rfl (Nat.le_of_ble_eq_true rfl) (Nat.le_of_ble_eq_true rfl) (c_X4_isIn (d := d + 3) x1 (x4).toInt64 M (f_X4_isIn x1 (x4).toInt64) rfl) ?_
      show kx_Rn _ _ _ (44, [some (.ref 0), some (.int x1), some (.int x2), some (.int x3), some (.int x4), none], [.int (kx_bi (f_X4_isIn x1 (x4).toInt64))], M) _ _
      refine kx_q_zeq rfl (fun hc2 => ?_) (fun hc2 => ?_)
      · rw [if_neg hc2] at h
        refine kx_go (pc' := 84) (L' := [some (.ref 0), some (.int x1), some (.int x2), some (.int x3), some (.int (x4 + (1))), none]) (st' := []) 1 rfl ?_
        refine kx_r_goto rfl ?_
        refine kx_wk [true, true, true, true, true, false] ?_
        exact ih x1 x2 x3 (x4 + (1)) M h
      · rw [if_pos hc2] at h
        refine kx_go (pc' := 48) (L' := [some (.ref 0), some (.int x1), some (.int x2), some (.int x3), some (.int x4), none]) (st' := [.ref 0]) 1 rfl ?_
        refine kx_q_getR (k := 0) (j := 1) kxo_0 rfl kfl_X4_10 rfl ?_
        refine kx_go (pc' := 55) (L' := [some (.ref 0), some (.int x1), some (.int x2), some (.int x3), some (.int x4), none]) (st' := [.ref 0, .int x4, .int x1, .ref 1]) 3 rfl ?_
        refine kx_q_getR (k := 0) (j := 1) kxo_0 rfl kfl_X4_10 rfl ?_
        refine kx_q_getI (k := 8) kxl_1.1 rfl kfl_X4_122 rfl ?_
        obtain ⟨v3, hv4, h⟩ := kx_bn_some h
        refine kx_q_callV (as := [.int x1, .int x4, .int (M.1 1 8)]) (rest := []) (M1 := M) (rv := some (.int v3)) kxl_1.1 rfl klk_X4_197 kse_X0_shownTo rfl rfl rfl rfl (Nat.le_of_ble_eq_true rfl) (Nat.le_of_ble_eq_true rfl) (c_X0_shownTo (d := d + 0) 1 (kxl_1) x1 x4 (M.1 1 8) M v3 hv4) ?_
        show kx_Rn _ _ _ (64, [some (.ref 0), some (.int x1), some (.int x2), some (.int x3), some (.int x4), none], [.int v3], M) _ _
        refine kx_r_callS (as := [.int v3]) (rest := []) (M1 := M) (rv := some (.int (f_J6_bitCount_0f7a4 v3))) rfl klk_X4_186 kst_J6_bitCount_0f7a4 rfl rfl (Nat.le_of_ble_eq_true rfl) (Nat.le_of_ble_eq_true rfl) (c_J6_bitCount_0f7a4 (d := d + 3) v3 M (f_J6_bitCount_0f7a4 v3) rfl) ?_
        show kx_Rn _ _ _ (67, [some (.ref 0), some (.int x1), some (.int x2), some (.int x3), some (.int x4), none], [.int (f_J6_bitCount_0f7a4 v3)], M) _ _
        refine kx_go (pc' := 72) (L' := [some (.ref 0), some (.int x1), some (.int x2), some (.int x3), some (.int x4), some (.int (f_J6_bitCount_0f7a4 v3))]) (st' := [.int x3, .int (f_J6_bitCount_0f7a4 v3)]) 3 rfl ?_
        refine kx_r_icmp_le rfl (fun hc5 => ?_) (fun hc5 => ?_)
        · rw [if_pos hc5] at h
          refine kx_go (pc' := 84) (L' := [some (.ref 0), some (.int x1), some (.int x2), some (.int x3), some (.int (x4 + (1))), some (.int (f_J6_bitCount_0f7a4 v3))]) (st' := []) 1 rfl ?_
          refine kx_r_goto rfl ?_
          refine kx_wk [true, true, true, true, true, false] ?_
          exact ih x1 x2 x3 (x4 + (1)) M h
        · rw [if_neg hc5] at h
          refine kx_go (pc' := 84) (L' := [some (.ref 0), some (.int x1), some (.int x4), some (.int (f_J6_bitCount_0f7a4 v3)), some (.int (x4 + (1))), some (.int (f_J6_bitCount_0f7a4 v3))]) (st' := []) 5 rfl ?_
          refine kx_r_goto rfl ?_
          refine kx_wk [true, true, true, true, true, false] ?_
          exact ih x1 x4 (f_J6_bitCount_0f7a4 v3) (x4 + (1)) M h
set_option maxRecDepth 100000 in
set_option maxHeartbeats 4000000 in
theorem t_X4_company {d : Nat} {r : Int32} {M' : kx_M} (a0 : Int32) (M : kx_M) (h : f_X4_company a0 M = some (r, M')) : kx_Rn EX T_X4_company (d + 4) (0, [some (.ref 0), some (.int a0), none, none, none, none], [], M) (some (.int r)) M' := by
  unfold f_X4_company at h
  refine kx_go (pc' := 1) (L' := [some (.ref 0), some (.int a0), none, none, none, none]) (st' := [.ref 0]) 1 rfl ?_
  refine kx_q_getR (k := 0) (j := 1) kxo_0 rfl kfl_X4_10 rfl ?_
  refine kx_go (pc' := 5) (L' := [some (.ref 0), some (.int a0), none, none, none, none]) (st' := [.int a0, .ref 1]) 1 rfl ?_
  refine kx_q_callV (as := [.int a0]) (rest := []) (M1 := M) (rv := some (.int (kx_bi (f_X0_hasVisitor 1 M a0)))) kxl_1.1 rfl klk_X4_104 kse_X0_hasVisitor rfl rfl rfl rfl (Nat.le_of_ble_eq_true rfl) (Nat.le_of_ble_eq_true rfl) (c_X0_hasVisitor (d := d + 2) 1 (kxl_1) a0 M (f_X0_hasVisitor 1 M a0) rfl) ?_
  show kx_Rn _ _ _ (8, [some (.ref 0), some (.int a0), none, none, none, none], [.int (kx_bi (f_X0_hasVisitor 1 M a0))], M) _ _
  refine kx_q_zne rfl (fun hc1 => ?_) (fun hc1 => ?_)
  · rw [if_pos hc1] at h
    refine kx_go (pc' := 25) (L' := [some (.ref 0), some (.int a0), some (.int (-1 : Int32)), some (.int (-1 : Int32)), some (.int (1 : Int32)), none]) (st' := []) 6 rfl ?_
    refine kx_wk [true, true, true, true, true, false] ?_
    exact t_X4_company_25 kx_fuel a0 (-1 : Int32) (-1 : Int32) (1 : Int32) M h
  · rw [if_neg hc1] at h
    refine kx_go (pc' := 14) (L' := [some (.ref 0), some (.int a0), none, none, none, none]) (st' := [.int (-2 : Int32), .ref 0]) 2 rfl ?_
    obtain ⟨v2, M4, hv3, h⟩ := kx_bd_some h
    refine kx_q_callV (as := [.int (-2 : Int32)]) (rest := []) (M1 := M4) (rv := some (.int v2)) kxo_0 rfl klk_X4_59 kse_X4_refuse rfl rfl rfl rfl (Nat.le_of_ble_eq_true rfl) (Nat.le_of_ble_eq_true rfl) (c_X4_refuse (d := d + 2) (-2 : Int32) M v2 M4 hv3) ?_
    show kx_Rn _ _ _ (17, [some (.ref 0), some (.int a0), none, none, none, none], [.int v2], M4) _ _
    cases h
    exact kx_r_iret rfl rfl
theorem c_X4_company {d : Nat} (a0 : Int32) (M : kx_M) (r : Int32) (M' : kx_M) (h : f_X4_company a0 M = some (r, M')) : kx_Call EX (d + 4) T_X4_company [.ref 0, .int a0] M (some (.int r)) M' := kx_entry kok_X4_company (Nat.le_of_ble_eq_true rfl) rfl (t_X4_company (d := d) a0 M h)
set_option maxRecDepth 100000 in
set_option maxHeartbeats 4000000 in
theorem t_X4_spoiler_25 {d : Nat} {r : Int32} {M' : kx_M} : ∀ (n : Nat) (x1 : Int32) (x2 : Int32) (x3 : Int32) (x4 : Int32) (M : kx_M), f_X4_spoiler_25 n x1 x2 x3 x4 M = some (r, M') → kx_Rn EX T_X4_spoiler (d + 5) (25, [some (.ref 0), some (.int x1), some (.int x2), some (.int x3), some (.int x4), none, none], [], M) (some (.int r)) M' := by
  intro n
  induction n with
  | zero =>
    intro x1 x2 x3 x4 M h
    cases (show (none : Option (Int32 × kx_M)) = some _ from h)
  | succ n ih =>
    intro x1 x2 x3 x4 M h
    rw [f_X4_spoiler_25.eq_2] at h
    refine kx_go (pc' := 28) (L' := [some (.ref 0), some (.int x1), some (.int x2), some (.int x3), some (.int x4), none, none]) (st' := [.ref 0, .int x4]) 2 rfl ?_
    refine kx_q_getR (k := 0) (j := 1) kxo_0 rfl kfl_X4_10 rfl ?_
    refine kx_q_getI (k := 11) kxl_1.1 rfl kfl_X4_146 rfl ?_
    refine kx_r_icmp_ge rfl (fun hc1 => ?_) (fun hc1 => ?_)
    · rw [if_pos hc1] at h
      refine kx_go (pc' := 97) (L' := [some (.ref 0), some (.int x1), some (.int x2), some (.int x3), some (.int x4), none, none]) (st' := [.int x2]) 1 rfl ?_
      cases h
      exact kx_r_iret rfl rfl
    · rw [if_neg hc1] at h
      refine kx_go (pc' := 41) (L' := [some (.ref 0), some (.int x1), some (.int x2), some (.int x3), some (.int x4), none, none]) (st' := [.long (x1).toInt64, .int x4]) 3 rfl ?_
      refine kx_r_callS (as := [.int x4, .long (x1).toInt64]) (rest := []) (M1 := M) (rv := some (.int (kx_bi (f_X4_isIn x4 (x1).toInt64)))) rfl klk_X4_238 kst_X4_isIn rfl rfl (Nat.le_of_ble_eq_true rfl) (Nat.le_of_ble_eq_true rfl) (c_X4_isIn (d := d + 4) x4 (x1).toInt64 M (f_X4_isIn x4 (x1).toInt64) rfl) ?_
      show kx_Rn _ _ _ (44, [some (.ref 0), some (.int x1), some (.int x2), some (.int x3), some (.int x4), none, none], [.int (kx_bi (f_X4_isIn x4 (x1).toInt64))], M) _ _
      refine kx_q_zeq rfl (fun hc2 => ?_) (fun hc2 => ?_)
      · rw [if_neg hc2] at h
        refine kx_go (pc' := 93) (L' := [some (.ref 0), some (.int x1), some (.int x2), some (.int x3), some (.int (x4 + (1))), none, none]) (st' := []) 1 rfl ?_
        refine kx_r_goto rfl ?_
        refine kx_wk [true, true, true, true, true, false, false] ?_
        exact ih x1 x2 x3 (x4 + (1)) M h
      · rw [if_pos hc2] at h
        refine kx_go (pc' := 58) (L' := [some (.ref 0), some (.int x1), some (.int x2), some (.int x3), some (.int x4), some (.int (x1 &&& (((1 : Int32) <<< (x4 &&& 31)) ^^^ (-1 : Int32)))), none]) (st' := [.ref 0]) 9 rfl ?_
        refine kx_q_getR (k := 0) (j := 1) kxo_0 rfl kfl_X4_10 rfl ?_
        refine kx_go (pc' := 64) (L' := [some (.ref 0), some (.int x1), some (.int x2), some (.int x3), some (.int x4), some (.int (x1 &&& (((1 : Int32) <<< (x4 &&& 31)) ^^^ (-1 : Int32)))), none]) (st' := [.ref 0, .int (x1 &&& (((1 : Int32) <<< (x4 &&& 31)) ^^^ (-1 : Int32))), .ref 1]) 2 rfl ?_
        refine kx_q_getR (k := 0) (j := 1) kxo_0 rfl kfl_X4_10 rfl ?_
        refine kx_q_getI (k := 8) kxl_1.1 rfl kfl_X4_122 rfl ?_
        obtain ⟨v3, hv4, h⟩ := kx_bn_some h
        refine kx_q_callV (as := [.int (x1 &&& (((1 : Int32) <<< (x4 &&& 31)) ^^^ (-1 : Int32))), .int (M.1 1 8)]) (rest := []) (M1 := M) (rv := some (.int v3)) kxl_1.1 rfl klk_X4_222 kse_X0_shownToAny rfl rfl rfl rfl (Nat.le_of_ble_eq_true rfl) (Nat.le_of_ble_eq_true rfl) (c_X0_shownToAny (d := d + 0) 1 (kxl_1) (x1 &&& (((1 : Int32) <<< (x4 &&& 31)) ^^^ (-1 : Int32))) (M.1 1 8) M v3 hv4) ?_
        show kx_Rn _ _ _ (73, [some (.ref 0), some (.int x1), some (.int x2), some (.int x3), some (.int x4), some (.int (x1 &&& (((1 : Int32) <<< (x4 &&& 31)) ^^^ (-1 : Int32)))), none], [.int v3], M) _ _
        refine kx_r_callS (as := [.int v3]) (rest := []) (M1 := M) (rv := some (.int (f_J6_bitCount_0f7a4 v3))) rfl klk_X4_186 kst_J6_bitCount_0f7a4 rfl rfl (Nat.le_of_ble_eq_true rfl) (Nat.le_of_ble_eq_true rfl) (c_J6_bitCount_0f7a4 (d := d + 4) v3 M (f_J6_bitCount_0f7a4 v3) rfl) ?_
        show kx_Rn _ _ _ (76, [some (.ref 0), some (.int x1), some (.int x2), some (.int x3), some (.int x4), some (.int (x1 &&& (((1 : Int32) <<< (x4 &&& 31)) ^^^ (-1 : Int32)))), none], [.int (f_J6_bitCount_0f7a4 v3)], M) _ _
        refine kx_go (pc' := 81) (L' := [some (.ref 0), some (.int x1), some (.int x2), some (.int x3), some (.int x4), some (.int (x1 &&& (((1 : Int32) <<< (x4 &&& 31)) ^^^ (-1 : Int32)))), some (.int (f_J6_bitCount_0f7a4 v3))]) (st' := [.int x3, .int (f_J6_bitCount_0f7a4 v3)]) 3 rfl ?_
        refine kx_r_icmp_le rfl (fun hc5 => ?_) (fun hc5 => ?_)
        · rw [if_pos hc5] at h
          refine kx_go (pc' := 93) (L' := [some (.ref 0), some (.int x1), some (.int x2), some (.int x3), some (.int (x4 + (1))), some (.int (x1 &&& (((1 : Int32) <<< (x4 &&& 31)) ^^^ (-1 : Int32)))), some (.int (f_J6_bitCount_0f7a4 v3))]) (st' := []) 1 rfl ?_
          refine kx_r_goto rfl ?_
          refine kx_wk [true, true, true, true, true, false, false] ?_
          exact ih x1 x2 x3 (x4 + (1)) M h
        · rw [if_neg hc5] at h
          refine kx_go (pc' := 93) (L' := [some (.ref 0), some (.int x1), some (.int x4), some (.int (f_J6_bitCount_0f7a4 v3)), some (.int (x4 + (1))), some (.int (x1 &&& (((1 : Int32) <<< (x4 &&& 31)) ^^^ (-1 : Int32)))), some (.int (f_J6_bitCount_0f7a4 v3))]) (st' := []) 5 rfl ?_
          refine kx_r_goto rfl ?_
          refine kx_wk [true, true, true, true, true, false, false] ?_
          exact ih x1 x4 (f_J6_bitCount_0f7a4 v3) (x4 + (1)) M h
set_option maxRecDepth 100000 in
set_option maxHeartbeats 4000000 in
theorem t_X4_spoiler {d : Nat} {r : Int32} {M' : kx_M} (a0 : Int32) (M : kx_M) (h : f_X4_spoiler a0 M = some (r, M')) : kx_Rn EX T_X4_spoiler (d + 5) (0, [some (.ref 0), some (.int a0), none, none, none, none, none], [], M) (some (.int r)) M' := by
  unfold f_X4_spoiler at h
  refine kx_go (pc' := 1) (L' := [some (.ref 0), some (.int a0), none, none, none, none, none]) (st' := [.ref 0]) 1 rfl ?_
  refine kx_q_getR (k := 0) (j := 1) kxo_0 rfl kfl_X4_10 rfl ?_
  refine kx_go (pc' := 5) (L' := [some (.ref 0), some (.int a0), none, none, none, none, none]) (st' := [.int a0, .ref 1]) 1 rfl ?_
  refine kx_q_callV (as := [.int a0]) (rest := []) (M1 := M) (rv := some (.int (kx_bi (f_X0_hasGroup 1 M a0)))) kxl_1.1 rfl klk_X4_200 kse_X0_hasGroup rfl rfl rfl rfl (Nat.le_of_ble_eq_true rfl) (Nat.le_of_ble_eq_true rfl) (c_X0_hasGroup (d := d + 3) 1 (kxl_1) a0 M (f_X0_hasGroup 1 M a0) rfl) ?_
  show kx_Rn _ _ _ (8, [some (.ref 0), some (.int a0), none, none, none, none, none], [.int (kx_bi (f_X0_hasGroup 1 M a0))], M) _ _
  refine kx_q_zne rfl (fun hc1 => ?_) (fun hc1 => ?_)
  · rw [if_pos hc1] at h
    refine kx_go (pc' := 25) (L' := [some (.ref 0), some (.int a0), some (.int (-1 : Int32)), some (.int (-1 : Int32)), some (.int (0 : Int32)), none, none]) (st' := []) 6 rfl ?_
    refine kx_wk [true, true, true, true, true, false, false] ?_
    exact t_X4_spoiler_25 kx_fuel a0 (-1 : Int32) (-1 : Int32) (0 : Int32) M h
  · rw [if_neg hc1] at h
    refine kx_go (pc' := 14) (L' := [some (.ref 0), some (.int a0), none, none, none, none, none]) (st' := [.int (-2 : Int32), .ref 0]) 2 rfl ?_
    obtain ⟨v2, M4, hv3, h⟩ := kx_bd_some h
    refine kx_q_callV (as := [.int (-2 : Int32)]) (rest := []) (M1 := M4) (rv := some (.int v2)) kxo_0 rfl klk_X4_59 kse_X4_refuse rfl rfl rfl rfl (Nat.le_of_ble_eq_true rfl) (Nat.le_of_ble_eq_true rfl) (c_X4_refuse (d := d + 3) (-2 : Int32) M v2 M4 hv3) ?_
    show kx_Rn _ _ _ (17, [some (.ref 0), some (.int a0), none, none, none, none, none], [.int v2], M4) _ _
    cases h
    exact kx_r_iret rfl rfl
theorem c_X4_spoiler {d : Nat} (a0 : Int32) (M : kx_M) (r : Int32) (M' : kx_M) (h : f_X4_spoiler a0 M = some (r, M')) : kx_Call EX (d + 5) T_X4_spoiler [.ref 0, .int a0] M (some (.int r)) M' := kx_entry kok_X4_spoiler (Nat.le_of_ble_eq_true rfl) rfl (t_X4_spoiler (d := d) a0 M h)
set_option maxRecDepth 100000 in
set_option maxHeartbeats 4000000 in
theorem t_X4_knownBehindTwo {d : Nat} {r : Int32} (M : kx_M) (a0 : Int32) (a1 : Int32) (h : f_X4_knownBehindTwo M a0 a1 = some r) : kx_Rn EX T_X4_knownBehindTwo (d + 5) (0, [some (.ref 0), some (.int a0), some (.int a1), none], [], M) (some (.int r)) M := by
  unfold f_X4_knownBehindTwo at h
  refine kx_go (pc' := 1) (L' := [some (.ref 0), some (.int a0), some (.int a1), none]) (st' := [.ref 0]) 1 rfl ?_
  refine kx_q_getR (k := 0) (j := 1) kxo_0 rfl kfl_X4_10 rfl ?_
  refine kx_go (pc' := 6) (L' := [some (.ref 0), some (.int a0), some (.int a1), none]) (st' := [.ref 0, .int a0, .ref 1]) 2 rfl ?_
  refine kx_q_getR (k := 0) (j := 1) kxo_0 rfl kfl_X4_10 rfl ?_
  refine kx_q_getI (k := 8) kxl_1.1 rfl kfl_X4_122 rfl ?_
  refine kx_q_callV (as := [.int a0, .int (M.1 1 8)]) (rest := []) (M1 := M) (rv := some (.int (f_X0_veilBehind 1 M a0 (M.1 1 8)))) kxl_1.1 rfl klk_X4_212 kse_X0_veilBehind rfl rfl rfl rfl (Nat.le_of_ble_eq_true rfl) (Nat.le_of_ble_eq_true rfl) (c_X0_veilBehind (d := d + 2) 1 (kxl_1) a0 (M.1 1 8) M (f_X0_veilBehind 1 M a0 (M.1 1 8)) rfl) ?_
  show kx_Rn _ _ _ (15, [some (.ref 0), some (.int a0), some (.int a1), none], [.int (f_X0_veilBehind 1 M a0 (M.1 1 8))], M) _ _
  refine kx_go (pc' := 17) (L' := [some (.ref 0), some (.int a0), some (.int a1), some (.int (f_X0_veilBehind 1 M a0 (M.1 1 8)))]) (st' := [.ref 0]) 2 rfl ?_
  refine kx_q_getR (k := 0) (j := 1) kxo_0 rfl kfl_X4_10 rfl ?_
  refine kx_go (pc' := 21) (L' := [some (.ref 0), some (.int a0), some (.int a1), some (.int (f_X0_veilBehind 1 M a0 (M.1 1 8)))]) (st' := [.ref 0, .ref 1]) 1 rfl ?_
  refine kx_q_getR (k := 0) (j := 1) kxo_0 rfl kfl_X4_10 rfl ?_
  refine kx_q_callV (as := []) (rest := [.ref 1]) (M1 := M) (rv := some (.int (f_X0_all 1 M))) kxl_1.1 rfl klk_X4_215 kse_X0_all rfl rfl rfl rfl (Nat.le_of_ble_eq_true rfl) (Nat.le_of_ble_eq_true rfl) (c_X0_all (d := d + 4) 1 (kxl_1) M (f_X0_all 1 M) rfl) ?_
  show kx_Rn _ _ _ (27, [some (.ref 0), some (.int a0), some (.int a1), some (.int (f_X0_veilBehind 1 M a0 (M.1 1 8)))], [.int (f_X0_all 1 M), .ref 1], M) _ _
  obtain ⟨v1, hv2, h⟩ := kx_bn_some h
  refine kx_q_callV (as := [.int (f_X0_all 1 M)]) (rest := []) (M1 := M) (rv := some (.int v1)) kxl_1.1 rfl klk_X4_203 kse_X0_knownBy rfl rfl rfl rfl (Nat.le_of_ble_eq_true rfl) (Nat.le_of_ble_eq_true rfl) (c_X0_knownBy (d := d + 3) 1 (kxl_1) (f_X0_all 1 M) M v1 hv2) ?_
  show kx_Rn _ _ _ (30, [some (.ref 0), some (.int a0), some (.int a1), some (.int (f_X0_veilBehind 1 M a0 (M.1 1 8)))], [.int v1], M) _ _
  refine kx_go (pc' := 31) (L' := [some (.ref 0), some (.int a0), some (.int a1), some (.int (f_X0_veilBehind 1 M a0 (M.1 1 8)))]) (st' := [.ref 0, .int v1]) 1 rfl ?_
  refine kx_q_getR (k := 0) (j := 1) kxo_0 rfl kfl_X4_10 rfl ?_
  refine kx_go (pc' := 36) (L' := [some (.ref 0), some (.int a0), some (.int a1), some (.int (f_X0_veilBehind 1 M a0 (M.1 1 8)))]) (st' := [.ref 0, .int a0, .ref 1, .int v1]) 2 rfl ?_
  refine kx_q_getR (k := 0) (j := 1) kxo_0 rfl kfl_X4_10 rfl ?_
  refine kx_q_getI (k := 8) kxl_1.1 rfl kfl_X4_122 rfl ?_
  obtain ⟨v3, hv4, h⟩ := kx_bn_some h
  refine kx_q_callV (as := [.int a0, .int (M.1 1 8)]) (rest := [.int v1]) (M1 := M) (rv := some (.int v3)) kxl_1.1 rfl klk_X4_222 kse_X0_shownToAny rfl rfl rfl rfl (Nat.le_of_ble_eq_true rfl) (Nat.le_of_ble_eq_true rfl) (c_X0_shownToAny (d := d + 0) 1 (kxl_1) a0 (M.1 1 8) M v3 hv4) ?_
  show kx_Rn _ _ _ (45, [some (.ref 0), some (.int a0), some (.int a1), some (.int (f_X0_veilBehind 1 M a0 (M.1 1 8)))], [.int v3, .int v1], M) _ _
  refine kx_go (pc' := 47) (L' := [some (.ref 0), some (.int a0), some (.int a1), some (.int (f_X0_veilBehind 1 M a0 (M.1 1 8)))]) (st' := [.ref 0, .int (v1 ||| v3)]) 2 rfl ?_
  refine kx_q_getR (k := 0) (j := 1) kxo_0 rfl kfl_X4_10 rfl ?_
  refine kx_go (pc' := 52) (L' := [some (.ref 0), some (.int a0), some (.int a1), some (.int (f_X0_veilBehind 1 M a0 (M.1 1 8)))]) (st' := [.int (f_X0_veilBehind 1 M a0 (M.1 1 8)), .int a1, .ref 1, .int (v1 ||| v3)]) 2 rfl ?_
  obtain ⟨v5, hv6, h⟩ := kx_bn_some h
  refine kx_q_callV (as := [.int a1, .int (f_X0_veilBehind 1 M a0 (M.1 1 8))]) (rest := [.int (v1 ||| v3)]) (M1 := M) (rv := some (.int v5)) kxl_1.1 rfl klk_X4_222 kse_X0_shownToAny rfl rfl rfl rfl (Nat.le_of_ble_eq_true rfl) (Nat.le_of_ble_eq_true rfl) (c_X0_shownToAny (d := d + 0) 1 (kxl_1) a1 (f_X0_veilBehind 1 M a0 (M.1 1 8)) M v5 hv6) ?_
  show kx_Rn _ _ _ (55, [some (.ref 0), some (.int a0), some (.int a1), some (.int (f_X0_veilBehind 1 M a0 (M.1 1 8)))], [.int v5, .int (v1 ||| v3)], M) _ _
  refine kx_go (pc' := 56) (L' := [some (.ref 0), some (.int a0), some (.int a1), some (.int (f_X0_veilBehind 1 M a0 (M.1 1 8)))]) (st' := [.int ((v1 ||| v3) ||| v5)]) 1 rfl ?_
  cases h
  exact kx_r_iret rfl rfl
theorem c_X4_knownBehindTwo {d : Nat} (a0 : Int32) (a1 : Int32) (M : kx_M) (r : Int32) (h : f_X4_knownBehindTwo M a0 a1 = some r) : kx_Call EX (d + 5) T_X4_knownBehindTwo [.ref 0, .int a0, .int a1] M (some (.int r)) M := kx_entry kok_X4_knownBehindTwo (Nat.le_of_ble_eq_true rfl) rfl (t_X4_knownBehindTwo (d := d) M a0 a1 h)
set_option maxRecDepth 100000 in
set_option maxHeartbeats 4000000 in
theorem t_X4_split_33 {d : Nat} {r : Int32} {M' : kx_M} : ∀ (n : Nat) (x1 : Int32) (x2 : Int32) (x3 : Int32) (x4 : Int32) (x5 : Int32) (M : kx_M), f_X4_split_33 n x1 x2 x3 x4 x5 M = some (r, M') → kx_Rn EX T_X4_split (d + 6) (33, [some (.ref 0), some (.int x1), some (.int x2), some (.int x3), some (.int x4), some (.int x5), none], [], M) (some (.int r)) M' := by
  intro n
  induction n with
  | zero =>
    intro x1 x2 x3 x4 x5 M h
    cases (show (none : Option (Int32 × kx_M)) = some _ from h)
  | succ n ih =>
    intro x1 x2 x3 x4 x5 M h
    rw [f_X4_split_33.eq_2] at h
    refine kx_go (pc' := 36) (L' := [some (.ref 0), some (.int x1), some (.int x2), some (.int x3), some (.int x4), some (.int x5), none]) (st' := [.int x1, .int x5]) 2 rfl ?_
    refine kx_r_icmp_gt rfl (fun hc1 => ?_) (fun hc1 => ?_)
    · rw [if_pos hc1] at h
      refine kx_go (pc' := 86) (L' := [some (.ref 0), some (.int x1), some (.int x2), some (.int x3), some (.int x4), some (.int x5), none]) (st' := [.int x2]) 1 rfl ?_
      refine kx_r_if_ne rfl (fun hc2 => ?_) (fun hc2 => ?_)
      · rw [if_neg hc2] at h
        refine kx_go (pc' := 95) (L' := [some (.ref 0), some (.int x1), some (.int x2), some (.int x3), some (.int x4), some (.int x5), none]) (st' := [.int x4]) 1 rfl ?_
        cases h
        exact kx_r_iret rfl rfl
      · rw [if_pos hc2] at h
        refine kx_go (pc' := 90) (L' := [some (.ref 0), some (.int x1), some (.int x2), some (.int x3), some (.int x4), some (.int x5), none]) (st' := [.int x3]) 1 rfl ?_
        refine kx_r_goto rfl ?_
        cases h
        exact kx_r_iret rfl rfl
    · rw [if_neg hc1] at h
      refine kx_go (pc' := 45) (L' := [some (.ref 0), some (.int x1), some (.int x2), some (.int x3), some (.int x4), some (.int x5), none]) (st' := [.int (x5 &&& (x1 ^^^ (-1 : Int32)))]) 5 rfl ?_
      refine kx_r_if_ne rfl (fun hc3 => ?_) (fun hc3 => ?_)
      · rw [if_neg hc3] at h
        refine kx_go (pc' := 82) (L' := [some (.ref 0), some (.int x1), some (.int x2), some (.int x3), some (.int x4), some (.int (x5 + (1))), none]) (st' := []) 1 rfl ?_
        refine kx_r_goto rfl ?_
        refine kx_wk [true, true, true, true, true, true, false] ?_
        exact ih x1 x2 x3 x4 (x5 + (1)) M h
      · rw [if_pos hc3] at h
        refine kx_go (pc' := 57) (L' := [some (.ref 0), some (.int x1), some (.int x2), some (.int x3), some (.int x4), some (.int x5), none]) (st' := [.int (x1 &&& (x5 ^^^ (-1 : Int32))), .int x5, .ref 0]) 7 rfl ?_
        obtain ⟨v4, hv5, h⟩ := kx_bn_some h
        refine kx_q_callV (as := [.int x5, .int (x1 &&& (x5 ^^^ (-1 : Int32)))]) (rest := []) (M1 := M) (rv := some (.int v4)) kxo_0 rfl klk_X4_281 kse_X4_knownBehindTwo rfl rfl rfl rfl (Nat.le_of_ble_eq_true rfl) (Nat.le_of_ble_eq_true rfl) (c_X4_knownBehindTwo (d := d + 0) x5 (x1 &&& (x5 ^^^ (-1 : Int32))) M v4 hv5) ?_
        show kx_Rn _ _ _ (60, [some (.ref 0), some (.int x1), some (.int x2), some (.int x3), some (.int x4), some (.int x5), none], [.int v4], M) _ _
        refine kx_r_callS (as := [.int v4]) (rest := []) (M1 := M) (rv := some (.int (f_J6_bitCount_0f7a4 v4))) rfl klk_X4_186 kst_J6_bitCount_0f7a4 rfl rfl (Nat.le_of_ble_eq_true rfl) (Nat.le_of_ble_eq_true rfl) (c_J6_bitCount_0f7a4 (d := d + 5) v4 M (f_J6_bitCount_0f7a4 v4) rfl) ?_
        show kx_Rn _ _ _ (63, [some (.ref 0), some (.int x1), some (.int x2), some (.int x3), some (.int x4), some (.int x5), none], [.int (f_J6_bitCount_0f7a4 v4)], M) _ _
        refine kx_go (pc' := 69) (L' := [some (.ref 0), some (.int x1), some (.int x2), some (.int x3), some (.int x4), some (.int x5), some (.int (f_J6_bitCount_0f7a4 v4))]) (st' := [.int x4, .int (f_J6_bitCount_0f7a4 v4)]) 3 rfl ?_
        refine kx_r_icmp_le rfl (fun hc6 => ?_) (fun hc6 => ?_)
        · rw [if_pos hc6] at h
          refine kx_go (pc' := 82) (L' := [some (.ref 0), some (.int x1), some (.int x2), some (.int x3), some (.int x4), some (.int (x5 + (1))), some (.int (f_J6_bitCount_0f7a4 v4))]) (st' := []) 1 rfl ?_
          refine kx_r_goto rfl ?_
          refine kx_wk [true, true, true, true, true, true, false] ?_
          exact ih x1 x2 x3 x4 (x5 + (1)) M h
        · rw [if_neg hc6] at h
          refine kx_go (pc' := 82) (L' := [some (.ref 0), some (.int x1), some (.int x2), some (.int x5), some (.int (f_J6_bitCount_0f7a4 v4)), some (.int (x5 + (1))), some (.int (f_J6_bitCount_0f7a4 v4))]) (st' := []) 5 rfl ?_
          refine kx_r_goto rfl ?_
          refine kx_wk [true, true, true, true, true, true, false] ?_
          exact ih x1 x2 x5 (f_J6_bitCount_0f7a4 v4) (x5 + (1)) M h
set_option maxRecDepth 100000 in
set_option maxHeartbeats 4000000 in
theorem t_X4_split {d : Nat} {r : Int32} {M' : kx_M} (a0 : Int32) (a1 : Int32) (M : kx_M) (h : f_X4_split a0 a1 M = some (r, M')) : kx_Rn EX T_X4_split (d + 6) (0, [some (.ref 0), some (.int a0), some (.int a1), none, none, none, none], [], M) (some (.int r)) M' := by
  unfold f_X4_split at h
  refine kx_go (pc' := 1) (L' := [some (.ref 0), some (.int a0), some (.int a1), none, none, none, none]) (st' := [.ref 0]) 1 rfl ?_
  refine kx_q_getR (k := 0) (j := 1) kxo_0 rfl kfl_X4_10 rfl ?_
  refine kx_go (pc' := 5) (L' := [some (.ref 0), some (.int a0), some (.int a1), none, none, none, none]) (st' := [.int a0, .ref 1]) 1 rfl ?_
  refine kx_q_callV (as := [.int a0]) (rest := []) (M1 := M) (rv := some (.int (kx_bi (f_X0_hasGroup 1 M a0)))) kxl_1.1 rfl klk_X4_200 kse_X0_hasGroup rfl rfl rfl rfl (Nat.le_of_ble_eq_true rfl) (Nat.le_of_ble_eq_true rfl) (c_X0_hasGroup (d := d + 4) 1 (kxl_1) a0 M (f_X0_hasGroup 1 M a0) rfl) ?_
  show kx_Rn _ _ _ (8, [some (.ref 0), some (.int a0), some (.int a1), none, none, none, none], [.int (kx_bi (f_X0_hasGroup 1 M a0))], M) _ _
  refine kx_q_zeq rfl (fun hc1 => ?_) (fun hc1 => ?_)
  · rw [if_neg hc1] at h
    refine kx_go (pc' := 21) (L' := [some (.ref 0), some (.int a0), some (.int a1), none, none, none, none]) (st' := [.int (-2 : Int32), .ref 0]) 2 rfl ?_
    obtain ⟨v2, M4, hv3, h⟩ := kx_bd_some h
    refine kx_q_callV (as := [.int (-2 : Int32)]) (rest := []) (M1 := M4) (rv := some (.int v2)) kxo_0 rfl klk_X4_59 kse_X4_refuse rfl rfl rfl rfl (Nat.le_of_ble_eq_true rfl) (Nat.le_of_ble_eq_true rfl) (c_X4_refuse (d := d + 4) (-2 : Int32) M v2 M4 hv3) ?_
    show kx_Rn _ _ _ (24, [some (.ref 0), some (.int a0), some (.int a1), none, none, none, none], [.int v2], M4) _ _
    cases h
    exact kx_r_iret rfl rfl
  · rw [if_pos hc1] at h
    refine kx_go (pc' := 12) (L' := [some (.ref 0), some (.int a0), some (.int a1), none, none, none, none]) (st' := [.int a1]) 1 rfl ?_
    refine kx_r_callS (as := [.int a1]) (rest := []) (M1 := M) (rv := some (.int (kx_bi (f_X4_isOneOfTwo a1)))) rfl klk_X4_152 kst_X4_isOneOfTwo rfl rfl (Nat.le_of_ble_eq_true rfl) (Nat.le_of_ble_eq_true rfl) (c_X4_isOneOfTwo (d := d + 5) a1 M (f_X4_isOneOfTwo a1) rfl) ?_
    show kx_Rn _ _ _ (15, [some (.ref 0), some (.int a0), some (.int a1), none, none, none, none], [.int (kx_bi (f_X4_isOneOfTwo a1))], M) _ _
    refine kx_q_zne rfl (fun hc5 => ?_) (fun hc5 => ?_)
    · rw [if_pos hc5] at h
      refine kx_go (pc' := 33) (L' := [some (.ref 0), some (.int a0), some (.int a1), some (.int (-1 : Int32)), some (.int (-1 : Int32)), some (.int (0 : Int32)), none]) (st' := []) 6 rfl ?_
      refine kx_wk [true, true, true, true, true, true, false] ?_
      exact t_X4_split_33 kx_fuel a0 a1 (-1 : Int32) (-1 : Int32) (0 : Int32) M h
    · rw [if_neg hc5] at h
      refine kx_go (pc' := 21) (L' := [some (.ref 0), some (.int a0), some (.int a1), none, none, none, none]) (st' := [.int (-2 : Int32), .ref 0]) 2 rfl ?_
      obtain ⟨v6, M8, hv7, h⟩ := kx_bd_some h
      refine kx_q_callV (as := [.int (-2 : Int32)]) (rest := []) (M1 := M8) (rv := some (.int v6)) kxo_0 rfl klk_X4_59 kse_X4_refuse rfl rfl rfl rfl (Nat.le_of_ble_eq_true rfl) (Nat.le_of_ble_eq_true rfl) (c_X4_refuse (d := d + 4) (-2 : Int32) M v6 M8 hv7) ?_
      show kx_Rn _ _ _ (24, [some (.ref 0), some (.int a0), some (.int a1), none, none, none, none], [.int v6], M8) _ _
      cases h
      exact kx_r_iret rfl rfl
theorem c_X4_split {d : Nat} (a0 : Int32) (a1 : Int32) (M : kx_M) (r : Int32) (M' : kx_M) (h : f_X4_split a0 a1 M = some (r, M')) : kx_Call EX (d + 6) T_X4_split [.ref 0, .int a0, .int a1] M (some (.int r)) M' := kx_entry kok_X4_split (Nat.le_of_ble_eq_true rfl) rfl (t_X4_split (d := d) a0 a1 M h)
set_option maxRecDepth 100000 in
set_option maxHeartbeats 4000000 in
theorem t_X4_couple_22 {d : Nat} {r : Int32} (M : kx_M) (k6 : Int32 → Int32 → Int32 → Option Int32) (hk6 : ∀ (x1 : Int32) (x2 : Int32) (x3 : Int32), k6 x1 x2 x3 = some r → kx_Rn EX T_X4_couple (d + 1) (6, [some (.ref 0), some (.int x1), some (.int x2), some (.int x3), none, none], [], M) (some (.int r)) M) : ∀ (n : Nat) (x1 : Int32) (x2 : Int32) (x3 : Int32) (x4 : Int32), f_X4_couple_22 M k6 n x1 x2 x3 x4 = some r → kx_Rn EX T_X4_couple (d + 1) (22, [some (.ref 0), some (.int x1), some (.int x2), some (.int x3), some (.int x4), none], [], M) (some (.int r)) M := by
  intro n
  induction n with
  | zero =>
    intro x1 x2 x3 x4 h
    cases (show (none : Option Int32) = some _ from h)
  | succ n ih =>
    intro x1 x2 x3 x4 h
    rw [f_X4_couple_22.eq_2] at h
    refine kx_go (pc' := 25) (L' := [some (.ref 0), some (.int x1), some (.int x2), some (.int x3), some (.int x4), none]) (st' := [.ref 0, .int x4]) 2 rfl ?_
    refine kx_q_getR (k := 0) (j := 1) kxo_0 rfl kfl_X4_10 rfl ?_
    refine kx_q_getI (k := 11) kxl_1.1 rfl kfl_X4_146 rfl ?_
    refine kx_r_icmp_ge rfl (fun hc1 => ?_) (fun hc1 => ?_)
    · rw [if_pos hc1] at h
      refine kx_go (pc' := 85) (L' := [some (.ref 0), some (.int x1), some (.int x2), some (.int (x3 + (1))), some (.int x4), none]) (st' := []) 1 rfl ?_
      refine kx_r_goto rfl ?_
      refine kx_wk [true, true, true, true, false, false] ?_
      exact hk6 x1 x2 (x3 + (1)) h
    · rw [if_neg hc1] at h
      refine kx_go (pc' := 35) (L' := [some (.ref 0), some (.int x1), some (.int x2), some (.int x3), some (.int x4), none]) (st' := [.ref 0]) 1 rfl ?_
      refine kx_q_getR (k := 0) (j := 1) kxo_0 rfl kfl_X4_10 rfl ?_
      refine kx_q_getR (k := 6) (j := 8) kxl_1.1 rfl kfl_X4_183 rfl ?_
      refine kx_go (pc' := 42) (L' := [some (.ref 0), some (.int x1), some (.int x2), some (.int x3), some (.int x4), none]) (st' := [.int x3, .ref 8]) 1 rfl ?_
      obtain ⟨hi2, h⟩ := kx_ck_some h
      refine kx_q_iald (kxl_1.2.2.2.2.2.2.2) rfl hi2 ?_
      refine kx_go (pc' := 44) (L' := [some (.ref 0), some (.int x1), some (.int x2), some (.int x3), some (.int x4), none]) (st' := [.ref 0, .int (M.1 8 (x3).toNatClampNeg)]) 1 rfl ?_
      refine kx_q_getR (k := 0) (j := 1) kxo_0 rfl kfl_X4_10 rfl ?_
      refine kx_q_getR (k := 6) (j := 8) kxl_1.1 rfl kfl_X4_183 rfl ?_
      refine kx_go (pc' := 52) (L' := [some (.ref 0), some (.int x1), some (.int x2), some (.int x3), some (.int x4), none]) (st' := [.int x4, .ref 8, .int (M.1 8 (x3).toNatClampNeg)]) 1 rfl ?_
      obtain ⟨hi3, h⟩ := kx_ck_some h
      refine kx_q_iald (kxl_1.2.2.2.2.2.2.2) rfl hi3 ?_
      refine kx_go (pc' := 54) (L' := [some (.ref 0), some (.int x1), some (.int x2), some (.int x3), some (.int x4), none]) (st' := [.int ((M.1 8 (x3).toNatClampNeg) ||| (M.1 8 (x4).toNatClampNeg))]) 1 rfl ?_
      refine kx_r_callS (as := [.int ((M.1 8 (x3).toNatClampNeg) ||| (M.1 8 (x4).toNatClampNeg))]) (rest := []) (M1 := M) (rv := some (.int (f_J6_bitCount_0f7a4 ((M.1 8 (x3).toNatClampNeg) ||| (M.1 8 (x4).toNatClampNeg))))) rfl klk_X4_186 kst_J6_bitCount_0f7a4 rfl rfl (Nat.le_of_ble_eq_true rfl) (Nat.le_of_ble_eq_true rfl) (c_J6_bitCount_0f7a4 (d := d + 0) ((M.1 8 (x3).toNatClampNeg) ||| (M.1 8 (x4).toNatClampNeg)) M (f_J6_bitCount_0f7a4 ((M.1 8 (x3).toNatClampNeg) ||| (M.1 8 (x4).toNatClampNeg))) rfl) ?_
      show kx_Rn _ _ _ (57, [some (.ref 0), some (.int x1), some (.int x2), some (.int x3), some (.int x4), none], [.int (f_J6_bitCount_0f7a4 ((M.1 8 (x3).toNatClampNeg) ||| (M.1 8 (x4).toNatClampNeg)))], M) _ _
      refine kx_go (pc' := 62) (L' := [some (.ref 0), some (.int x1), some (.int x2), some (.int x3), some (.int x4), some (.int (f_J6_bitCount_0f7a4 ((M.1 8 (x3).toNatClampNeg) ||| (M.1 8 (x4).toNatClampNeg))))]) (st' := [.int x2, .int (f_J6_bitCount_0f7a4 ((M.1 8 (x3).toNatClampNeg) ||| (M.1 8 (x4).toNatClampNeg)))]) 3 rfl ?_
      refine kx_r_icmp_le rfl (fun hc4 => ?_) (fun hc4 => ?_)
      · rw [if_pos hc4] at h
        refine kx_go (pc' := 79) (L' := [some (.ref 0), some (.int x1), some (.int x2), some (.int x3), some (.int (x4 + (1))), some (.int (f_J6_bitCount_0f7a4 ((M.1 8 (x3).toNatClampNeg) ||| (M.1 8 (x4).toNatClampNeg))))]) (st' := []) 1 rfl ?_
        refine kx_r_goto rfl ?_
        refine kx_wk [true, true, true, true, true, false] ?_
        exact ih x1 x2 x3 (x4 + (1)) h
      · rw [if_neg hc4] at h
        refine kx_go (pc' := 79) (L' := [some (.ref 0), some (.int (((10 : Int32) * x3) + x4)), some (.int (f_J6_bitCount_0f7a4 ((M.1 8 (x3).toNatClampNeg) ||| (M.1 8 (x4).toNatClampNeg)))), some (.int x3), some (.int (x4 + (1))), some (.int (f_J6_bitCount_0f7a4 ((M.1 8 (x3).toNatClampNeg) ||| (M.1 8 (x4).toNatClampNeg))))]) (st' := []) 9 rfl ?_
        refine kx_r_goto rfl ?_
        refine kx_wk [true, true, true, true, true, false] ?_
        exact ih (((10 : Int32) * x3) + x4) (f_J6_bitCount_0f7a4 ((M.1 8 (x3).toNatClampNeg) ||| (M.1 8 (x4).toNatClampNeg))) x3 (x4 + (1)) h
set_option maxRecDepth 100000 in
set_option maxHeartbeats 4000000 in
theorem t_X4_couple_6 {d : Nat} {r : Int32} (M : kx_M) : ∀ (n : Nat) (x1 : Int32) (x2 : Int32) (x3 : Int32), f_X4_couple_6 M n x1 x2 x3 = some r → kx_Rn EX T_X4_couple (d + 1) (6, [some (.ref 0), some (.int x1), some (.int x2), some (.int x3), none, none], [], M) (some (.int r)) M := by
  intro n
  induction n with
  | zero =>
    intro x1 x2 x3 h
    cases (show (none : Option Int32) = some _ from h)
  | succ n ih =>
    intro x1 x2 x3 h
    rw [f_X4_couple_6.eq_2] at h
    refine kx_go (pc' := 8) (L' := [some (.ref 0), some (.int x1), some (.int x2), some (.int x3), none, none]) (st' := [.ref 0, .int x3]) 2 rfl ?_
    refine kx_q_getR (k := 0) (j := 1) kxo_0 rfl kfl_X4_10 rfl ?_
    refine kx_q_getI (k := 11) kxl_1.1 rfl kfl_X4_146 rfl ?_
    refine kx_r_icmp_ge rfl (fun hc1 => ?_) (fun hc1 => ?_)
    · rw [if_pos hc1] at h
      refine kx_go (pc' := 89) (L' := [some (.ref 0), some (.int x1), some (.int x2), some (.int x3), none, none]) (st' := [.int x1]) 1 rfl ?_
      cases h
      exact kx_r_iret rfl rfl
    · rw [if_neg hc1] at h
      refine kx_go (pc' := 22) (L' := [some (.ref 0), some (.int x1), some (.int x2), some (.int x3), some (.int (x3 + (1 : Int32))), none]) (st' := []) 4 rfl ?_
      refine kx_wk [true, true, true, true, true, false] ?_
      exact t_X4_couple_22 M (f_X4_couple_6 M n) ih kx_fuel x1 x2 x3 (x3 + (1 : Int32)) h
set_option maxRecDepth 100000 in
set_option maxHeartbeats 4000000 in
theorem t_X4_couple {d : Nat} {r : Int32} (M : kx_M) (h : f_X4_couple M = some r) : kx_Rn EX T_X4_couple (d + 1) (0, [some (.ref 0), none, none, none, none, none], [], M) (some (.int r)) M := by
  unfold f_X4_couple at h
  refine kx_go (pc' := 6) (L' := [some (.ref 0), some (.int (-1 : Int32)), some (.int (-1 : Int32)), some (.int (0 : Int32)), none, none]) (st' := []) 6 rfl ?_
  refine kx_wk [true, true, true, true, false, false] ?_
  exact t_X4_couple_6 M kx_fuel (-1 : Int32) (-1 : Int32) (0 : Int32) h
theorem c_X4_couple {d : Nat} (M : kx_M) (r : Int32) (h : f_X4_couple M = some r) : kx_Call EX (d + 1) T_X4_couple [.ref 0] M (some (.int r)) M := kx_entry kok_X4_couple (Nat.le_of_ble_eq_true rfl) rfl (t_X4_couple (d := d) M h)
set_option maxRecDepth 100000 in
set_option maxHeartbeats 4000000 in
theorem t_X4_secret_22 {d : Nat} {r : Int32} {M' : kx_M} : ∀ (n : Nat) (x1 : Int32) (x2 : Int32) (x3 : Int32) (M : kx_M), f_X4_secret_22 n x1 x2 x3 M = some (r, M') → kx_Rn EX T_X4_secret (d + 2) (22, [some (.ref 0), some (.int x1), some (.int x2), some (.int x3)], [], M) (some (.int r)) M' := by
  intro n
  induction n with
  | zero =>
    intro x1 x2 x3 M h
    cases (show (none : Option (Int32 × kx_M)) = some _ from h)
  | succ n ih =>
    intro x1 x2 x3 M h
    rw [f_X4_secret_22.eq_2] at h
    refine kx_go (pc' := 24) (L' := [some (.ref 0), some (.int x1), some (.int x2), some (.int x3)]) (st' := [.ref 0, .int x3]) 2 rfl ?_
    refine kx_q_getR (k := 0) (j := 1) kxo_0 rfl kfl_X4_10 rfl ?_
    refine kx_q_getI (k := 11) kxl_1.1 rfl kfl_X4_146 rfl ?_
    refine kx_r_icmp_ge rfl (fun hc1 => ?_) (fun hc1 => ?_)
    · rw [if_pos hc1] at h
      refine kx_go (pc' := 56) (L' := [some (.ref 0), some (.int x1), some (.int x2), some (.int x3)]) (st' := [.int x2]) 1 rfl ?_
      cases h
      exact kx_r_iret rfl rfl
    · rw [if_neg hc1] at h
      refine kx_go (pc' := 34) (L' := [some (.ref 0), some (.int x1), some (.int x2), some (.int x3)]) (st' := [.ref 0]) 1 rfl ?_
      refine kx_q_getR (k := 0) (j := 1) kxo_0 rfl kfl_X4_10 rfl ?_
      refine kx_go (pc' := 38) (L' := [some (.ref 0), some (.int x1), some (.int x2), some (.int x3)]) (st' := [.int x1, .ref 1]) 1 rfl ?_
      obtain ⟨v2, hv3, h⟩ := kx_bn_some h
      refine kx_q_callV (as := [.int x1]) (rest := []) (M1 := M) (rv := some (.int v2)) kxl_1.1 rfl klk_X4_191 kse_X0_seenBy rfl rfl rfl rfl (Nat.le_of_ble_eq_true rfl) (Nat.le_of_ble_eq_true rfl) (c_X0_seenBy (d := d + 0) 1 (kxl_1) x1 M v2 hv3) ?_
      show kx_Rn _ _ _ (41, [some (.ref 0), some (.int x1), some (.int x2), some (.int x3)], [.int v2], M) _ _
      refine kx_go (pc' := 44) (L' := [some (.ref 0), some (.int x1), some (.int x2), some (.int x3)]) (st' := [.int ((1 : Int32) <<< (x3 &&& 31)), .int v2]) 3 rfl ?_
      refine kx_r_icmp_ne rfl (fun hc4 => ?_) (fun hc4 => ?_)
      · rw [if_neg hc4] at h
        refine kx_go (pc' := 52) (L' := [some (.ref 0), some (.int x1), some (.int x2), some (.int (x3 + (1)))]) (st' := []) 1 rfl ?_
        refine kx_r_goto rfl ?_
        refine kx_wk [true, true, true, true] ?_
        exact ih x1 x2 (x3 + (1)) M h
      · rw [if_pos hc4] at h
        refine kx_go (pc' := 52) (L' := [some (.ref 0), some (.int x1), some (.int x3), some (.int (x3 + (1)))]) (st' := []) 3 rfl ?_
        refine kx_r_goto rfl ?_
        refine kx_wk [true, true, true, true] ?_
        exact ih x1 x3 (x3 + (1)) M h
set_option maxRecDepth 100000 in
set_option maxHeartbeats 4000000 in
theorem t_X4_secret {d : Nat} {r : Int32} {M' : kx_M} (a0 : Int32) (M : kx_M) (h : f_X4_secret a0 M = some (r, M')) : kx_Rn EX T_X4_secret (d + 2) (0, [some (.ref 0), some (.int a0), none, none], [], M) (some (.int r)) M' := by
  unfold f_X4_secret at h
  refine kx_go (pc' := 1) (L' := [some (.ref 0), some (.int a0), none, none]) (st' := [.ref 0]) 1 rfl ?_
  refine kx_q_getR (k := 0) (j := 1) kxo_0 rfl kfl_X4_10 rfl ?_
  refine kx_go (pc' := 5) (L' := [some (.ref 0), some (.int a0), none, none]) (st' := [.int a0, .ref 1]) 1 rfl ?_
  refine kx_q_callV (as := [.int a0]) (rest := []) (M1 := M) (rv := some (.int (kx_bi (f_X0_hasCell 1 M a0)))) kxl_1.1 rfl klk_X4_149 kse_X0_hasCell rfl rfl rfl rfl (Nat.le_of_ble_eq_true rfl) (Nat.le_of_ble_eq_true rfl) (c_X0_hasCell (d := d + 0) 1 (kxl_1) a0 M (f_X0_hasCell 1 M a0) rfl) ?_
  show kx_Rn _ _ _ (8, [some (.ref 0), some (.int a0), none, none], [.int (kx_bi (f_X0_hasCell 1 M a0))], M) _ _
  refine kx_q_zne rfl (fun hc1 => ?_) (fun hc1 => ?_)
  · rw [if_pos hc1] at h
    refine kx_go (pc' := 22) (L' := [some (.ref 0), some (.int a0), some (.int (-1 : Int32)), some (.int (0 : Int32))]) (st' := []) 4 rfl ?_
    refine kx_wk [true, true, true, true] ?_
    exact t_X4_secret_22 kx_fuel a0 (-1 : Int32) (0 : Int32) M h
  · rw [if_neg hc1] at h
    refine kx_go (pc' := 14) (L' := [some (.ref 0), some (.int a0), none, none]) (st' := [.int (-2 : Int32), .ref 0]) 2 rfl ?_
    obtain ⟨v2, M4, hv3, h⟩ := kx_bd_some h
    refine kx_q_callV (as := [.int (-2 : Int32)]) (rest := []) (M1 := M4) (rv := some (.int v2)) kxo_0 rfl klk_X4_59 kse_X4_refuse rfl rfl rfl rfl (Nat.le_of_ble_eq_true rfl) (Nat.le_of_ble_eq_true rfl) (c_X4_refuse (d := d + 0) (-2 : Int32) M v2 M4 hv3) ?_
    show kx_Rn _ _ _ (17, [some (.ref 0), some (.int a0), none, none], [.int v2], M4) _ _
    cases h
    exact kx_r_iret rfl rfl
theorem c_X4_secret {d : Nat} (a0 : Int32) (M : kx_M) (r : Int32) (M' : kx_M) (h : f_X4_secret a0 M = some (r, M')) : kx_Call EX (d + 2) T_X4_secret [.ref 0, .int a0] M (some (.int r)) M' := kx_entry kok_X4_secret (Nat.le_of_ble_eq_true rfl) rfl (t_X4_secret (d := d) a0 M h)
set_option maxRecDepth 100000 in
set_option maxHeartbeats 4000000 in
theorem t_X4_placeOf_18 {d : Nat} {r : Int32} (M : kx_M) : ∀ (n : Nat) (x1 : Int32) (x2 : Int32) (x3 : Int32) (x4 : Int32), f_X4_placeOf_18 M n x1 x2 x3 x4 = some r → kx_Rn EX T_X4_placeOf (d + 1) (18, [some (.ref 0), some (.int x1), some (.int x2), some (.int x3), some (.int x4), none], [], M) (some (.int r)) M := by
  intro n
  induction n with
  | zero =>
    intro x1 x2 x3 x4 h
    cases (show (none : Option Int32) = some _ from h)
  | succ n ih =>
    intro x1 x2 x3 x4 h
    rw [f_X4_placeOf_18.eq_2] at h
    refine kx_go (pc' := 21) (L' := [some (.ref 0), some (.int x1), some (.int x2), some (.int x3), some (.int x4), none]) (st' := [.ref 0, .int x4]) 2 rfl ?_
    refine kx_q_getR (k := 0) (j := 1) kxo_0 rfl kfl_X4_10 rfl ?_
    refine kx_q_getI (k := 11) kxl_1.1 rfl kfl_X4_146 rfl ?_
    refine kx_r_icmp_ge rfl (fun hc1 => ?_) (fun hc1 => ?_)
    · rw [if_pos hc1] at h
      refine kx_go (pc' := 73) (L' := [some (.ref 0), some (.int x1), some (.int x2), some (.int x3), some (.int x4), none]) (st' := [.int x3]) 1 rfl ?_
      cases h
      exact kx_r_iret rfl rfl
    · rw [if_neg hc1] at h
      refine kx_go (pc' := 31) (L' := [some (.ref 0), some (.int x1), some (.int x2), some (.int x3), some (.int x4), none]) (st' := [.ref 0]) 1 rfl ?_
      refine kx_q_getR (k := 0) (j := 1) kxo_0 rfl kfl_X4_10 rfl ?_
      refine kx_q_getR (k := 6) (j := 8) kxl_1.1 rfl kfl_X4_183 rfl ?_
      refine kx_go (pc' := 39) (L' := [some (.ref 0), some (.int x1), some (.int x2), some (.int x3), some (.int x4), none]) (st' := [.int x4, .ref 8]) 1 rfl ?_
      obtain ⟨hi2, h⟩ := kx_ck_some h
      refine kx_q_iald (kxl_1.2.2.2.2.2.2.2) rfl hi2 ?_
      refine kx_r_callS (as := [.int (M.1 8 (x4).toNatClampNeg)]) (rest := []) (M1 := M) (rv := some (.int (f_J6_bitCount_0f7a4 (M.1 8 (x4).toNatClampNeg)))) rfl klk_X4_186 kst_J6_bitCount_0f7a4 rfl rfl (Nat.le_of_ble_eq_true rfl) (Nat.le_of_ble_eq_true rfl) (c_J6_bitCount_0f7a4 (d := d + 0) (M.1 8 (x4).toNatClampNeg) M (f_J6_bitCount_0f7a4 (M.1 8 (x4).toNatClampNeg)) rfl) ?_
      show kx_Rn _ _ _ (43, [some (.ref 0), some (.int x1), some (.int x2), some (.int x3), some (.int x4), none], [.int (f_J6_bitCount_0f7a4 (M.1 8 (x4).toNatClampNeg))], M) _ _
      refine kx_go (pc' := 48) (L' := [some (.ref 0), some (.int x1), some (.int x2), some (.int x3), some (.int x4), some (.int (f_J6_bitCount_0f7a4 (M.1 8 (x4).toNatClampNeg)))]) (st' := [.int x2, .int (f_J6_bitCount_0f7a4 (M.1 8 (x4).toNatClampNeg))]) 3 rfl ?_
      refine kx_r_icmp_gt rfl (fun hc3 => ?_) (fun hc3 => ?_)
      · rw [if_pos hc3] at h
        refine kx_go (pc' := 69) (L' := [some (.ref 0), some (.int x1), some (.int x2), some (.int (x3 + (1))), some (.int (x4 + (1))), some (.int (f_J6_bitCount_0f7a4 (M.1 8 (x4).toNatClampNeg)))]) (st' := []) 2 rfl ?_
        refine kx_r_goto rfl ?_
        refine kx_wk [true, true, true, true, true, false] ?_
        exact ih x1 x2 (x3 + (1)) (x4 + (1)) h
      · rw [if_neg hc3] at h
        refine kx_go (pc' := 54) (L' := [some (.ref 0), some (.int x1), some (.int x2), some (.int x3), some (.int x4), some (.int (f_J6_bitCount_0f7a4 (M.1 8 (x4).toNatClampNeg)))]) (st' := [.int x2, .int (f_J6_bitCount_0f7a4 (M.1 8 (x4).toNatClampNeg))]) 2 rfl ?_
        refine kx_r_icmp_ne rfl (fun hc4 => ?_) (fun hc4 => ?_)
        · rw [if_neg hc4] at h
          refine kx_go (pc' := 69) (L' := [some (.ref 0), some (.int x1), some (.int x2), some (.int x3), some (.int (x4 + (1))), some (.int (f_J6_bitCount_0f7a4 (M.1 8 (x4).toNatClampNeg)))]) (st' := []) 1 rfl ?_
          refine kx_r_goto rfl ?_
          refine kx_wk [true, true, true, true, true, false] ?_
          exact ih x1 x2 x3 (x4 + (1)) h
        · rw [if_pos hc4] at h
          refine kx_go (pc' := 60) (L' := [some (.ref 0), some (.int x1), some (.int x2), some (.int x3), some (.int x4), some (.int (f_J6_bitCount_0f7a4 (M.1 8 (x4).toNatClampNeg)))]) (st' := [.int x1, .int x4]) 2 rfl ?_
          refine kx_r_icmp_ge rfl (fun hc5 => ?_) (fun hc5 => ?_)
          · rw [if_pos hc5] at h
            refine kx_go (pc' := 69) (L' := [some (.ref 0), some (.int x1), some (.int x2), some (.int x3), some (.int (x4 + (1))), some (.int (f_J6_bitCount_0f7a4 (M.1 8 (x4).toNatClampNeg)))]) (st' := []) 1 rfl ?_
            refine kx_r_goto rfl ?_
            refine kx_wk [true, true, true, true, true, false] ?_
            exact ih x1 x2 x3 (x4 + (1)) h
          · rw [if_neg hc5] at h
            refine kx_go (pc' := 69) (L' := [some (.ref 0), some (.int x1), some (.int x2), some (.int (x3 + (1))), some (.int (x4 + (1))), some (.int (f_J6_bitCount_0f7a4 (M.1 8 (x4).toNatClampNeg)))]) (st' := []) 2 rfl ?_
            refine kx_r_goto rfl ?_
            refine kx_wk [true, true, true, true, true, false] ?_
            exact ih x1 x2 (x3 + (1)) (x4 + (1)) h
set_option maxRecDepth 100000 in
set_option maxHeartbeats 4000000 in
theorem t_X4_placeOf {d : Nat} {r : Int32} (M : kx_M) (a0 : Int32) (h : f_X4_placeOf M a0 = some r) : kx_Rn EX T_X4_placeOf (d + 1) (0, [some (.ref 0), some (.int a0), none, none, none, none], [], M) (some (.int r)) M := by
  unfold f_X4_placeOf at h
  refine kx_go (pc' := 1) (L' := [some (.ref 0), some (.int a0), none, none, none, none]) (st' := [.ref 0]) 1 rfl ?_
  refine kx_q_getR (k := 0) (j := 1) kxo_0 rfl kfl_X4_10 rfl ?_
  refine kx_q_getR (k := 6) (j := 8) kxl_1.1 rfl kfl_X4_183 rfl ?_
  refine kx_go (pc' := 8) (L' := [some (.ref 0), some (.int a0), none, none, none, none]) (st' := [.int a0, .ref 8]) 1 rfl ?_
  obtain ⟨hi1, h⟩ := kx_ck_some h
  refine kx_q_iald (kxl_1.2.2.2.2.2.2.2) rfl hi1 ?_
  refine kx_r_callS (as := [.int (M.1 8 (a0).toNatClampNeg)]) (rest := []) (M1 := M) (rv := some (.int (f_J6_bitCount_0f7a4 (M.1 8 (a0).toNatClampNeg)))) rfl klk_X4_186 kst_J6_bitCount_0f7a4 rfl rfl (Nat.le_of_ble_eq_true rfl) (Nat.le_of_ble_eq_true rfl) (c_J6_bitCount_0f7a4 (d := d + 0) (M.1 8 (a0).toNatClampNeg) M (f_J6_bitCount_0f7a4 (M.1 8 (a0).toNatClampNeg)) rfl) ?_
  show kx_Rn _ _ _ (12, [some (.ref 0), some (.int a0), none, none, none, none], [.int (f_J6_bitCount_0f7a4 (M.1 8 (a0).toNatClampNeg))], M) _ _
  refine kx_go (pc' := 18) (L' := [some (.ref 0), some (.int a0), some (.int (f_J6_bitCount_0f7a4 (M.1 8 (a0).toNatClampNeg))), some (.int (0 : Int32)), some (.int (0 : Int32)), none]) (st' := []) 5 rfl ?_
  refine kx_wk [true, true, true, true, true, false] ?_
  exact t_X4_placeOf_18 M kx_fuel a0 (f_J6_bitCount_0f7a4 (M.1 8 (a0).toNatClampNeg)) (0 : Int32) (0 : Int32) h
theorem c_X4_placeOf {d : Nat} (a0 : Int32) (M : kx_M) (r : Int32) (h : f_X4_placeOf M a0 = some r) : kx_Call EX (d + 1) T_X4_placeOf [.ref 0, .int a0] M (some (.int r)) M := kx_entry kok_X4_placeOf (Nat.le_of_ble_eq_true rfl) rfl (t_X4_placeOf (d := d) M a0 h)
set_option maxRecDepth 100000 in
set_option maxHeartbeats 4000000 in
theorem t_X4_rank_22 {d : Nat} {r : Int32} {M' : kx_M} : ∀ (n : Nat) (x1 : Int32) (x2 : Int32) (x3 : Int32) (M : kx_M), f_X4_rank_22 n x1 x2 x3 M = some (r, M') → kx_Rn EX T_X4_rank (d + 2) (22, [some (.ref 0), some (.int x1), some (.int x2), some (.int x3)], [], M) (some (.int r)) M' := by
  intro n
  induction n with
  | zero =>
    intro x1 x2 x3 M h
    cases (show (none : Option (Int32 × kx_M)) = some _ from h)
  | succ n ih =>
    intro x1 x2 x3 M h
    rw [f_X4_rank_22.eq_2] at h
    refine kx_go (pc' := 24) (L' := [some (.ref 0), some (.int x1), some (.int x2), some (.int x3)]) (st' := [.ref 0, .int x3]) 2 rfl ?_
    refine kx_q_getR (k := 0) (j := 1) kxo_0 rfl kfl_X4_10 rfl ?_
    refine kx_q_getI (k := 11) kxl_1.1 rfl kfl_X4_146 rfl ?_
    refine kx_r_icmp_ge rfl (fun hc1 => ?_) (fun hc1 => ?_)
    · rw [if_pos hc1] at h
      refine kx_go (pc' := 51) (L' := [some (.ref 0), some (.int x1), some (.int x2), some (.int x3)]) (st' := [.int x2]) 1 rfl ?_
      cases h
      exact kx_r_iret rfl rfl
    · rw [if_neg hc1] at h
      refine kx_go (pc' := 35) (L' := [some (.ref 0), some (.int x1), some (.int x2), some (.int x3)]) (st' := [.int x3, .ref 0]) 2 rfl ?_
      obtain ⟨v2, hv3, h⟩ := kx_bn_some h
      refine kx_q_callV (as := [.int x3]) (rest := []) (M1 := M) (rv := some (.int v2)) kxo_0 rfl klk_X4_284 kse_X4_placeOf rfl rfl rfl rfl (Nat.le_of_ble_eq_true rfl) (Nat.le_of_ble_eq_true rfl) (c_X4_placeOf (d := d + 0) x3 M v2 hv3) ?_
      show kx_Rn _ _ _ (38, [some (.ref 0), some (.int x1), some (.int x2), some (.int x3)], [.int v2], M) _ _
      refine kx_go (pc' := 39) (L' := [some (.ref 0), some (.int x1), some (.int x2), some (.int x3)]) (st' := [.int x1, .int v2]) 1 rfl ?_
      refine kx_r_icmp_ne rfl (fun hc4 => ?_) (fun hc4 => ?_)
      · rw [if_neg hc4] at h
        refine kx_go (pc' := 47) (L' := [some (.ref 0), some (.int x1), some (.int x2), some (.int (x3 + (1)))]) (st' := []) 1 rfl ?_
        refine kx_r_goto rfl ?_
        refine kx_wk [true, true, true, true] ?_
        exact ih x1 x2 (x3 + (1)) M h
      · rw [if_pos hc4] at h
        refine kx_go (pc' := 47) (L' := [some (.ref 0), some (.int x1), some (.int x3), some (.int (x3 + (1)))]) (st' := []) 3 rfl ?_
        refine kx_r_goto rfl ?_
        refine kx_wk [true, true, true, true] ?_
        exact ih x1 x3 (x3 + (1)) M h
set_option maxRecDepth 100000 in
set_option maxHeartbeats 4000000 in
theorem t_X4_rank {d : Nat} {r : Int32} {M' : kx_M} (a0 : Int32) (M : kx_M) (h : f_X4_rank a0 M = some (r, M')) : kx_Rn EX T_X4_rank (d + 2) (0, [some (.ref 0), some (.int a0), none, none], [], M) (some (.int r)) M' := by
  unfold f_X4_rank at h
  refine kx_go (pc' := 1) (L' := [some (.ref 0), some (.int a0), none, none]) (st' := [.ref 0]) 1 rfl ?_
  refine kx_q_getR (k := 0) (j := 1) kxo_0 rfl kfl_X4_10 rfl ?_
  refine kx_go (pc' := 5) (L' := [some (.ref 0), some (.int a0), none, none]) (st' := [.int a0, .ref 1]) 1 rfl ?_
  refine kx_q_callV (as := [.int a0]) (rest := []) (M1 := M) (rv := some (.int (kx_bi (f_X0_hasVisitor 1 M a0)))) kxl_1.1 rfl klk_X4_104 kse_X0_hasVisitor rfl rfl rfl rfl (Nat.le_of_ble_eq_true rfl) (Nat.le_of_ble_eq_true rfl) (c_X0_hasVisitor (d := d + 0) 1 (kxl_1) a0 M (f_X0_hasVisitor 1 M a0) rfl) ?_
  show kx_Rn _ _ _ (8, [some (.ref 0), some (.int a0), none, none], [.int (kx_bi (f_X0_hasVisitor 1 M a0))], M) _ _
  refine kx_q_zne rfl (fun hc1 => ?_) (fun hc1 => ?_)
  · rw [if_pos hc1] at h
    refine kx_go (pc' := 22) (L' := [some (.ref 0), some (.int a0), some (.int (-1 : Int32)), some (.int (0 : Int32))]) (st' := []) 4 rfl ?_
    refine kx_wk [true, true, true, true] ?_
    exact t_X4_rank_22 kx_fuel a0 (-1 : Int32) (0 : Int32) M h
  · rw [if_neg hc1] at h
    refine kx_go (pc' := 14) (L' := [some (.ref 0), some (.int a0), none, none]) (st' := [.int (-2 : Int32), .ref 0]) 2 rfl ?_
    obtain ⟨v2, M4, hv3, h⟩ := kx_bd_some h
    refine kx_q_callV (as := [.int (-2 : Int32)]) (rest := []) (M1 := M4) (rv := some (.int v2)) kxo_0 rfl klk_X4_59 kse_X4_refuse rfl rfl rfl rfl (Nat.le_of_ble_eq_true rfl) (Nat.le_of_ble_eq_true rfl) (c_X4_refuse (d := d + 0) (-2 : Int32) M v2 M4 hv3) ?_
    show kx_Rn _ _ _ (17, [some (.ref 0), some (.int a0), none, none], [.int v2], M4) _ _
    cases h
    exact kx_r_iret rfl rfl
theorem c_X4_rank {d : Nat} (a0 : Int32) (M : kx_M) (r : Int32) (M' : kx_M) (h : f_X4_rank a0 M = some (r, M')) : kx_Call EX (d + 2) T_X4_rank [.ref 0, .int a0] M (some (.int r)) M' := kx_entry kok_X4_rank (Nat.le_of_ble_eq_true rfl) rfl (t_X4_rank (d := d) a0 M h)
set_option maxRecDepth 100000 in
set_option maxHeartbeats 4000000 in
theorem t_X4_blind_18 {d : Nat} {r : Int32} {M' : kx_M} : ∀ (n : Nat) (x1 : Int32) (x2 : Int32) (x3 : Int32) (M : kx_M), f_X4_blind_18 n x1 x2 x3 M = some (r, M') → kx_Rn EX T_X4_blind (d + 5) (18, [some (.ref 0), some (.int x1), some (.int x2), some (.int x3)], [], M) (some (.int r)) M' := by
  intro n
  induction n with
  | zero =>
    intro x1 x2 x3 M h
    cases (show (none : Option (Int32 × kx_M)) = some _ from h)
  | succ n ih =>
    intro x1 x2 x3 M h
    rw [f_X4_blind_18.eq_2] at h
    refine kx_go (pc' := 20) (L' := [some (.ref 0), some (.int x1), some (.int x2), some (.int x3)]) (st' := [.ref 0, .int x3]) 2 rfl ?_
    refine kx_q_getR (k := 0) (j := 1) kxo_0 rfl kfl_X4_10 rfl ?_
    refine kx_q_getI (k := 11) kxl_1.1 rfl kfl_X4_146 rfl ?_
    refine kx_r_icmp_ge rfl (fun hc1 => ?_) (fun hc1 => ?_)
    · rw [if_pos hc1] at h
      refine kx_go (pc' := 51) (L' := [some (.ref 0), some (.int x1), some (.int x2), some (.int x3)]) (st' := [.int x2]) 1 rfl ?_
      cases h
      exact kx_r_iret rfl rfl
    · rw [if_neg hc1] at h
      refine kx_go (pc' := 30) (L' := [some (.ref 0), some (.int x1), some (.int x2), some (.int x3)]) (st' := [.ref 0]) 1 rfl ?_
      refine kx_q_getR (k := 0) (j := 1) kxo_0 rfl kfl_X4_10 rfl ?_
      refine kx_go (pc' := 35) (L' := [some (.ref 0), some (.int x1), some (.int x2), some (.int x3)]) (st' := [.int x1, .int x3, .ref 1]) 2 rfl ?_
      obtain ⟨v2, hv3, h⟩ := kx_bn_some h
      refine kx_q_callV (as := [.int x3, .int x1]) (rest := []) (M1 := M) (rv := some (.int v2)) kxl_1.1 rfl klk_X4_242 kse_X0_shownAlone rfl rfl rfl rfl (Nat.le_of_ble_eq_true rfl) (Nat.le_of_ble_eq_true rfl) (c_X0_shownAlone (d := d + 0) 1 (kxl_1) x3 x1 M v2 hv3) ?_
      show kx_Rn _ _ _ (38, [some (.ref 0), some (.int x1), some (.int x2), some (.int x3)], [.int v2], M) _ _
      refine kx_r_if_ne rfl (fun hc4 => ?_) (fun hc4 => ?_)
      · rw [if_neg hc4] at h
        refine kx_go (pc' := 47) (L' := [some (.ref 0), some (.int x1), some (.int x2), some (.int (x3 + (1)))]) (st' := []) 1 rfl ?_
        refine kx_r_goto rfl ?_
        refine kx_wk [true, true, true, true] ?_
        exact ih x1 x2 (x3 + (1)) M h
      · rw [if_pos hc4] at h
        refine kx_go (pc' := 47) (L' := [some (.ref 0), some (.int x1), some (.int (x2 + (1))), some (.int (x3 + (1)))]) (st' := []) 2 rfl ?_
        refine kx_r_goto rfl ?_
        refine kx_wk [true, true, true, true] ?_
        exact ih x1 (x2 + (1)) (x3 + (1)) M h
set_option maxRecDepth 100000 in
set_option maxHeartbeats 4000000 in
theorem t_X4_blind {d : Nat} {r : Int32} {M' : kx_M} (a0 : Int32) (M : kx_M) (h : f_X4_blind a0 M = some (r, M')) : kx_Rn EX T_X4_blind (d + 5) (0, [some (.ref 0), some (.int a0), none, none], [], M) (some (.int r)) M' := by
  unfold f_X4_blind at h
  refine kx_go (pc' := 1) (L' := [some (.ref 0), some (.int a0), none, none]) (st' := [.int a0]) 1 rfl ?_
  refine kx_r_callS (as := [.int a0]) (rest := []) (M1 := M) (rv := some (.int (kx_bi (f_X4_isLevel a0)))) rfl klk_X4_136 kst_X4_isLevel rfl rfl (Nat.le_of_ble_eq_true rfl) (Nat.le_of_ble_eq_true rfl) (c_X4_isLevel (d := d + 3) a0 M (f_X4_isLevel a0) rfl) ?_
  show kx_Rn _ _ _ (4, [some (.ref 0), some (.int a0), none, none], [.int (kx_bi (f_X4_isLevel a0))], M) _ _
  refine kx_q_zne rfl (fun hc1 => ?_) (fun hc1 => ?_)
  · rw [if_pos hc1] at h
    refine kx_go (pc' := 18) (L' := [some (.ref 0), some (.int a0), some (.int (0 : Int32)), some (.int (0 : Int32))]) (st' := []) 4 rfl ?_
    refine kx_wk [true, true, true, true] ?_
    exact t_X4_blind_18 kx_fuel a0 (0 : Int32) (0 : Int32) M h
  · rw [if_neg hc1] at h
    refine kx_go (pc' := 10) (L' := [some (.ref 0), some (.int a0), none, none]) (st' := [.int (-2 : Int32), .ref 0]) 2 rfl ?_
    obtain ⟨v2, M4, hv3, h⟩ := kx_bd_some h
    refine kx_q_callV (as := [.int (-2 : Int32)]) (rest := []) (M1 := M4) (rv := some (.int v2)) kxo_0 rfl klk_X4_59 kse_X4_refuse rfl rfl rfl rfl (Nat.le_of_ble_eq_true rfl) (Nat.le_of_ble_eq_true rfl) (c_X4_refuse (d := d + 3) (-2 : Int32) M v2 M4 hv3) ?_
    show kx_Rn _ _ _ (13, [some (.ref 0), some (.int a0), none, none], [.int v2], M4) _ _
    cases h
    exact kx_r_iret rfl rfl
theorem c_X4_blind {d : Nat} (a0 : Int32) (M : kx_M) (r : Int32) (M' : kx_M) (h : f_X4_blind a0 M = some (r, M')) : kx_Call EX (d + 5) T_X4_blind [.ref 0, .int a0] M (some (.int r)) M' := kx_entry kok_X4_blind (Nat.le_of_ble_eq_true rfl) rfl (t_X4_blind (d := d) a0 M h)
set_option maxRecDepth 100000 in
set_option maxHeartbeats 4000000 in
theorem t_X4_shyest_25 {d : Nat} {r : Int32} {M' : kx_M} : ∀ (n : Nat) (x1 : Int32) (x2 : Int32) (x3 : Int32) (x4 : Int32) (M : kx_M), f_X4_shyest_25 n x1 x2 x3 x4 M = some (r, M') → kx_Rn EX T_X4_shyest (d + 2) (25, [some (.ref 0), some (.int x1), some (.int x2), some (.int x3), some (.int x4)], [], M) (some (.int r)) M' := by
  intro n
  induction n with
  | zero =>
    intro x1 x2 x3 x4 M h
    cases (show (none : Option (Int32 × kx_M)) = some _ from h)
  | succ n ih =>
    intro x1 x2 x3 x4 M h
    rw [f_X4_shyest_25.eq_2] at h
    refine kx_go (pc' := 28) (L' := [some (.ref 0), some (.int x1), some (.int x2), some (.int x3), some (.int x4)]) (st' := [.ref 0, .int x4]) 2 rfl ?_
    refine kx_q_getR (k := 0) (j := 1) kxo_0 rfl kfl_X4_10 rfl ?_
    refine kx_q_getI (k := 7) kxl_1.1 rfl kfl_X4_129 rfl ?_
    refine kx_r_icmp_ge rfl (fun hc1 => ?_) (fun hc1 => ?_)
    · rw [if_pos hc1] at h
      refine kx_go (pc' := 82) (L' := [some (.ref 0), some (.int x1), some (.int x2), some (.int x3), some (.int x4)]) (st' := [.int x2]) 1 rfl ?_
      cases h
      exact kx_r_iret rfl rfl
    · rw [if_neg hc1] at h
      refine kx_go (pc' := 41) (L' := [some (.ref 0), some (.int x1), some (.int x2), some (.int x3), some (.int x4)]) (st' := [.long (x1).toInt64, .int x4]) 3 rfl ?_
      refine kx_r_callS (as := [.int x4, .long (x1).toInt64]) (rest := []) (M1 := M) (rv := some (.int (kx_bi (f_X4_isIn x4 (x1).toInt64)))) rfl klk_X4_238 kst_X4_isIn rfl rfl (Nat.le_of_ble_eq_true rfl) (Nat.le_of_ble_eq_true rfl) (c_X4_isIn (d := d + 1) x4 (x1).toInt64 M (f_X4_isIn x4 (x1).toInt64) rfl) ?_
      show kx_Rn _ _ _ (44, [some (.ref 0), some (.int x1), some (.int x2), some (.int x3), some (.int x4)], [.int (kx_bi (f_X4_isIn x4 (x1).toInt64))], M) _ _
      refine kx_q_zeq rfl (fun hc2 => ?_) (fun hc2 => ?_)
      · rw [if_neg hc2] at h
        refine kx_go (pc' := 78) (L' := [some (.ref 0), some (.int x1), some (.int x2), some (.int x3), some (.int (x4 + (1)))]) (st' := []) 1 rfl ?_
        refine kx_r_goto rfl ?_
        refine kx_wk [true, true, true, true, true] ?_
        exact ih x1 x2 x3 (x4 + (1)) M h
      · rw [if_pos hc2] at h
        refine kx_go (pc' := 48) (L' := [some (.ref 0), some (.int x1), some (.int x2), some (.int x3), some (.int x4)]) (st' := [.ref 0]) 1 rfl ?_
        refine kx_q_getR (k := 0) (j := 1) kxo_0 rfl kfl_X4_10 rfl ?_
        refine kx_q_getR (k := 0) (j := 2) kxl_1.1 rfl kfl_X4_155 rfl ?_
        refine kx_go (pc' := 56) (L' := [some (.ref 0), some (.int x1), some (.int x2), some (.int x3), some (.int x4)]) (st' := [.int x4, .ref 2]) 1 rfl ?_
        obtain ⟨hi3, h⟩ := kx_ck_some h
        refine kx_q_iald (kxl_1.2.1) rfl hi3 ?_
        refine kx_go (pc' := 58) (L' := [some (.ref 0), some (.int x1), some (.int x2), some (.int x3), some (.int x4)]) (st' := [.int x3, .int (M.1 2 (x4).toNatClampNeg)]) 1 rfl ?_
        refine kx_r_icmp_le rfl (fun hc4 => ?_) (fun hc4 => ?_)
        · rw [if_pos hc4] at h
          refine kx_go (pc' := 78) (L' := [some (.ref 0), some (.int x1), some (.int x2), some (.int x3), some (.int (x4 + (1)))]) (st' := []) 1 rfl ?_
          refine kx_r_goto rfl ?_
          refine kx_wk [true, true, true, true, true] ?_
          exact ih x1 x2 x3 (x4 + (1)) M h
        · rw [if_neg hc4] at h
          refine kx_go (pc' := 62) (L' := [some (.ref 0), some (.int x1), some (.int x2), some (.int x3), some (.int x4)]) (st' := [.ref 0]) 1 rfl ?_
          refine kx_q_getR (k := 0) (j := 1) kxo_0 rfl kfl_X4_10 rfl ?_
          refine kx_q_getR (k := 0) (j := 2) kxl_1.1 rfl kfl_X4_155 rfl ?_
          refine kx_go (pc' := 70) (L' := [some (.ref 0), some (.int x1), some (.int x2), some (.int x3), some (.int x4)]) (st' := [.int x4, .ref 2]) 1 rfl ?_
          obtain ⟨hi5, h⟩ := kx_ck_some h
          refine kx_q_iald (kxl_1.2.1) rfl hi5 ?_
          refine kx_go (pc' := 78) (L' := [some (.ref 0), some (.int x1), some (.int x4), some (.int (M.1 2 (x4).toNatClampNeg)), some (.int (x4 + (1)))]) (st' := []) 4 rfl ?_
          refine kx_r_goto rfl ?_
          refine kx_wk [true, true, true, true, true] ?_
          exact ih x1 x4 (M.1 2 (x4).toNatClampNeg) (x4 + (1)) M h
set_option maxRecDepth 100000 in
set_option maxHeartbeats 4000000 in
theorem t_X4_shyest {d : Nat} {r : Int32} {M' : kx_M} (a0 : Int32) (M : kx_M) (h : f_X4_shyest a0 M = some (r, M')) : kx_Rn EX T_X4_shyest (d + 2) (0, [some (.ref 0), some (.int a0), none, none, none], [], M) (some (.int r)) M' := by
  unfold f_X4_shyest at h
  refine kx_go (pc' := 1) (L' := [some (.ref 0), some (.int a0), none, none, none]) (st' := [.ref 0]) 1 rfl ?_
  refine kx_q_getR (k := 0) (j := 1) kxo_0 rfl kfl_X4_10 rfl ?_
  refine kx_go (pc' := 5) (L' := [some (.ref 0), some (.int a0), none, none, none]) (st' := [.int a0, .ref 1]) 1 rfl ?_
  refine kx_q_callV (as := [.int a0]) (rest := []) (M1 := M) (rv := some (.int (kx_bi (f_X0_hasCells 1 M a0)))) kxl_1.1 rfl klk_X4_219 kse_X0_hasCells rfl rfl rfl rfl (Nat.le_of_ble_eq_true rfl) (Nat.le_of_ble_eq_true rfl) (c_X0_hasCells (d := d + 0) 1 (kxl_1) a0 M (f_X0_hasCells 1 M a0) rfl) ?_
  show kx_Rn _ _ _ (8, [some (.ref 0), some (.int a0), none, none, none], [.int (kx_bi (f_X0_hasCells 1 M a0))], M) _ _
  refine kx_q_zne rfl (fun hc1 => ?_) (fun hc1 => ?_)
  · rw [if_pos hc1] at h
    refine kx_go (pc' := 25) (L' := [some (.ref 0), some (.int a0), some (.int (-1 : Int32)), some (.int (-1 : Int32)), some (.int (0 : Int32))]) (st' := []) 6 rfl ?_
    refine kx_wk [true, true, true, true, true] ?_
    exact t_X4_shyest_25 kx_fuel a0 (-1 : Int32) (-1 : Int32) (0 : Int32) M h
  · rw [if_neg hc1] at h
    refine kx_go (pc' := 14) (L' := [some (.ref 0), some (.int a0), none, none, none]) (st' := [.int (-2 : Int32), .ref 0]) 2 rfl ?_
    obtain ⟨v2, M4, hv3, h⟩ := kx_bd_some h
    refine kx_q_callV (as := [.int (-2 : Int32)]) (rest := []) (M1 := M4) (rv := some (.int v2)) kxo_0 rfl klk_X4_59 kse_X4_refuse rfl rfl rfl rfl (Nat.le_of_ble_eq_true rfl) (Nat.le_of_ble_eq_true rfl) (c_X4_refuse (d := d + 0) (-2 : Int32) M v2 M4 hv3) ?_
    show kx_Rn _ _ _ (17, [some (.ref 0), some (.int a0), none, none, none], [.int v2], M4) _ _
    cases h
    exact kx_r_iret rfl rfl
theorem c_X4_shyest {d : Nat} (a0 : Int32) (M : kx_M) (r : Int32) (M' : kx_M) (h : f_X4_shyest a0 M = some (r, M')) : kx_Call EX (d + 2) T_X4_shyest [.ref 0, .int a0] M (some (.int r)) M' := kx_entry kok_X4_shyest (Nat.le_of_ble_eq_true rfl) rfl (t_X4_shyest (d := d) a0 M h)
set_option maxRecDepth 100000 in
set_option maxHeartbeats 4000000 in
theorem t_X4_alike {d : Nat} {r : Int32} {M' : kx_M} (a0 : Int32) (a1 : Int32) (M : kx_M) (h : f_X4_alike a0 a1 M = some (r, M')) : kx_Rn EX T_X4_alike (d + 5) (0, [some (.ref 0), some (.int a0), some (.int a1)], [], M) (some (.int r)) M' := by
  unfold f_X4_alike at h
  refine kx_go (pc' := 1) (L' := [some (.ref 0), some (.int a0), some (.int a1)]) (st' := [.ref 0]) 1 rfl ?_
  refine kx_q_getR (k := 0) (j := 1) kxo_0 rfl kfl_X4_10 rfl ?_
  refine kx_go (pc' := 5) (L' := [some (.ref 0), some (.int a0), some (.int a1)]) (st' := [.int a0, .ref 1]) 1 rfl ?_
  refine kx_q_callV (as := [.int a0]) (rest := []) (M1 := M) (rv := some (.int (kx_bi (f_X0_hasVisitor 1 M a0)))) kxl_1.1 rfl klk_X4_104 kse_X0_hasVisitor rfl rfl rfl rfl (Nat.le_of_ble_eq_true rfl) (Nat.le_of_ble_eq_true rfl) (c_X0_hasVisitor (d := d + 3) 1 (kxl_1) a0 M (f_X0_hasVisitor 1 M a0) rfl) ?_
  show kx_Rn _ _ _ (8, [some (.ref 0), some (.int a0), some (.int a1)], [.int (kx_bi (f_X0_hasVisitor 1 M a0))], M) _ _
  refine kx_q_zeq rfl (fun hc1 => ?_) (fun hc1 => ?_)
  · rw [if_neg hc1] at h
    refine kx_go (pc' := 25) (L' := [some (.ref 0), some (.int a0), some (.int a1)]) (st' := [.int (-2 : Int32), .ref 0]) 2 rfl ?_
    obtain ⟨v2, M4, hv3, h⟩ := kx_bd_some h
    refine kx_q_callV (as := [.int (-2 : Int32)]) (rest := []) (M1 := M4) (rv := some (.int v2)) kxo_0 rfl klk_X4_59 kse_X4_refuse rfl rfl rfl rfl (Nat.le_of_ble_eq_true rfl) (Nat.le_of_ble_eq_true rfl) (c_X4_refuse (d := d + 3) (-2 : Int32) M v2 M4 hv3) ?_
    show kx_Rn _ _ _ (28, [some (.ref 0), some (.int a0), some (.int a1)], [.int v2], M4) _ _
    cases h
    exact kx_r_iret rfl rfl
  · rw [if_pos hc1] at h
    refine kx_go (pc' := 12) (L' := [some (.ref 0), some (.int a0), some (.int a1)]) (st' := [.ref 0]) 1 rfl ?_
    refine kx_q_getR (k := 0) (j := 1) kxo_0 rfl kfl_X4_10 rfl ?_
    refine kx_go (pc' := 16) (L' := [some (.ref 0), some (.int a0), some (.int a1)]) (st' := [.int a1, .ref 1]) 1 rfl ?_
    refine kx_q_callV (as := [.int a1]) (rest := []) (M1 := M) (rv := some (.int (kx_bi (f_X0_hasVisitor 1 M a1)))) kxl_1.1 rfl klk_X4_104 kse_X0_hasVisitor rfl rfl rfl rfl (Nat.le_of_ble_eq_true rfl) (Nat.le_of_ble_eq_true rfl) (c_X0_hasVisitor (d := d + 3) 1 (kxl_1) a1 M (f_X0_hasVisitor 1 M a1) rfl) ?_
    show kx_Rn _ _ _ (19, [some (.ref 0), some (.int a0), some (.int a1)], [.int (kx_bi (f_X0_hasVisitor 1 M a1))], M) _ _
    refine kx_q_zne rfl (fun hc5 => ?_) (fun hc5 => ?_)
    · rw [if_pos hc5] at h
      refine kx_go (pc' := 30) (L' := [some (.ref 0), some (.int a0), some (.int a1)]) (st' := [.ref 0]) 1 rfl ?_
      refine kx_q_getR (k := 0) (j := 1) kxo_0 rfl kfl_X4_10 rfl ?_
      refine kx_go (pc' := 35) (L' := [some (.ref 0), some (.int a0), some (.int a1)]) (st' := [.ref 0, .int a0, .ref 1]) 2 rfl ?_
      refine kx_q_getR (k := 0) (j := 1) kxo_0 rfl kfl_X4_10 rfl ?_
      refine kx_q_getI (k := 8) kxl_1.1 rfl kfl_X4_122 rfl ?_
      obtain ⟨v6, hv7, h⟩ := kx_bn_some h
      refine kx_q_callV (as := [.int a0, .int (M.1 1 8)]) (rest := []) (M1 := M) (rv := some (.int v6)) kxl_1.1 rfl klk_X4_242 kse_X0_shownAlone rfl rfl rfl rfl (Nat.le_of_ble_eq_true rfl) (Nat.le_of_ble_eq_true rfl) (c_X0_shownAlone (d := d + 0) 1 (kxl_1) a0 (M.1 1 8) M v6 hv7) ?_
      show kx_Rn _ _ _ (44, [some (.ref 0), some (.int a0), some (.int a1)], [.int v6], M) _ _
      refine kx_go (pc' := 45) (L' := [some (.ref 0), some (.int a0), some (.int a1)]) (st' := [.ref 0, .int v6]) 1 rfl ?_
      refine kx_q_getR (k := 0) (j := 1) kxo_0 rfl kfl_X4_10 rfl ?_
      refine kx_go (pc' := 50) (L' := [some (.ref 0), some (.int a0), some (.int a1)]) (st' := [.ref 0, .int a1, .ref 1, .int v6]) 2 rfl ?_
      refine kx_q_getR (k := 0) (j := 1) kxo_0 rfl kfl_X4_10 rfl ?_
      refine kx_q_getI (k := 8) kxl_1.1 rfl kfl_X4_122 rfl ?_
      obtain ⟨v8, hv9, h⟩ := kx_bn_some h
      refine kx_q_callV (as := [.int a1, .int (M.1 1 8)]) (rest := [.int v6]) (M1 := M) (rv := some (.int v8)) kxl_1.1 rfl klk_X4_242 kse_X0_shownAlone rfl rfl rfl rfl (Nat.le_of_ble_eq_true rfl) (Nat.le_of_ble_eq_true rfl) (c_X0_shownAlone (d := d + 0) 1 (kxl_1) a1 (M.1 1 8) M v8 hv9) ?_
      show kx_Rn _ _ _ (59, [some (.ref 0), some (.int a0), some (.int a1)], [.int v8, .int v6], M) _ _
      refine kx_r_icmp_ne rfl (fun hc10 => ?_) (fun hc10 => ?_)
      · rw [if_neg hc10] at h
        refine kx_go (pc' := 67) (L' := [some (.ref 0), some (.int a0), some (.int a1)]) (st' := [.int (0 : Int32)]) 1 rfl ?_
        cases h
        exact kx_r_iret rfl rfl
      · rw [if_pos hc10] at h
        refine kx_go (pc' := 63) (L' := [some (.ref 0), some (.int a0), some (.int a1)]) (st' := [.int (1 : Int32)]) 1 rfl ?_
        refine kx_r_goto rfl ?_
        cases h
        exact kx_r_iret rfl rfl
    · rw [if_neg hc5] at h
      refine kx_go (pc' := 25) (L' := [some (.ref 0), some (.int a0), some (.int a1)]) (st' := [.int (-2 : Int32), .ref 0]) 2 rfl ?_
      obtain ⟨v11, M13, hv12, h⟩ := kx_bd_some h
      refine kx_q_callV (as := [.int (-2 : Int32)]) (rest := []) (M1 := M13) (rv := some (.int v11)) kxo_0 rfl klk_X4_59 kse_X4_refuse rfl rfl rfl rfl (Nat.le_of_ble_eq_true rfl) (Nat.le_of_ble_eq_true rfl) (c_X4_refuse (d := d + 3) (-2 : Int32) M v11 M13 hv12) ?_
      show kx_Rn _ _ _ (28, [some (.ref 0), some (.int a0), some (.int a1)], [.int v11], M13) _ _
      cases h
      exact kx_r_iret rfl rfl
theorem c_X4_alike {d : Nat} (a0 : Int32) (a1 : Int32) (M : kx_M) (r : Int32) (M' : kx_M) (h : f_X4_alike a0 a1 M = some (r, M')) : kx_Call EX (d + 5) T_X4_alike [.ref 0, .int a0, .int a1] M (some (.int r)) M' := kx_entry kok_X4_alike (Nat.le_of_ble_eq_true rfl) rfl (t_X4_alike (d := d) a0 a1 M h)
set_option maxRecDepth 100000 in
set_option maxHeartbeats 4000000 in
theorem t_X4_ofKind_18 {d : Nat} {r : Int32} {M' : kx_M} : ∀ (n : Nat) (x1 : Int32) (x2 : Int32) (x3 : Int32) (M : kx_M), f_X4_ofKind_18 n x1 x2 x3 M = some (r, M') → kx_Rn EX T_X4_ofKind (d + 2) (18, [some (.ref 0), some (.int x1), some (.int x2), some (.int x3)], [], M) (some (.int r)) M' := by
  intro n
  induction n with
  | zero =>
    intro x1 x2 x3 M h
    cases (show (none : Option (Int32 × kx_M)) = some _ from h)
  | succ n ih =>
    intro x1 x2 x3 M h
    rw [f_X4_ofKind_18.eq_2] at h
    refine kx_go (pc' := 20) (L' := [some (.ref 0), some (.int x1), some (.int x2), some (.int x3)]) (st' := [.ref 0, .int x3]) 2 rfl ?_
    refine kx_q_getR (k := 0) (j := 1) kxo_0 rfl kfl_X4_10 rfl ?_
    refine kx_q_getI (k := 11) kxl_1.1 rfl kfl_X4_146 rfl ?_
    refine kx_r_icmp_ge rfl (fun hc1 => ?_) (fun hc1 => ?_)
    · rw [if_pos hc1] at h
      refine kx_go (pc' := 52) (L' := [some (.ref 0), some (.int x1), some (.int x2), some (.int x3)]) (st' := [.int x2]) 1 rfl ?_
      cases h
      exact kx_r_iret rfl rfl
    · rw [if_neg hc1] at h
      refine kx_go (pc' := 30) (L' := [some (.ref 0), some (.int x1), some (.int x2), some (.int x3)]) (st' := [.ref 0]) 1 rfl ?_
      refine kx_q_getR (k := 0) (j := 1) kxo_0 rfl kfl_X4_10 rfl ?_
      refine kx_q_getR (k := 3) (j := 5) kxl_1.1 rfl kfl_X4_113 rfl ?_
      refine kx_go (pc' := 37) (L' := [some (.ref 0), some (.int x1), some (.int x2), some (.int x3)]) (st' := [.int x3, .ref 5]) 1 rfl ?_
      obtain ⟨hi2, h⟩ := kx_ck_some h
      refine kx_q_iald (kxl_1.2.2.2.2.1) rfl hi2 ?_
      refine kx_go (pc' := 39) (L' := [some (.ref 0), some (.int x1), some (.int x2), some (.int x3)]) (st' := [.int x1, .int (M.1 5 (x3).toNatClampNeg)]) 1 rfl ?_
      refine kx_r_icmp_ne rfl (fun hc3 => ?_) (fun hc3 => ?_)
      · rw [if_neg hc3] at h
        refine kx_go (pc' := 48) (L' := [some (.ref 0), some (.int x1), some (.int x2), some (.int (x3 + (1)))]) (st' := []) 1 rfl ?_
        refine kx_r_goto rfl ?_
        refine kx_wk [true, true, true, true] ?_
        exact ih x1 x2 (x3 + (1)) M h
      · rw [if_pos hc3] at h
        refine kx_go (pc' := 48) (L' := [some (.ref 0), some (.int x1), some (.int (x2 + (1))), some (.int (x3 + (1)))]) (st' := []) 2 rfl ?_
        refine kx_r_goto rfl ?_
        refine kx_wk [true, true, true, true] ?_
        exact ih x1 (x2 + (1)) (x3 + (1)) M h
set_option maxRecDepth 100000 in
set_option maxHeartbeats 4000000 in
theorem t_X4_ofKind {d : Nat} {r : Int32} {M' : kx_M} (a0 : Int32) (M : kx_M) (h : f_X4_ofKind a0 M = some (r, M')) : kx_Rn EX T_X4_ofKind (d + 2) (0, [some (.ref 0), some (.int a0), none, none], [], M) (some (.int r)) M' := by
  unfold f_X4_ofKind at h
  refine kx_go (pc' := 1) (L' := [some (.ref 0), some (.int a0), none, none]) (st' := [.int a0]) 1 rfl ?_
  refine kx_r_callS (as := [.int a0]) (rest := []) (M1 := M) (rv := some (.int (kx_bi (f_X4_isKind a0)))) rfl klk_X4_107 kst_X4_isKind rfl rfl (Nat.le_of_ble_eq_true rfl) (Nat.le_of_ble_eq_true rfl) (c_X4_isKind (d := d + 0) a0 M (f_X4_isKind a0) rfl) ?_
  show kx_Rn _ _ _ (4, [some (.ref 0), some (.int a0), none, none], [.int (kx_bi (f_X4_isKind a0))], M) _ _
  refine kx_q_zne rfl (fun hc1 => ?_) (fun hc1 => ?_)
  · rw [if_pos hc1] at h
    refine kx_go (pc' := 18) (L' := [some (.ref 0), some (.int a0), some (.int (0 : Int32)), some (.int (0 : Int32))]) (st' := []) 4 rfl ?_
    refine kx_wk [true, true, true, true] ?_
    exact t_X4_ofKind_18 kx_fuel a0 (0 : Int32) (0 : Int32) M h
  · rw [if_neg hc1] at h
    refine kx_go (pc' := 10) (L' := [some (.ref 0), some (.int a0), none, none]) (st' := [.int (-2 : Int32), .ref 0]) 2 rfl ?_
    obtain ⟨v2, M4, hv3, h⟩ := kx_bd_some h
    refine kx_q_callV (as := [.int (-2 : Int32)]) (rest := []) (M1 := M4) (rv := some (.int v2)) kxo_0 rfl klk_X4_59 kse_X4_refuse rfl rfl rfl rfl (Nat.le_of_ble_eq_true rfl) (Nat.le_of_ble_eq_true rfl) (c_X4_refuse (d := d + 0) (-2 : Int32) M v2 M4 hv3) ?_
    show kx_Rn _ _ _ (13, [some (.ref 0), some (.int a0), none, none], [.int v2], M4) _ _
    cases h
    exact kx_r_iret rfl rfl
theorem c_X4_ofKind {d : Nat} (a0 : Int32) (M : kx_M) (r : Int32) (M' : kx_M) (h : f_X4_ofKind a0 M = some (r, M')) : kx_Call EX (d + 2) T_X4_ofKind [.ref 0, .int a0] M (some (.int r)) M' := kx_entry kok_X4_ofKind (Nat.le_of_ble_eq_true rfl) rfl (t_X4_ofKind (d := d) a0 M h)
set_option maxRecDepth 100000 in
set_option maxHeartbeats 4000000 in
theorem t_X4_firstWrong_2 {d : Nat} {r : Int32} (q : Nat) (hq : kx_shelf EX q) (M : kx_M) : ∀ (n : Nat) (x2 : Int32) (x3 : Int32), f_X4_firstWrong_2 q M n x2 x3 = some r → kx_Rn EX T_X4_firstWrong (d + 1) (2, [some (.ref 0), some (.ref q), some (.int x2), some (.int x3), none, none], [], M) (some (.int r)) M := by
  intro n
  induction n with
  | zero =>
    intro x2 x3 h
    cases (show (none : Option Int32) = some _ from h)
  | succ n ih =>
    intro x2 x3 h
    rw [f_X4_firstWrong_2.eq_2] at h
    refine kx_go (pc' := 4) (L' := [some (.ref 0), some (.ref q), some (.int x2), some (.int x3), none, none]) (st' := [.int x2, .int x3]) 2 rfl ?_
    refine kx_r_icmp_ge rfl (fun hc1 => ?_) (fun hc1 => ?_)
    · rw [if_pos hc1] at h
      refine kx_go (pc' := 45) (L' := [some (.ref 0), some (.ref q), some (.int x2), some (.int x3), none, none]) (st' := [.int (-1 : Int32)]) 1 rfl ?_
      cases h
      exact kx_r_iret rfl rfl
    · rw [if_neg hc1] at h
      refine kx_go (pc' := 8) (L' := [some (.ref 0), some (.ref q), some (.int x2), some (.int x3), none, none]) (st' := [.ref q]) 1 rfl ?_
      refine kx_q_getR (k := 0) (j := (q + 1)) hq.1 rfl kfl_X4_87 rfl ?_
      refine kx_go (pc' := 12) (L' := [some (.ref 0), some (.ref q), some (.int x2), some (.int x3), none, none]) (st' := [.int x3, .ref (q + 1)]) 1 rfl ?_
      obtain ⟨hi2, h⟩ := kx_ck_some h
      refine kx_q_lald (hq.2) rfl hi2 ?_
      refine kx_go (pc' := 19) (L' := [some (.ref 0), some (.ref q), some (.int x2), some (.int x3), some (.long (M.2 (q + 1) (x3).toNatClampNeg)), none]) (st' := [.int (lg_cmp (M.2 (q + 1) (x3).toNatClampNeg) (1 : Int64))]) 4 rfl ?_
      refine kx_r_if_lt rfl (fun hc3 => ?_) (fun hc3 => ?_)
      · rw [if_pos hc3] at h
        refine kx_go (pc' := 37) (L' := [some (.ref 0), some (.ref q), some (.int x2), some (.int x3), some (.long (M.2 (q + 1) (x3).toNatClampNeg)), none]) (st' := [.int x3]) 1 rfl ?_
        cases h
        exact kx_r_iret rfl rfl
      · rw [if_neg hc3] at h
        refine kx_go (pc' := 25) (L' := [some (.ref 0), some (.ref q), some (.int x2), some (.int x3), some (.long (M.2 (q + 1) (x3).toNatClampNeg)), none]) (st' := [.ref 0, .long (M.2 (q + 1) (x3).toNatClampNeg)]) 2 rfl ?_
        refine kx_q_getR (k := 0) (j := 1) kxo_0 rfl kfl_X4_10 rfl ?_
        refine kx_q_callV (as := []) (rest := [.long (M.2 (q + 1) (x3).toNatClampNeg)]) (M1 := M) (rv := some (.int (f_X0_all 1 M))) kxl_1.1 rfl klk_X4_215 kse_X0_all rfl rfl rfl rfl (Nat.le_of_ble_eq_true rfl) (Nat.le_of_ble_eq_true rfl) (c_X0_all (d := d + 0) 1 (kxl_1) M (f_X0_all 1 M) rfl) ?_
        show kx_Rn _ _ _ (31, [some (.ref 0), some (.ref q), some (.int x2), some (.int x3), some (.long (M.2 (q + 1) (x3).toNatClampNeg)), none], [.int (f_X0_all 1 M), .long (M.2 (q + 1) (x3).toNatClampNeg)], M) _ _
        refine kx_go (pc' := 33) (L' := [some (.ref 0), some (.ref q), some (.int x2), some (.int x3), some (.long (M.2 (q + 1) (x3).toNatClampNeg)), none]) (st' := [.int (lg_cmp (M.2 (q + 1) (x3).toNatClampNeg) ((f_X0_all 1 M)).toInt64)]) 2 rfl ?_
        refine kx_r_if_le rfl (fun hc4 => ?_) (fun hc4 => ?_)
        · rw [if_pos hc4] at h
          refine kx_go (pc' := 41) (L' := [some (.ref 0), some (.ref q), some (.int x2), some (.int (x3 + (1))), some (.long (M.2 (q + 1) (x3).toNatClampNeg)), none]) (st' := []) 1 rfl ?_
          refine kx_r_goto rfl ?_
          refine kx_wk [true, true, true, true, false, false] ?_
          exact ih x2 (x3 + (1)) h
        · rw [if_neg hc4] at h
          refine kx_go (pc' := 37) (L' := [some (.ref 0), some (.ref q), some (.int x2), some (.int x3), some (.long (M.2 (q + 1) (x3).toNatClampNeg)), none]) (st' := [.int x3]) 1 rfl ?_
          cases h
          exact kx_r_iret rfl rfl
set_option maxRecDepth 100000 in
set_option maxHeartbeats 4000000 in
theorem t_X4_firstWrong {d : Nat} {r : Int32} (q : Nat) (hq : kx_shelf EX q) (M : kx_M) (a1 : Int32) (h : f_X4_firstWrong q M a1 = some r) : kx_Rn EX T_X4_firstWrong (d + 1) (0, [some (.ref 0), some (.ref q), some (.int a1), none, none, none], [], M) (some (.int r)) M := by
  unfold f_X4_firstWrong at h
  refine kx_go (pc' := 2) (L' := [some (.ref 0), some (.ref q), some (.int a1), some (.int (0 : Int32)), none, none]) (st' := []) 2 rfl ?_
  refine kx_wk [true, true, true, true, false, false] ?_
  exact t_X4_firstWrong_2 q hq M kx_fuel a1 (0 : Int32) h
theorem c_X4_firstWrong {d : Nat} (q : Nat) (hq : kx_shelf EX q) (a1 : Int32) (M : kx_M) (r : Int32) (h : f_X4_firstWrong q M a1 = some r) : kx_Call EX (d + 1) T_X4_firstWrong [.ref 0, .ref q, .int a1] M (some (.int r)) M := kx_entry kok_X4_firstWrong (Nat.le_of_ble_eq_true rfl) rfl (t_X4_firstWrong (d := d) q hq M a1 h)
set_option maxRecDepth 100000 in
set_option maxHeartbeats 4000000 in
theorem t_X4_judge {d : Nat} {r : Int32} {M' : kx_M} (a0 : Int32) (a1 : Int32) (M : kx_M) (h : f_X4_judge a0 a1 M = some (r, M')) : kx_Rn EX T_X4_judge (d + 3) (0, [some (.ref 0), some (.int a0), some (.int a1), none], [], M) (some (.int r)) M' := by
  unfold f_X4_judge at h
  refine kx_go (pc' := 6) (L' := [some (.ref 0), some (.int a0), some (.int a1), none]) (st' := [.int (40 : Int32), .int (0 : Int32), .int a1, .int a0, .ref 0]) 5 rfl ?_
  refine kx_r_callS (as := [.int a1, .int (0 : Int32), .int (40 : Int32)]) (rest := [.int a0, .ref 0]) (M1 := M) (rv := some (.int (kx_bi (f_X4_isWithin a1 (0 : Int32) (40 : Int32))))) rfl klk_X4_55 kst_X4_isWithin rfl rfl (Nat.le_of_ble_eq_true rfl) (Nat.le_of_ble_eq_true rfl) (c_X4_isWithin (d := d + 2) a1 (0 : Int32) (40 : Int32) M (f_X4_isWithin a1 (0 : Int32) (40 : Int32)) rfl) ?_
  show kx_Rn _ _ _ (9, [some (.ref 0), some (.int a0), some (.int a1), none], [.int (kx_bi (f_X4_isWithin a1 (0 : Int32) (40 : Int32))), .int a0, .ref 0], M) _ _
  refine kx_go (pc' := 10) (L' := [some (.ref 0), some (.int a0), some (.int a1), none]) (st' := [.int a1, .int (kx_bi (f_X4_isWithin a1 (0 : Int32) (40 : Int32))), .int a0, .ref 0]) 1 rfl ?_
  obtain ⟨v1, hv2, h⟩ := kx_bn_some h
  refine kx_q_callV (as := [.int a0, .int (kx_bi (f_X4_isWithin a1 (0 : Int32) (40 : Int32))), .int a1]) (rest := []) (M1 := M) (rv := some (.int v1)) kxo_0 rfl klk_X4_67 kse_X4_rowFault rfl rfl rfl rfl (Nat.le_of_ble_eq_true rfl) (Nat.le_of_ble_eq_true rfl) (c_X4_rowFault (d := d + 0) a0 (f_X4_isWithin a1 (0 : Int32) (40 : Int32)) a1 M v1 hv2) ?_
  show kx_Rn _ _ _ (13, [some (.ref 0), some (.int a0), some (.int a1), none], [.int v1], M) _ _
  refine kx_go (pc' := 15) (L' := [some (.ref 0), some (.int a0), some (.int a1), some (.int v1)]) (st' := [.int v1]) 2 rfl ?_
  refine kx_r_if_eq rfl (fun hc3 => ?_) (fun hc3 => ?_)
  · rw [if_pos hc3] at h
    refine kx_go (pc' := 26) (L' := [some (.ref 0), some (.int a0), some (.int a1), some (.int v1)]) (st' := [.ref 0, .ref 0]) 2 rfl ?_
    refine kx_q_getR (k := 3) (j := 25) kxo_0 rfl kfl_X4_24 rfl ?_
    refine kx_go (pc' := 30) (L' := [some (.ref 0), some (.int a0), some (.int a1), some (.int v1)]) (st' := [.int a0, .ref 25, .ref 0]) 1 rfl ?_
    obtain ⟨hi4, h⟩ := kx_ck_some h
    refine kx_q_aald rfl hi4 ?_
    refine kx_go (pc' := 32) (L' := [some (.ref 0), some (.int a0), some (.int a1), some (.int v1)]) (st' := [.int a1, .ref (26 + 2 * (a0).toNatClampNeg), .ref 0]) 1 rfl ?_
    obtain ⟨v5, hv6, h⟩ := kx_bn_some h
    refine kx_q_callV (as := [.ref (26 + 2 * (a0).toNatClampNeg), .int a1]) (rest := []) (M1 := M) (rv := some (.int v5)) kxo_0 rfl klk_X4_287 kse_X4_firstWrong rfl rfl rfl rfl (Nat.le_of_ble_eq_true rfl) (Nat.le_of_ble_eq_true rfl) (c_X4_firstWrong (d := d + 1) (26 + 2 * (a0).toNatClampNeg) ((kxs_in hi4)) a1 M v5 hv6) ?_
    show kx_Rn _ _ _ (35, [some (.ref 0), some (.int a0), some (.int a1), some (.int v1)], [.int v5], M) _ _
    cases h
    exact kx_r_iret rfl rfl
  · rw [if_neg hc3] at h
    refine kx_go (pc' := 20) (L' := [some (.ref 0), some (.int a0), some (.int a1), some (.int v1)]) (st' := [.int v1, .ref 0]) 2 rfl ?_
    obtain ⟨v7, M9, hv8, h⟩ := kx_bd_some h
    refine kx_q_callV (as := [.int v1]) (rest := []) (M1 := M9) (rv := some (.int v7)) kxo_0 rfl klk_X4_59 kse_X4_refuse rfl rfl rfl rfl (Nat.le_of_ble_eq_true rfl) (Nat.le_of_ble_eq_true rfl) (c_X4_refuse (d := d + 1) v1 M v7 M9 hv8) ?_
    show kx_Rn _ _ _ (23, [some (.ref 0), some (.int a0), some (.int a1), some (.int v1)], [.int v7], M9) _ _
    cases h
    exact kx_r_iret rfl rfl
theorem c_X4_judge {d : Nat} (a0 : Int32) (a1 : Int32) (M : kx_M) (r : Int32) (M' : kx_M) (h : f_X4_judge a0 a1 M = some (r, M')) : kx_Call EX (d + 3) T_X4_judge [.ref 0, .int a0, .int a1] M (some (.int r)) M' := kx_entry kok_X4_judge (Nat.le_of_ble_eq_true rfl) rfl (t_X4_judge (d := d) a0 a1 M h)
set_option maxRecDepth 100000 in
set_option maxHeartbeats 4000000 in
theorem t_X4_behind_80 {d : Nat} {r : Int32} {M' : kx_M} : ∀ (n : Nat) (x1 : Int32) (x2 : Int32) (x3 : Int32) (x5 : Int32) (M : kx_M), f_X4_behind_80 n x1 x2 x3 x5 M = some (r, M') → kx_Rn EX T_X4_behind (d + 5) (80, [some (.ref 0), some (.int x1), some (.int x2), some (.int x3), none, some (.int x5)], [], M) (some (.int r)) M' := by
  intro n
  induction n with
  | zero =>
    intro x1 x2 x3 x5 M h
    cases (show (none : Option (Int32 × kx_M)) = some _ from h)
  | succ n ih =>
    intro x1 x2 x3 x5 M h
    rw [f_X4_behind_80.eq_2] at h
    refine kx_go (pc' := 83) (L' := [some (.ref 0), some (.int x1), some (.int x2), some (.int x3), none, some (.int x5)]) (st' := [.int x2, .int x5]) 2 rfl ?_
    refine kx_r_icmp_ge rfl (fun hc1 => ?_) (fun hc1 => ?_)
    · rw [if_pos hc1] at h
      refine kx_go (pc' := 113) (L' := [some (.ref 0), some (.int x1), some (.int x2), some (.int x3), none, some (.int x5)]) (st' := [.int x3]) 1 rfl ?_
      refine kx_r_if_ne rfl (fun hc2 => ?_) (fun hc2 => ?_)
      · rw [if_neg hc2] at h
        refine kx_go (pc' := 134) (L' := [some (.ref 0), some (.int x1), some (.int x2), some (.int x3), none, some (.int x5)]) (st' := [.ref 0]) 1 rfl ?_
        refine kx_q_getR (k := 2) (j := 17) kxo_0 rfl kfl_X4_19 rfl ?_
        refine kx_q_getI (k := 8) kxl_17.1 rfl kfl_X4_122 rfl ?_
        cases h
        exact kx_r_iret rfl rfl
      · rw [if_pos hc2] at h
        refine kx_go (pc' := 117) (L' := [some (.ref 0), some (.int x1), some (.int x2), some (.int x3), none, some (.int x5)]) (st' := [.ref 0]) 1 rfl ?_
        refine kx_q_getR (k := 2) (j := 17) kxo_0 rfl kfl_X4_19 rfl ?_
        refine kx_go (pc' := 121) (L' := [some (.ref 0), some (.int x1), some (.int x2), some (.int x3), none, some (.int x5)]) (st' := [.ref 0, .ref 17]) 1 rfl ?_
        refine kx_q_getR (k := 2) (j := 17) kxo_0 rfl kfl_X4_19 rfl ?_
        refine kx_q_callV (as := []) (rest := [.ref 17]) (M1 := M) (rv := some (.int (f_X0_all 17 M))) kxl_17.1 rfl klk_X4_215 kse_X0_all rfl rfl rfl rfl (Nat.le_of_ble_eq_true rfl) (Nat.le_of_ble_eq_true rfl) (c_X0_all (d := d + 4) 17 (kxl_17) M (f_X0_all 17 M) rfl) ?_
        show kx_Rn _ _ _ (127, [some (.ref 0), some (.int x1), some (.int x2), some (.int x3), none, some (.int x5)], [.int (f_X0_all 17 M), .ref 17], M) _ _
        obtain ⟨v3, hv4, h⟩ := kx_bn_some h
        refine kx_q_callV (as := [.int (f_X0_all 17 M)]) (rest := []) (M1 := M) (rv := some (.int v3)) kxl_17.1 rfl klk_X4_203 kse_X0_knownBy rfl rfl rfl rfl (Nat.le_of_ble_eq_true rfl) (Nat.le_of_ble_eq_true rfl) (c_X0_knownBy (d := d + 3) 17 (kxl_17) (f_X0_all 17 M) M v3 hv4) ?_
        show kx_Rn _ _ _ (130, [some (.ref 0), some (.int x1), some (.int x2), some (.int x3), none, some (.int x5)], [.int v3], M) _ _
        refine kx_r_goto rfl ?_
        cases h
        exact kx_r_iret rfl rfl
    · rw [if_neg hc1] at h
      refine kx_go (pc' := 87) (L' := [some (.ref 0), some (.int x1), some (.int x2), some (.int x3), none, some (.int x5)]) (st' := [.ref 0]) 1 rfl ?_
      refine kx_q_getR (k := 2) (j := 17) kxo_0 rfl kfl_X4_19 rfl ?_
      refine kx_go (pc' := 91) (L' := [some (.ref 0), some (.int x1), some (.int x2), some (.int x3), none, some (.int x5)]) (st' := [.ref 0, .ref 17]) 1 rfl ?_
      refine kx_q_getR (k := 3) (j := 25) kxo_0 rfl kfl_X4_24 rfl ?_
      refine kx_go (pc' := 95) (L' := [some (.ref 0), some (.int x1), some (.int x2), some (.int x3), none, some (.int x5)]) (st' := [.int x1, .ref 25, .ref 17]) 1 rfl ?_
      obtain ⟨hi5, h⟩ := kx_ck_some h
      refine kx_q_aald rfl hi5 ?_
      refine kx_q_getR (k := 0) (j := ((26 + 2 * (x1).toNatClampNeg) + 1)) (kxs_in hi5).1 rfl kfl_X4_87 rfl ?_
      refine kx_go (pc' := 101) (L' := [some (.ref 0), some (.int x1), some (.int x2), some (.int x3), none, some (.int x5)]) (st' := [.int x5, .ref ((26 + 2 * (x1).toNatClampNeg) + 1), .ref 17]) 1 rfl ?_
      obtain ⟨hi6, h⟩ := kx_ck_some h
      refine kx_q_lald ((kxs_in hi5).2) rfl hi6 ?_
      refine kx_go (pc' := 103) (L' := [some (.ref 0), some (.int x1), some (.int x2), some (.int x3), none, some (.int x5)]) (st' := [.int ((M.2 ((26 + 2 * (x1).toNatClampNeg) + 1) (x5).toNatClampNeg)).toInt32, .ref 17]) 1 rfl ?_
      obtain ⟨M9, hv8, h⟩ := kx_bn_some h
      refine kx_q_callV (as := [.int ((M.2 ((26 + 2 * (x1).toNatClampNeg) + 1) (x5).toNatClampNeg)).toInt32]) (rest := []) (M1 := M9) (rv := none) kxl_17.1 rfl klk_X4_278 kse_X0_goTogether rfl rfl rfl rfl (Nat.le_of_ble_eq_true rfl) (Nat.le_of_ble_eq_true rfl) (c_X0_goTogether (d := d + 0) 17 (kxl_17) ((M.2 ((26 + 2 * (x1).toNatClampNeg) + 1) (x5).toNatClampNeg)).toInt32 M M9 hv8) ?_
      show kx_Rn _ _ _ (106, [some (.ref 0), some (.int x1), some (.int x2), some (.int x3), none, some (.int x5)], [], M9) _ _
      refine kx_go (pc' := 109) (L' := [some (.ref 0), some (.int x1), some (.int x2), some (.int x3), none, some (.int (x5 + (1)))]) (st' := []) 1 rfl ?_
      refine kx_r_goto rfl ?_
      refine kx_wk [true, true, true, true, false, true] ?_
      exact ih x1 x2 x3 (x5 + (1)) M9 h
set_option maxRecDepth 100000 in
set_option maxHeartbeats 4000000 in
theorem t_X4_behind_54 {d : Nat} {r : Int32} {M' : kx_M} (x1 : Int32) (x2 : Int32) (x3 : Int32) (x4 : Int32) (M : kx_M) (h : f_X4_behind_54 x1 x2 x3 x4 M = some (r, M')) : kx_Rn EX T_X4_behind (d + 5) (54, [some (.ref 0), some (.int x1), some (.int x2), some (.int x3), some (.int x4), none], [], M) (some (.int r)) M' := by
  unfold f_X4_behind_54 at h
  refine kx_go (pc' := 56) (L' := [some (.ref 0), some (.int x1), some (.int x2), some (.int x3), some (.int x4), none]) (st' := [.int x4]) 1 rfl ?_
  refine kx_r_if_eq rfl (fun hc1 => ?_) (fun hc1 => ?_)
  · rw [if_pos hc1] at h
    refine kx_go (pc' := 67) (L' := [some (.ref 0), some (.int x1), some (.int x2), some (.int x3), some (.int x4), none]) (st' := [.ref 0]) 1 rfl ?_
    refine kx_q_getR (k := 2) (j := 17) kxo_0 rfl kfl_X4_19 rfl ?_
    refine kx_go (pc' := 71) (L' := [some (.ref 0), some (.int x1), some (.int x2), some (.int x3), some (.int x4), none]) (st' := [.ref 0, .ref 17]) 1 rfl ?_
    refine kx_q_getR (k := 0) (j := 1) kxo_0 rfl kfl_X4_10 rfl ?_
    obtain ⟨M4, hv3, h⟩ := kx_bn_some h
    refine kx_q_callV (as := [.ref 1]) (rest := []) (M1 := M4) (rv := none) kxl_17.1 rfl klk_X4_172 kse_X0_takeFrom rfl rfl rfl rfl (Nat.le_of_ble_eq_true rfl) (Nat.le_of_ble_eq_true rfl) (c_X0_takeFrom (d := d + 3) 17 (kxl_17) 1 (kxl_1) M M4 hv3) ?_
    show kx_Rn _ _ _ (77, [some (.ref 0), some (.int x1), some (.int x2), some (.int x3), some (.int x4), none], [], M4) _ _
    refine kx_go (pc' := 80) (L' := [some (.ref 0), some (.int x1), some (.int x2), some (.int x3), some (.int x4), some (.int (0 : Int32))]) (st' := []) 2 rfl ?_
    refine kx_wk [true, true, true, true, false, true] ?_
    exact t_X4_behind_80 kx_fuel x1 x2 x3 (0 : Int32) M4 h
  · rw [if_neg hc1] at h
    refine kx_go (pc' := 62) (L' := [some (.ref 0), some (.int x1), some (.int x2), some (.int x3), some (.int x4), none]) (st' := [.int x4, .ref 0]) 2 rfl ?_
    obtain ⟨v5, M7, hv6, h⟩ := kx_bd_some h
    refine kx_q_callV (as := [.int x4]) (rest := []) (M1 := M7) (rv := some (.int v5)) kxo_0 rfl klk_X4_59 kse_X4_refuse rfl rfl rfl rfl (Nat.le_of_ble_eq_true rfl) (Nat.le_of_ble_eq_true rfl) (c_X4_refuse (d := d + 3) x4 M v5 M7 hv6) ?_
    show kx_Rn _ _ _ (65, [some (.ref 0), some (.int x1), some (.int x2), some (.int x3), some (.int x4), none], [.int v5], M7) _ _
    cases h
    exact kx_r_iret rfl rfl
set_option maxRecDepth 100000 in
set_option maxHeartbeats 4000000 in
theorem t_X4_behind_24 {d : Nat} {r : Int32} {M' : kx_M} (x1 : Int32) (x2 : Int32) (x3 : Int32) (s0 : Bool) (s1 : Int32) (M : kx_M) (h : f_X4_behind_24 x1 x2 x3 s0 s1 M = some (r, M')) : kx_Rn EX T_X4_behind (d + 5) (24, [some (.ref 0), some (.int x1), some (.int x2), some (.int x3), none, none], [.int (kx_bi s0), .int s1, .ref 0], M) (some (.int r)) M' := by
  unfold f_X4_behind_24 at h
  refine kx_go (pc' := 25) (L' := [some (.ref 0), some (.int x1), some (.int x2), some (.int x3), none, none]) (st' := [.int x2, .int (kx_bi s0), .int s1, .ref 0]) 1 rfl ?_
  obtain ⟨v1, hv2, h⟩ := kx_bn_some h
  refine kx_q_callV (as := [.int s1, .int (kx_bi s0), .int x2]) (rest := []) (M1 := M) (rv := some (.int v1)) kxo_0 rfl klk_X4_67 kse_X4_rowFault rfl rfl rfl rfl (Nat.le_of_ble_eq_true rfl) (Nat.le_of_ble_eq_true rfl) (c_X4_rowFault (d := d + 2) s1 s0 x2 M v1 hv2) ?_
  show kx_Rn _ _ _ (28, [some (.ref 0), some (.int x1), some (.int x2), some (.int x3), none, none], [.int v1], M) _ _
  refine kx_go (pc' := 32) (L' := [some (.ref 0), some (.int x1), some (.int x2), some (.int x3), some (.int v1), none]) (st' := [.int v1]) 2 rfl ?_
  refine kx_r_if_ne rfl (fun hc3 => ?_) (fun hc3 => ?_)
  · rw [if_neg hc3] at h
    refine kx_wk [true, true, true, true, true, false] ?_
    exact t_X4_behind_54 x1 x2 x3 v1 M h
  · rw [if_pos hc3] at h
    refine kx_go (pc' := 37) (L' := [some (.ref 0), some (.int x1), some (.int x2), some (.int x3), some (.int v1), none]) (st' := [.ref 0, .ref 0]) 2 rfl ?_
    refine kx_q_getR (k := 3) (j := 25) kxo_0 rfl kfl_X4_24 rfl ?_
    refine kx_go (pc' := 41) (L' := [some (.ref 0), some (.int x1), some (.int x2), some (.int x3), some (.int v1), none]) (st' := [.int x1, .ref 25, .ref 0]) 1 rfl ?_
    obtain ⟨hi4, h⟩ := kx_ck_some h
    refine kx_q_aald rfl hi4 ?_
    refine kx_go (pc' := 43) (L' := [some (.ref 0), some (.int x1), some (.int x2), some (.int x3), some (.int v1), none]) (st' := [.int x2, .ref (26 + 2 * (x1).toNatClampNeg), .ref 0]) 1 rfl ?_
    obtain ⟨v5, hv6, h⟩ := kx_bn_some h
    refine kx_q_callV (as := [.ref (26 + 2 * (x1).toNatClampNeg), .int x2]) (rest := []) (M1 := M) (rv := some (.int v5)) kxo_0 rfl klk_X4_287 kse_X4_firstWrong rfl rfl rfl rfl (Nat.le_of_ble_eq_true rfl) (Nat.le_of_ble_eq_true rfl) (c_X4_firstWrong (d := d + 3) (26 + 2 * (x1).toNatClampNeg) ((kxs_in hi4)) x2 M v5 hv6) ?_
    show kx_Rn _ _ _ (46, [some (.ref 0), some (.int x1), some (.int x2), some (.int x3), some (.int v1), none], [.int v5], M) _ _
    refine kx_go (pc' := 47) (L' := [some (.ref 0), some (.int x1), some (.int x2), some (.int x3), some (.int v1), none]) (st' := [.int (-1 : Int32), .int v5]) 1 rfl ?_
    refine kx_r_icmp_eq rfl (fun hc7 => ?_) (fun hc7 => ?_)
    · rw [if_pos hc7] at h
      refine kx_wk [true, true, true, true, true, false] ?_
      exact t_X4_behind_54 x1 x2 x3 v1 M h
    · rw [if_neg hc7] at h
      refine kx_go (pc' := 54) (L' := [some (.ref 0), some (.int x1), some (.int x2), some (.int x3), some (.int (-5 : Int32)), none]) (st' := []) 2 rfl ?_
      refine kx_wk [true, true, true, true, true, false] ?_
      exact t_X4_behind_54 x1 x2 x3 (-5 : Int32) M h
set_option maxRecDepth 100000 in
set_option maxHeartbeats 4000000 in
theorem t_X4_behind {d : Nat} {r : Int32} {M' : kx_M} (a0 : Int32) (a1 : Int32) (a2 : Int32) (M : kx_M) (h : f_X4_behind a0 a1 a2 M = some (r, M')) : kx_Rn EX T_X4_behind (d + 5) (0, [some (.ref 0), some (.int a0), some (.int a1), some (.int a2), none, none], [], M) (some (.int r)) M' := by
  unfold f_X4_behind at h
  refine kx_go (pc' := 6) (L' := [some (.ref 0), some (.int a0), some (.int a1), some (.int a2), none, none]) (st' := [.int (40 : Int32), .int (0 : Int32), .int a1, .int a0, .ref 0]) 5 rfl ?_
  refine kx_r_callS (as := [.int a1, .int (0 : Int32), .int (40 : Int32)]) (rest := [.int a0, .ref 0]) (M1 := M) (rv := some (.int (kx_bi (f_X4_isWithin a1 (0 : Int32) (40 : Int32))))) rfl klk_X4_55 kst_X4_isWithin rfl rfl (Nat.le_of_ble_eq_true rfl) (Nat.le_of_ble_eq_true rfl) (c_X4_isWithin (d := d + 4) a1 (0 : Int32) (40 : Int32) M (f_X4_isWithin a1 (0 : Int32) (40 : Int32)) rfl) ?_
  show kx_Rn _ _ _ (9, [some (.ref 0), some (.int a0), some (.int a1), some (.int a2), none, none], [.int (kx_bi (f_X4_isWithin a1 (0 : Int32) (40 : Int32))), .int a0, .ref 0], M) _ _
  refine kx_q_zeq rfl (fun hc1 => ?_) (fun hc1 => ?_)
  · rw [if_neg hc1] at h
    refine kx_go (pc' := 24) (L' := [some (.ref 0), some (.int a0), some (.int a1), some (.int a2), none, none]) (st' := [.int (0 : Int32), .int a0, .ref 0]) 1 rfl ?_
    refine kx_wk [true, true, true, true, false, false] ?_
    exact t_X4_behind_24 a0 a1 a2 false a0 M h
  · rw [if_pos hc1] at h
    refine kx_go (pc' := 13) (L' := [some (.ref 0), some (.int a0), some (.int a1), some (.int a2), none, none]) (st' := [.int a2, .int a0, .ref 0]) 1 rfl ?_
    refine kx_r_callS (as := [.int a2]) (rest := [.int a0, .ref 0]) (M1 := M) (rv := some (.int (kx_bi (f_X4_isOneOfTwo a2)))) rfl klk_X4_152 kst_X4_isOneOfTwo rfl rfl (Nat.le_of_ble_eq_true rfl) (Nat.le_of_ble_eq_true rfl) (c_X4_isOneOfTwo (d := d + 4) a2 M (f_X4_isOneOfTwo a2) rfl) ?_
    show kx_Rn _ _ _ (16, [some (.ref 0), some (.int a0), some (.int a1), some (.int a2), none, none], [.int (kx_bi (f_X4_isOneOfTwo a2)), .int a0, .ref 0], M) _ _
    refine kx_q_zeq rfl (fun hc2 => ?_) (fun hc2 => ?_)
    · rw [if_neg hc2] at h
      refine kx_go (pc' := 24) (L' := [some (.ref 0), some (.int a0), some (.int a1), some (.int a2), none, none]) (st' := [.int (0 : Int32), .int a0, .ref 0]) 1 rfl ?_
      refine kx_wk [true, true, true, true, false, false] ?_
      exact t_X4_behind_24 a0 a1 a2 false a0 M h
    · rw [if_pos hc2] at h
      refine kx_go (pc' := 20) (L' := [some (.ref 0), some (.int a0), some (.int a1), some (.int a2), none, none]) (st' := [.int (1 : Int32), .int a0, .ref 0]) 1 rfl ?_
      refine kx_r_goto rfl ?_
      refine kx_wk [true, true, true, true, false, false] ?_
      exact t_X4_behind_24 a0 a1 a2 true a0 M h
theorem c_X4_behind {d : Nat} (a0 : Int32) (a1 : Int32) (a2 : Int32) (M : kx_M) (r : Int32) (M' : kx_M) (h : f_X4_behind a0 a1 a2 M = some (r, M')) : kx_Call EX (d + 5) T_X4_behind [.ref 0, .int a0, .int a1, .int a2] M (some (.int r)) M' := kx_entry kok_X4_behind (Nat.le_of_ble_eq_true rfl) rfl (t_X4_behind (d := d) a0 a1 a2 M h)
set_option maxRecDepth 100000 in
set_option maxHeartbeats 4000000 in
theorem t_X4_visit {d : Nat} {r : Int32} {M' : kx_M} (a0 : Int32) (M : kx_M) (h : f_X4_visit a0 M = some (r, M')) : kx_Rn EX T_X4_visit (d + 6) (0, [some (.ref 0), some (.int a0), none], [], M) (some (.int r)) M' := by
  unfold f_X4_visit at h
  refine kx_go (pc' := 1) (L' := [some (.ref 0), some (.int a0), none]) (st' := [.ref 0]) 1 rfl ?_
  refine kx_q_getR (k := 0) (j := 1) kxo_0 rfl kfl_X4_10 rfl ?_
  refine kx_go (pc' := 5) (L' := [some (.ref 0), some (.int a0), none]) (st' := [.int a0, .ref 1]) 1 rfl ?_
  refine kx_q_callV (as := [.int a0]) (rest := []) (M1 := M) (rv := some (.int (kx_bi (f_X0_canVisit 1 M a0)))) kxl_1.1 rfl klk_X4_209 kse_X0_canVisit rfl rfl rfl rfl (Nat.le_of_ble_eq_true rfl) (Nat.le_of_ble_eq_true rfl) (c_X0_canVisit (d := d + 4) 1 (kxl_1) a0 M (f_X0_canVisit 1 M a0) rfl) ?_
  show kx_Rn _ _ _ (8, [some (.ref 0), some (.int a0), none], [.int (kx_bi (f_X0_canVisit 1 M a0))], M) _ _
  refine kx_q_zne rfl (fun hc1 => ?_) (fun hc1 => ?_)
  · rw [if_pos hc1] at h
    refine kx_go (pc' := 19) (L' := [some (.ref 0), some (.int a0), none]) (st' := [.ref 0]) 1 rfl ?_
    refine kx_q_getR (k := 0) (j := 1) kxo_0 rfl kfl_X4_10 rfl ?_
    refine kx_go (pc' := 23) (L' := [some (.ref 0), some (.int a0), none]) (st' := [.int a0, .ref 1]) 1 rfl ?_
    obtain ⟨v2, hv3, h⟩ := kx_bn_some h
    refine kx_q_callV (as := [.int a0]) (rest := []) (M1 := M) (rv := some (.int v2)) kxl_1.1 rfl klk_X4_206 kse_X0_newBy rfl rfl rfl rfl (Nat.le_of_ble_eq_true rfl) (Nat.le_of_ble_eq_true rfl) (c_X0_newBy (d := d + 0) 1 (kxl_1) a0 M v2 hv3) ?_
    show kx_Rn _ _ _ (26, [some (.ref 0), some (.int a0), none], [.int v2], M) _ _
    refine kx_go (pc' := 28) (L' := [some (.ref 0), some (.int a0), some (.int v2)]) (st' := [.ref 0]) 2 rfl ?_
    refine kx_q_getR (k := 0) (j := 1) kxo_0 rfl kfl_X4_10 rfl ?_
    refine kx_go (pc' := 32) (L' := [some (.ref 0), some (.int a0), some (.int v2)]) (st' := [.int a0, .ref 1]) 1 rfl ?_
    obtain ⟨M6, hv5, h⟩ := kx_bn_some h
    refine kx_q_callV (as := [.int a0]) (rest := []) (M1 := M6) (rv := none) kxl_1.1 rfl klk_X4_278 kse_X0_goTogether rfl rfl rfl rfl (Nat.le_of_ble_eq_true rfl) (Nat.le_of_ble_eq_true rfl) (c_X0_goTogether (d := d + 1) 1 (kxl_1) a0 M M6 hv5) ?_
    show kx_Rn _ _ _ (35, [some (.ref 0), some (.int a0), some (.int v2)], [], M6) _ _
    refine kx_go (pc' := 36) (L' := [some (.ref 0), some (.int a0), some (.int v2)]) (st' := [.int v2]) 1 rfl ?_
    cases h
    exact kx_r_iret rfl rfl
  · rw [if_neg hc1] at h
    refine kx_go (pc' := 14) (L' := [some (.ref 0), some (.int a0), none]) (st' := [.int (-2 : Int32), .ref 0]) 2 rfl ?_
    obtain ⟨v7, M9, hv8, h⟩ := kx_bd_some h
    refine kx_q_callV (as := [.int (-2 : Int32)]) (rest := []) (M1 := M9) (rv := some (.int v7)) kxo_0 rfl klk_X4_59 kse_X4_refuse rfl rfl rfl rfl (Nat.le_of_ble_eq_true rfl) (Nat.le_of_ble_eq_true rfl) (c_X4_refuse (d := d + 4) (-2 : Int32) M v7 M9 hv8) ?_
    show kx_Rn _ _ _ (17, [some (.ref 0), some (.int a0), none], [.int v7], M9) _ _
    cases h
    exact kx_r_iret rfl rfl
theorem c_X4_visit {d : Nat} (a0 : Int32) (M : kx_M) (r : Int32) (M' : kx_M) (h : f_X4_visit a0 M = some (r, M')) : kx_Call EX (d + 6) T_X4_visit [.ref 0, .int a0] M (some (.int r)) M' := kx_entry kok_X4_visit (Nat.le_of_ble_eq_true rfl) rfl (t_X4_visit (d := d) a0 M h)
set_option maxRecDepth 100000 in
set_option maxHeartbeats 4000000 in
theorem t_X4_days_21 {d : Nat} {r : Int32} {M' : kx_M} : ∀ (n : Nat) (x1 : Int32) (x2 : Int32) (x3 : Int32) (M : kx_M), f_X4_days_21 n x1 x2 x3 M = some (r, M') → kx_Rn EX T_X4_days (d + 7) (21, [some (.ref 0), some (.int x1), some (.int x2), some (.int x3)], [], M) (some (.int r)) M' := by
  intro n
  induction n with
  | zero =>
    intro x1 x2 x3 M h
    cases (show (none : Option (Int32 × kx_M)) = some _ from h)
  | succ n ih =>
    intro x1 x2 x3 M h
    rw [f_X4_days_21.eq_2] at h
    refine kx_go (pc' := 23) (L' := [some (.ref 0), some (.int x1), some (.int x2), some (.int x3)]) (st' := [.int x1, .int x3]) 2 rfl ?_
    refine kx_r_icmp_ge rfl (fun hc1 => ?_) (fun hc1 => ?_)
    · rw [if_pos hc1] at h
      refine kx_go (pc' := 43) (L' := [some (.ref 0), some (.int x1), some (.int x2), some (.int x3)]) (st' := [.int x2]) 1 rfl ?_
      cases h
      exact kx_r_iret rfl rfl
    · rw [if_neg hc1] at h
      refine kx_go (pc' := 28) (L' := [some (.ref 0), some (.int x1), some (.int x2), some (.int x3)]) (st' := [.ref 0, .int x2]) 2 rfl ?_
      refine kx_q_getR (k := 0) (j := 1) kxo_0 rfl kfl_X4_10 rfl ?_
      obtain ⟨v2, M4, hv3, h⟩ := kx_bd_some h
      refine kx_q_callV (as := []) (rest := [.int x2]) (M1 := M4) (rv := some (.int v2)) kxl_1.1 rfl klk_X4_291 kse_X0_dayByDraws rfl rfl rfl rfl (Nat.le_of_ble_eq_true rfl) (Nat.le_of_ble_eq_true rfl) (c_X0_dayByDraws (d := d + 0) 1 (kxl_1) M v2 M4 hv3) ?_
      show kx_Rn _ _ _ (34, [some (.ref 0), some (.int x1), some (.int x2), some (.int x3)], [.int v2, .int x2], M4) _ _
      refine kx_go (pc' := 39) (L' := [some (.ref 0), some (.int x1), some (.int (x2 + v2)), some (.int (x3 + (1)))]) (st' := []) 3 rfl ?_
      refine kx_r_goto rfl ?_
      refine kx_wk [true, true, true, true] ?_
      exact ih x1 (x2 + v2) (x3 + (1)) M4 h
set_option maxRecDepth 100000 in
set_option maxHeartbeats 4000000 in
theorem t_X4_days {d : Nat} {r : Int32} {M' : kx_M} (a0 : Int32) (M : kx_M) (h : f_X4_days a0 M = some (r, M')) : kx_Rn EX T_X4_days (d + 7) (0, [some (.ref 0), some (.int a0), none, none], [], M) (some (.int r)) M' := by
  unfold f_X4_days at h
  refine kx_go (pc' := 4) (L' := [some (.ref 0), some (.int a0), none, none]) (st' := [.int (60 : Int32), .int (1 : Int32), .int a0]) 3 rfl ?_
  refine kx_r_callS (as := [.int a0, .int (1 : Int32), .int (60 : Int32)]) (rest := []) (M1 := M) (rv := some (.int (kx_bi (f_X4_isWithin a0 (1 : Int32) (60 : Int32))))) rfl klk_X4_55 kst_X4_isWithin rfl rfl (Nat.le_of_ble_eq_true rfl) (Nat.le_of_ble_eq_true rfl) (c_X4_isWithin (d := d + 6) a0 (1 : Int32) (60 : Int32) M (f_X4_isWithin a0 (1 : Int32) (60 : Int32)) rfl) ?_
  show kx_Rn _ _ _ (7, [some (.ref 0), some (.int a0), none, none], [.int (kx_bi (f_X4_isWithin a0 (1 : Int32) (60 : Int32)))], M) _ _
  refine kx_q_zne rfl (fun hc1 => ?_) (fun hc1 => ?_)
  · rw [if_pos hc1] at h
    refine kx_go (pc' := 21) (L' := [some (.ref 0), some (.int a0), some (.int (0 : Int32)), some (.int (0 : Int32))]) (st' := []) 4 rfl ?_
    refine kx_wk [true, true, true, true] ?_
    exact t_X4_days_21 kx_fuel a0 (0 : Int32) (0 : Int32) M h
  · rw [if_neg hc1] at h
    refine kx_go (pc' := 13) (L' := [some (.ref 0), some (.int a0), none, none]) (st' := [.int (-2 : Int32), .ref 0]) 2 rfl ?_
    obtain ⟨v2, M4, hv3, h⟩ := kx_bd_some h
    refine kx_q_callV (as := [.int (-2 : Int32)]) (rest := []) (M1 := M4) (rv := some (.int v2)) kxo_0 rfl klk_X4_59 kse_X4_refuse rfl rfl rfl rfl (Nat.le_of_ble_eq_true rfl) (Nat.le_of_ble_eq_true rfl) (c_X4_refuse (d := d + 5) (-2 : Int32) M v2 M4 hv3) ?_
    show kx_Rn _ _ _ (16, [some (.ref 0), some (.int a0), none, none], [.int v2], M4) _ _
    cases h
    exact kx_r_iret rfl rfl
theorem c_X4_days {d : Nat} (a0 : Int32) (M : kx_M) (r : Int32) (M' : kx_M) (h : f_X4_days a0 M = some (r, M')) : kx_Call EX (d + 7) T_X4_days [.ref 0, .int a0] M (some (.int r)) M' := kx_entry kok_X4_days (Nat.le_of_ble_eq_true rfl) rfl (t_X4_days (d := d) a0 M h)
set_option maxRecDepth 100000 in
set_option maxHeartbeats 4000000 in
theorem t_X4_seed {d : Nat} {r : Int32} {M' : kx_M} (a0 : Int32) (M : kx_M) (h : f_X4_seed a0 M = some (r, M')) : kx_Rn EX T_X4_seed (d + 0) (0, [some (.ref 0), some (.int a0), none], [], M) (some (.int r)) M' := by
  unfold f_X4_seed at h
  refine kx_go (pc' := 1) (L' := [some (.ref 0), some (.int a0), none]) (st' := [.ref 0]) 1 rfl ?_
  refine kx_q_getR (k := 0) (j := 1) kxo_0 rfl kfl_X4_10 rfl ?_
  refine kx_q_getI (k := 10) kxl_1.1 rfl kfl_X4_294 rfl ?_
  refine kx_go (pc' := 9) (L' := [some (.ref 0), some (.int a0), some (.int (M.1 1 10))]) (st' := [.ref 0]) 2 rfl ?_
  refine kx_q_getR (k := 0) (j := 1) kxo_0 rfl kfl_X4_10 rfl ?_
  refine kx_go (pc' := 13) (L' := [some (.ref 0), some (.int a0), some (.int (M.1 1 10))]) (st' := [.int a0, .ref 1]) 1 rfl ?_
  refine kx_q_putI (k := 10) kxl_1.1 rfl kfw_X4_294 rfl ?_
  refine kx_go (pc' := 17) (L' := [some (.ref 0), some (.int a0), some (.int (M.1 1 10))]) (st' := [.int (M.1 1 10)]) 1 rfl ?_
  cases h
  exact kx_r_iret rfl rfl
theorem c_X4_seed {d : Nat} (a0 : Int32) (M : kx_M) (r : Int32) (M' : kx_M) (h : f_X4_seed a0 M = some (r, M')) : kx_Call EX (d + 0) T_X4_seed [.ref 0, .int a0] M (some (.int r)) M' := kx_entry kok_X4_seed (Nat.le_of_ble_eq_true rfl) rfl (t_X4_seed (d := d) a0 M h)
set_option maxRecDepth 100000 in
set_option maxHeartbeats 4000000 in
theorem t_X4_image {d : Nat} {r : Int32} {M' : kx_M} (M : kx_M) (h : f_X4_image M = some (r, M')) : kx_Rn EX T_X4_image (d + 2) (0, [some (.ref 0)], [], M) (some (.int r)) M' := by
  unfold f_X4_image at h
  refine kx_go (pc' := 1) (L' := [some (.ref 0)]) (st' := [.ref 0]) 1 rfl ?_
  refine kx_q_getR (k := 1) (j := 9) kxo_0 rfl kfl_X4_16 rfl ?_
  refine kx_go (pc' := 5) (L' := [some (.ref 0)]) (st' := [.ref 0, .ref 9]) 1 rfl ?_
  refine kx_q_getR (k := 0) (j := 1) kxo_0 rfl kfl_X4_10 rfl ?_
  obtain ⟨M3, hv2, h⟩ := kx_bn_some h
  refine kx_q_callV (as := [.ref 1]) (rest := []) (M1 := M3) (rv := none) kxl_9.1 rfl klk_X4_172 kse_X0_takeFrom rfl rfl rfl rfl (Nat.le_of_ble_eq_true rfl) (Nat.le_of_ble_eq_true rfl) (c_X0_takeFrom (d := d + 0) 9 (kxl_9) 1 (kxl_1) M M3 hv2) ?_
  show kx_Rn _ _ _ (11, [some (.ref 0)], [], M3) _ _
  refine kx_go (pc' := 13) (L' := [some (.ref 0)]) (st' := [.int (1 : Int32), .ref 0]) 2 rfl ?_
  refine kx_q_putZ (k := 7) kxo_0 rfl kfw_X4_47 (Or.inr rfl) rfl ?_
  refine kx_go (pc' := 17) (L' := [some (.ref 0)]) (st' := [.int (1 : Int32)]) 1 rfl ?_
  cases h
  exact kx_r_iret rfl rfl
theorem c_X4_image {d : Nat} (M : kx_M) (r : Int32) (M' : kx_M) (h : f_X4_image M = some (r, M')) : kx_Call EX (d + 2) T_X4_image [.ref 0] M (some (.int r)) M' := kx_entry kok_X4_image (Nat.le_of_ble_eq_true rfl) rfl (t_X4_image (d := d) M h)
set_option maxRecDepth 100000 in
set_option maxHeartbeats 4000000 in
theorem t_X4_back_27 {d : Nat} {r : Int32} {M' : kx_M} : ∀ (n : Nat) (x1 : Int32) (M : kx_M), f_X4_back_27 n x1 M = some (r, M') → kx_Rn EX T_X4_back (d + 2) (27, [some (.ref 0), some (.int x1), none], [], M) (some (.int r)) M' := by
  intro n
  induction n with
  | zero =>
    intro x1 M h
    cases (show (none : Option (Int32 × kx_M)) = some _ from h)
  | succ n ih =>
    intro x1 M h
    rw [f_X4_back_27.eq_2] at h
    refine kx_go (pc' := 30) (L' := [some (.ref 0), some (.int x1), none]) (st' := [.int (8 : Int32), .int x1]) 2 rfl ?_
    refine kx_r_icmp_ge rfl (fun hc1 => ?_) (fun hc1 => ?_)
    · rw [if_pos hc1] at h
      refine kx_go (pc' := 76) (L' := [some (.ref 0), some (.int x1), none]) (st' := [.int (1 : Int32)]) 1 rfl ?_
      cases h
      exact kx_r_iret rfl rfl
    · rw [if_neg hc1] at h
      refine kx_go (pc' := 34) (L' := [some (.ref 0), some (.int x1), none]) (st' := [.ref 0]) 1 rfl ?_
      refine kx_q_getR (k := 3) (j := 25) kxo_0 rfl kfl_X4_24 rfl ?_
      refine kx_go (pc' := 38) (L' := [some (.ref 0), some (.int x1), none]) (st' := [.int x1, .ref 25]) 1 rfl ?_
      obtain ⟨hi2, h⟩ := kx_ck_some h
      refine kx_q_aald rfl hi2 ?_
      refine kx_go (pc' := 41) (L' := [some (.ref 0), some (.int x1), some (.ref (26 + 2 * (x1).toNatClampNeg))]) (st' := [.ref (26 + 2 * (x1).toNatClampNeg)]) 2 rfl ?_
      refine kx_q_callV (as := []) (rest := []) (M1 := M) (rv := some (.int (kx_bi (f_X2_holdsVisitor (26 + 2 * (x1).toNatClampNeg) M)))) (kxs_in hi2).1 rfl klk_X4_110 kse_X2_holdsVisitor rfl rfl rfl rfl (Nat.le_of_ble_eq_true rfl) (Nat.le_of_ble_eq_true rfl) (c_X2_holdsVisitor (d := d + 1) (26 + 2 * (x1).toNatClampNeg) ((kxs_in hi2)) M (f_X2_holdsVisitor (26 + 2 * (x1).toNatClampNeg) M) rfl) ?_
      show kx_Rn _ _ _ (44, [some (.ref 0), some (.int x1), some (.ref (26 + 2 * (x1).toNatClampNeg))], [.int (kx_bi (f_X2_holdsVisitor (26 + 2 * (x1).toNatClampNeg) M))], M) _ _
      refine kx_q_zeq rfl (fun hc3 => ?_) (fun hc3 => ?_)
      · rw [if_neg hc3] at h
        refine kx_go (pc' := 72) (L' := [some (.ref 0), some (.int (x1 + (1))), some (.ref (26 + 2 * (x1).toNatClampNeg))]) (st' := []) 1 rfl ?_
        refine kx_r_goto rfl ?_
        refine kx_wk [true, true, false] ?_
        exact ih (x1 + (1)) M h
      · rw [if_pos hc3] at h
        refine kx_go (pc' := 48) (L' := [some (.ref 0), some (.int x1), some (.ref (26 + 2 * (x1).toNatClampNeg))]) (st' := [.ref 0]) 1 rfl ?_
        refine kx_q_getR (k := 0) (j := 1) kxo_0 rfl kfl_X4_10 rfl ?_
        refine kx_go (pc' := 52) (L' := [some (.ref 0), some (.int x1), some (.ref (26 + 2 * (x1).toNatClampNeg))]) (st' := [.ref (26 + 2 * (x1).toNatClampNeg), .ref 1]) 1 rfl ?_
        refine kx_q_getI (k := 2) (kxs_in hi2).1 rfl kfl_X4_101 rfl ?_
        refine kx_go (pc' := 58) (L' := [some (.ref 0), some (.int x1), some (.ref (26 + 2 * (x1).toNatClampNeg))]) (st' := [.int ((M.1 (26 + 2 * (x1).toNatClampNeg) 2) - (10 : Int32)), .ref 1]) 2 rfl ?_
        refine kx_q_callV (as := [.int ((M.1 (26 + 2 * (x1).toNatClampNeg) 2) - (10 : Int32))]) (rest := []) (M1 := M) (rv := some (.int (kx_bi (f_X0_hasVisitor 1 M ((M.1 (26 + 2 * (x1).toNatClampNeg) 2) - (10 : Int32)))))) kxl_1.1 rfl klk_X4_104 kse_X0_hasVisitor rfl rfl rfl rfl (Nat.le_of_ble_eq_true rfl) (Nat.le_of_ble_eq_true rfl) (c_X0_hasVisitor (d := d + 0) 1 (kxl_1) ((M.1 (26 + 2 * (x1).toNatClampNeg) 2) - (10 : Int32)) M (f_X0_hasVisitor 1 M ((M.1 (26 + 2 * (x1).toNatClampNeg) 2) - (10 : Int32))) rfl) ?_
        show kx_Rn _ _ _ (61, [some (.ref 0), some (.int x1), some (.ref (26 + 2 * (x1).toNatClampNeg))], [.int (kx_bi (f_X0_hasVisitor 1 M ((M.1 (26 + 2 * (x1).toNatClampNeg) 2) - (10 : Int32))))], M) _ _
        refine kx_q_zne rfl (fun hc4 => ?_) (fun hc4 => ?_)
        · rw [if_pos hc4] at h
          refine kx_go (pc' := 72) (L' := [some (.ref 0), some (.int (x1 + (1))), some (.ref (26 + 2 * (x1).toNatClampNeg))]) (st' := []) 1 rfl ?_
          refine kx_r_goto rfl ?_
          refine kx_wk [true, true, false] ?_
          exact ih (x1 + (1)) M h
        · rw [if_neg hc4] at h
          refine kx_go (pc' := 66) (L' := [some (.ref 0), some (.int x1), some (.ref (26 + 2 * (x1).toNatClampNeg))]) (st' := [.int (-1 : Int32), .ref (26 + 2 * (x1).toNatClampNeg)]) 2 rfl ?_
          refine kx_q_putI (k := 2) (kxs_in hi2).1 rfl kfw_X4_101 rfl ?_
          refine kx_go (pc' := 72) (L' := [some (.ref 0), some (.int (x1 + (1))), some (.ref (26 + 2 * (x1).toNatClampNeg))]) (st' := []) 1 rfl ?_
          refine kx_r_goto rfl ?_
          refine kx_wk [true, true, false] ?_
          exact ih (x1 + (1)) (kx_u1 M (26 + 2 * (x1).toNatClampNeg) 2 (-1 : Int32)) h
set_option maxRecDepth 100000 in
set_option maxHeartbeats 4000000 in
theorem t_X4_back {d : Nat} {r : Int32} {M' : kx_M} (M : kx_M) (h : f_X4_back M = some (r, M')) : kx_Rn EX T_X4_back (d + 2) (0, [some (.ref 0), none, none], [], M) (some (.int r)) M' := by
  unfold f_X4_back at h
  refine kx_go (pc' := 1) (L' := [some (.ref 0), none, none]) (st' := [.ref 0]) 1 rfl ?_
  refine kx_q_getI (k := 7) kxo_0 rfl kfl_X4_47 rfl ?_
  refine kx_r_if_ne rfl (fun hc1 => ?_) (fun hc1 => ?_)
  · rw [if_neg hc1] at h
    refine kx_go (pc' := 15) (L' := [some (.ref 0), none, none]) (st' := [.ref 0]) 1 rfl ?_
    refine kx_q_getR (k := 0) (j := 1) kxo_0 rfl kfl_X4_10 rfl ?_
    refine kx_go (pc' := 19) (L' := [some (.ref 0), none, none]) (st' := [.ref 0, .ref 1]) 1 rfl ?_
    refine kx_q_getR (k := 1) (j := 9) kxo_0 rfl kfl_X4_16 rfl ?_
    obtain ⟨M4, hv3, h⟩ := kx_bn_some h
    refine kx_q_callV (as := [.ref 9]) (rest := []) (M1 := M4) (rv := none) kxl_1.1 rfl klk_X4_172 kse_X0_takeFrom rfl rfl rfl rfl (Nat.le_of_ble_eq_true rfl) (Nat.le_of_ble_eq_true rfl) (c_X0_takeFrom (d := d + 0) 1 (kxl_1) 9 (kxl_9) M M4 hv3) ?_
    show kx_Rn _ _ _ (25, [some (.ref 0), none, none], [], M4) _ _
    refine kx_go (pc' := 27) (L' := [some (.ref 0), some (.int (0 : Int32)), none]) (st' := []) 2 rfl ?_
    refine kx_wk [true, true, false] ?_
    exact t_X4_back_27 kx_fuel (0 : Int32) M4 h
  · rw [if_pos hc1] at h
    refine kx_go (pc' := 10) (L' := [some (.ref 0), none, none]) (st' := [.int (-5 : Int32), .ref 0]) 2 rfl ?_
    obtain ⟨v5, M7, hv6, h⟩ := kx_bd_some h
    refine kx_q_callV (as := [.int (-5 : Int32)]) (rest := []) (M1 := M7) (rv := some (.int v5)) kxo_0 rfl klk_X4_59 kse_X4_refuse rfl rfl rfl rfl (Nat.le_of_ble_eq_true rfl) (Nat.le_of_ble_eq_true rfl) (c_X4_refuse (d := d + 0) (-5 : Int32) M v5 M7 hv6) ?_
    show kx_Rn _ _ _ (13, [some (.ref 0), none, none], [.int v5], M7) _ _
    cases h
    exact kx_r_iret rfl rfl
theorem c_X4_back {d : Nat} (M : kx_M) (r : Int32) (M' : kx_M) (h : f_X4_back M = some (r, M')) : kx_Call EX (d + 2) T_X4_back [.ref 0] M (some (.int r)) M' := kx_entry kok_X4_back (Nat.le_of_ble_eq_true rfl) rfl (t_X4_back (d := d) M h)
set_option maxRecDepth 100000 in
set_option maxHeartbeats 4000000 in
theorem t_X4_shelvesInUse_4 {d : Nat} {r : Int32} (M : kx_M) : ∀ (n : Nat) (x1 : Int32) (x2 : Int32), f_X4_shelvesInUse_4 M n x1 x2 = some r → kx_Rn EX T_X4_shelvesInUse (d + 0) (4, [some (.ref 0), some (.int x1), some (.int x2)], [], M) (some (.int r)) M := by
  intro n
  induction n with
  | zero =>
    intro x1 x2 h
    cases (show (none : Option Int32) = some _ from h)
  | succ n ih =>
    intro x1 x2 h
    rw [f_X4_shelvesInUse_4.eq_2] at h
    refine kx_go (pc' := 7) (L' := [some (.ref 0), some (.int x1), some (.int x2)]) (st' := [.int (8 : Int32), .int x2]) 2 rfl ?_
    refine kx_r_icmp_ge rfl (fun hc1 => ?_) (fun hc1 => ?_)
    · rw [if_pos hc1] at h
      refine kx_go (pc' := 33) (L' := [some (.ref 0), some (.int x1), some (.int x2)]) (st' := [.int x1]) 1 rfl ?_
      cases h
      exact kx_r_iret rfl rfl
    · rw [if_neg hc1] at h
      refine kx_go (pc' := 11) (L' := [some (.ref 0), some (.int x1), some (.int x2)]) (st' := [.ref 0]) 1 rfl ?_
      refine kx_q_getR (k := 3) (j := 25) kxo_0 rfl kfl_X4_24 rfl ?_
      refine kx_go (pc' := 15) (L' := [some (.ref 0), some (.int x1), some (.int x2)]) (st' := [.int x2, .ref 25]) 1 rfl ?_
      obtain ⟨hi2, h⟩ := kx_ck_some h
      refine kx_q_aald rfl hi2 ?_
      refine kx_q_getI (k := 2) (kxs_in hi2).1 rfl kfl_X4_101 rfl ?_
      refine kx_go (pc' := 20) (L' := [some (.ref 0), some (.int x1), some (.int x2)]) (st' := [.int (-1 : Int32), .int (M.1 (26 + 2 * (x2).toNatClampNeg) 2)]) 1 rfl ?_
      refine kx_r_icmp_eq rfl (fun hc3 => ?_) (fun hc3 => ?_)
      · rw [if_pos hc3] at h
        refine kx_go (pc' := 29) (L' := [some (.ref 0), some (.int x1), some (.int (x2 + (1)))]) (st' := []) 1 rfl ?_
        refine kx_r_goto rfl ?_
        refine kx_wk [true, true, true] ?_
        exact ih x1 (x2 + (1)) h
      · rw [if_neg hc3] at h
        refine kx_go (pc' := 29) (L' := [some (.ref 0), some (.int (x1 + (1))), some (.int (x2 + (1)))]) (st' := []) 2 rfl ?_
        refine kx_r_goto rfl ?_
        refine kx_wk [true, true, true] ?_
        exact ih (x1 + (1)) (x2 + (1)) h
set_option maxRecDepth 100000 in
set_option maxHeartbeats 4000000 in
theorem t_X4_shelvesInUse {d : Nat} {r : Int32} (M : kx_M) (h : f_X4_shelvesInUse M = some r) : kx_Rn EX T_X4_shelvesInUse (d + 0) (0, [some (.ref 0), none, none], [], M) (some (.int r)) M := by
  unfold f_X4_shelvesInUse at h
  refine kx_go (pc' := 4) (L' := [some (.ref 0), some (.int (0 : Int32)), some (.int (0 : Int32))]) (st' := []) 4 rfl ?_
  refine kx_wk [true, true, true] ?_
  exact t_X4_shelvesInUse_4 M kx_fuel (0 : Int32) (0 : Int32) h
theorem c_X4_shelvesInUse {d : Nat} (M : kx_M) (r : Int32) (h : f_X4_shelvesInUse M = some r) : kx_Call EX (d + 0) T_X4_shelvesInUse [.ref 0] M (some (.int r)) M := kx_entry kok_X4_shelvesInUse (Nat.le_of_ble_eq_true rfl) rfl (t_X4_shelvesInUse (d := d) M h)
set_option maxRecDepth 100000 in
set_option maxHeartbeats 4000000 in
theorem t_X4_status {d : Nat} {r : Int32} (M : kx_M) (a0 : Int32) (h : f_X4_status M a0 = some r) : kx_Rn EX T_X4_status (d + 2) (0, [some (.ref 0), some (.int a0)], [], M) (some (.int r)) M := by
  unfold f_X4_status at h
  refine kx_go (pc' := 5) (L' := [some (.ref 0), some (.int a0)]) (st' := [.int (16 : Int32), .int (12 : Int32), .int a0]) 3 rfl ?_
  refine kx_r_callS (as := [.int a0, .int (12 : Int32), .int (16 : Int32)]) (rest := []) (M1 := M) (rv := some (.int (kx_bi (f_X4_isWithin a0 (12 : Int32) (16 : Int32))))) rfl klk_X4_55 kst_X4_isWithin rfl rfl (Nat.le_of_ble_eq_true rfl) (Nat.le_of_ble_eq_true rfl) (c_X4_isWithin (d := d + 1) a0 (12 : Int32) (16 : Int32) M (f_X4_isWithin a0 (12 : Int32) (16 : Int32)) rfl) ?_
  show kx_Rn _ _ _ (8, [some (.ref 0), some (.int a0)], [.int (kx_bi (f_X4_isWithin a0 (12 : Int32) (16 : Int32)))], M) _ _
  refine kx_q_zeq rfl (fun hc1 => ?_) (fun hc1 => ?_)
  · rw [if_neg hc1] at h
    refine kx_go (pc' := 22) (L' := [some (.ref 0), some (.int a0)]) (st' := [.int a0]) 1 rfl ?_
    by_cases hc2 : a0 = (0 : Int32)
    · rw [if_pos hc2] at h
      refine kx_q_tsI (0 : Int32) (tgt := 68) (show decode T_X4_status.2.1 22 = .ok (.tableswitch 117 0 7 #[46, 54, 62, 70, 78, 96, 104, 112], 46) from by decide +kernel) hc2 (by decide) (by decide) rfl (by decide) ?_
      refine kx_go (pc' := 69) (L' := [some (.ref 0), some (.int a0)]) (st' := [.ref 0]) 1 rfl ?_
      refine kx_q_getR (k := 0) (j := 1) kxo_0 rfl kfl_X4_10 rfl ?_
      refine kx_q_getI (k := 11) kxl_1.1 rfl kfl_X4_146 rfl ?_
      cases h
      exact kx_r_iret rfl rfl
    · rw [if_neg hc2] at h
      by_cases hc3 : a0 = (1 : Int32)
      · rw [if_pos hc3] at h
        refine kx_q_tsI (1 : Int32) (tgt := 76) (show decode T_X4_status.2.1 22 = .ok (.tableswitch 117 0 7 #[46, 54, 62, 70, 78, 96, 104, 112], 46) from by decide +kernel) hc3 (by decide) (by decide) rfl (by decide) ?_
        refine kx_go (pc' := 77) (L' := [some (.ref 0), some (.int a0)]) (st' := [.ref 0]) 1 rfl ?_
        refine kx_q_getR (k := 0) (j := 1) kxo_0 rfl kfl_X4_10 rfl ?_
        refine kx_q_getI (k := 7) kxl_1.1 rfl kfl_X4_129 rfl ?_
        cases h
        exact kx_r_iret rfl rfl
      · rw [if_neg hc3] at h
        by_cases hc4 : a0 = (2 : Int32)
        · rw [if_pos hc4] at h
          refine kx_q_tsI (2 : Int32) (tgt := 84) (show decode T_X4_status.2.1 22 = .ok (.tableswitch 117 0 7 #[46, 54, 62, 70, 78, 96, 104, 112], 46) from by decide +kernel) hc4 (by decide) (by decide) rfl (by decide) ?_
          refine kx_go (pc' := 85) (L' := [some (.ref 0), some (.int a0)]) (st' := [.ref 0]) 1 rfl ?_
          refine kx_q_getR (k := 0) (j := 1) kxo_0 rfl kfl_X4_10 rfl ?_
          refine kx_q_getI (k := 8) kxl_1.1 rfl kfl_X4_122 rfl ?_
          cases h
          exact kx_r_iret rfl rfl
        · rw [if_neg hc4] at h
          by_cases hc5 : a0 = (3 : Int32)
          · rw [if_pos hc5] at h
            refine kx_q_tsI (3 : Int32) (tgt := 92) (show decode T_X4_status.2.1 22 = .ok (.tableswitch 117 0 7 #[46, 54, 62, 70, 78, 96, 104, 112], 46) from by decide +kernel) hc5 (by decide) (by decide) rfl (by decide) ?_
            refine kx_go (pc' := 93) (L' := [some (.ref 0), some (.int a0)]) (st' := [.ref 0]) 1 rfl ?_
            refine kx_q_getR (k := 0) (j := 1) kxo_0 rfl kfl_X4_10 rfl ?_
            refine kx_q_getI (k := 9) kxl_1.1 rfl kfl_X4_164 rfl ?_
            cases h
            exact kx_r_iret rfl rfl
          · rw [if_neg hc5] at h
            by_cases hc6 : a0 = (4 : Int32)
            · rw [if_pos hc6] at h
              refine kx_q_tsI (4 : Int32) (tgt := 100) (show decode T_X4_status.2.1 22 = .ok (.tableswitch 117 0 7 #[46, 54, 62, 70, 78, 96, 104, 112], 46) from by decide +kernel) hc6 (by decide) (by decide) rfl (by decide) ?_
              refine kx_go (pc' := 101) (L' := [some (.ref 0), some (.int a0)]) (st' := [.ref 0]) 1 rfl ?_
              refine kx_q_getR (k := 0) (j := 1) kxo_0 rfl kfl_X4_10 rfl ?_
              refine kx_go (pc' := 105) (L' := [some (.ref 0), some (.int a0)]) (st' := [.ref 0, .ref 1]) 1 rfl ?_
              refine kx_q_getR (k := 0) (j := 1) kxo_0 rfl kfl_X4_10 rfl ?_
              refine kx_q_callV (as := []) (rest := [.ref 1]) (M1 := M) (rv := some (.int (f_X0_all 1 M))) kxl_1.1 rfl klk_X4_215 kse_X0_all rfl rfl rfl rfl (Nat.le_of_ble_eq_true rfl) (Nat.le_of_ble_eq_true rfl) (c_X0_all (d := d + 1) 1 (kxl_1) M (f_X0_all 1 M) rfl) ?_
              show kx_Rn _ _ _ (111, [some (.ref 0), some (.int a0)], [.int (f_X0_all 1 M), .ref 1], M) _ _
              obtain ⟨v7, hv8, h⟩ := kx_bn_some h
              refine kx_q_callV (as := [.int (f_X0_all 1 M)]) (rest := []) (M1 := M) (rv := some (.int v7)) kxl_1.1 rfl klk_X4_203 kse_X0_knownBy rfl rfl rfl rfl (Nat.le_of_ble_eq_true rfl) (Nat.le_of_ble_eq_true rfl) (c_X0_knownBy (d := d + 0) 1 (kxl_1) (f_X0_all 1 M) M v7 hv8) ?_
              show kx_Rn _ _ _ (114, [some (.ref 0), some (.int a0)], [.int v7], M) _ _
              refine kx_r_callS (as := [.int v7]) (rest := []) (M1 := M) (rv := some (.int (f_J6_bitCount_0f7a4 v7))) rfl klk_X4_186 kst_J6_bitCount_0f7a4 rfl rfl (Nat.le_of_ble_eq_true rfl) (Nat.le_of_ble_eq_true rfl) (c_J6_bitCount_0f7a4 (d := d + 1) v7 M (f_J6_bitCount_0f7a4 v7) rfl) ?_
              show kx_Rn _ _ _ (117, [some (.ref 0), some (.int a0)], [.int (f_J6_bitCount_0f7a4 v7)], M) _ _
              cases h
              exact kx_r_iret rfl rfl
            · rw [if_neg hc6] at h
              by_cases hc9 : a0 = (5 : Int32)
              · rw [if_pos hc9] at h
                refine kx_q_tsI (5 : Int32) (tgt := 118) (show decode T_X4_status.2.1 22 = .ok (.tableswitch 117 0 7 #[46, 54, 62, 70, 78, 96, 104, 112], 46) from by decide +kernel) hc9 (by decide) (by decide) rfl (by decide) ?_
                refine kx_go (pc' := 119) (L' := [some (.ref 0), some (.int a0)]) (st' := [.ref 0]) 1 rfl ?_
                refine kx_q_getR (k := 4) (j := 42) kxo_0 rfl kfl_X4_32 rfl ?_
                refine kx_q_getI (k := 1) kxo_42 rfl kfl_X4_171 rfl ?_
                cases h
                exact kx_r_iret rfl rfl
              · rw [if_neg hc9] at h
                by_cases hc10 : a0 = (6 : Int32)
                · rw [if_pos hc10] at h
                  refine kx_q_tsI (6 : Int32) (tgt := 126) (show decode T_X4_status.2.1 22 = .ok (.tableswitch 117 0 7 #[46, 54, 62, 70, 78, 96, 104, 112], 46) from by decide +kernel) hc10 (by decide) (by decide) rfl (by decide) ?_
                  refine kx_go (pc' := 127) (L' := [some (.ref 0), some (.int a0)]) (st' := [.ref 0]) 1 rfl ?_
                  refine kx_q_getR (k := 0) (j := 1) kxo_0 rfl kfl_X4_10 rfl ?_
                  refine kx_q_getI (k := 10) kxl_1.1 rfl kfl_X4_294 rfl ?_
                  cases h
                  exact kx_r_iret rfl rfl
                · rw [if_neg hc10] at h
                  by_cases hc11 : a0 = (7 : Int32)
                  · rw [if_pos hc11] at h
                    refine kx_q_tsI (7 : Int32) (tgt := 134) (show decode T_X4_status.2.1 22 = .ok (.tableswitch 117 0 7 #[46, 54, 62, 70, 78, 96, 104, 112], 46) from by decide +kernel) hc11 (by decide) (by decide) rfl (by decide) ?_
                    refine kx_go (pc' := 135) (L' := [some (.ref 0), some (.int a0)]) (st' := [.ref 0]) 1 rfl ?_
                    obtain ⟨v12, hv13, h⟩ := kx_bn_some h
                    refine kx_q_callV (as := []) (rest := []) (M1 := M) (rv := some (.int v12)) kxo_0 rfl klk_X4_297 kse_X4_shelvesInUse rfl rfl rfl rfl (Nat.le_of_ble_eq_true rfl) (Nat.le_of_ble_eq_true rfl) (c_X4_shelvesInUse (d := d + 1) M v12 hv13) ?_
                    show kx_Rn _ _ _ (138, [some (.ref 0), some (.int a0)], [.int v12], M) _ _
                    cases h
                    exact kx_r_iret rfl rfl
                  · rw [if_neg hc11] at h
                    have ghc2 : ¬ (a0).toInt = 0 := fun q => hc2 (Int32.toInt_inj.mp (q.trans (by decide)))
                    have ghc3 : ¬ (a0).toInt = 1 := fun q => hc3 (Int32.toInt_inj.mp (q.trans (by decide)))
                    have ghc4 : ¬ (a0).toInt = 2 := fun q => hc4 (Int32.toInt_inj.mp (q.trans (by decide)))
                    have ghc5 : ¬ (a0).toInt = 3 := fun q => hc5 (Int32.toInt_inj.mp (q.trans (by decide)))
                    have ghc6 : ¬ (a0).toInt = 4 := fun q => hc6 (Int32.toInt_inj.mp (q.trans (by decide)))
                    have ghc9 : ¬ (a0).toInt = 5 := fun q => hc9 (Int32.toInt_inj.mp (q.trans (by decide)))
                    have ghc10 : ¬ (a0).toInt = 6 := fun q => hc10 (Int32.toInt_inj.mp (q.trans (by decide)))
                    have ghc11 : ¬ (a0).toInt = 7 := fun q => hc11 (Int32.toInt_inj.mp (q.trans (by decide)))
                    refine kx_q_tsO (tgt := 139) (show decode T_X4_status.2.1 22 = .ok (.tableswitch 117 0 7 #[46, 54, 62, 70, 78, 96, 104, 112], 46) from by decide +kernel) (by omega) (by decide) ?_
                    refine kx_go (pc' := 140) (L' := [some (.ref 0), some (.int a0)]) (st' := [.int (-1 : Int32)]) 1 rfl ?_
                    cases h
                    exact kx_r_iret rfl rfl
  · rw [if_pos hc1] at h
    refine kx_go (pc' := 12) (L' := [some (.ref 0), some (.int a0)]) (st' := [.ref 0]) 1 rfl ?_
    refine kx_q_getR (k := 6) (j := 47) kxo_0 rfl kfl_X4_43 rfl ?_
    refine kx_go (pc' := 19) (L' := [some (.ref 0), some (.int a0)]) (st' := [.int (a0 - (12 : Int32)), .ref 47]) 3 rfl ?_
    obtain ⟨hi14, h⟩ := kx_ck_some h
    refine kx_q_iald (kxa_47) rfl hi14 ?_
    cases h
    exact kx_r_iret rfl rfl
theorem c_X4_status {d : Nat} (a0 : Int32) (M : kx_M) (r : Int32) (h : f_X4_status M a0 = some r) : kx_Call EX (d + 2) T_X4_status [.ref 0, .int a0] M (some (.int r)) M := kx_entry kok_X4_status (Nat.le_of_ble_eq_true rfl) rfl (t_X4_status (d := d) M a0 h)
set_option maxRecDepth 100000 in
set_option maxHeartbeats 4000000 in
theorem t_X5_no {d : Nat} {r : Int32} {M' : kx_M} (a0 : Int32) (M : kx_M) (h : f_X5_no a0 M = some (r, M')) : kx_Rn EM T_X5_no (d + 0) (0, [some (.ref 0), some (.int a0)], [], M) (some (.int r)) M' := by
  unfold f_X5_no at h
  refine kx_go (pc' := 1) (L' := [some (.ref 0), some (.int a0)]) (st' := [.ref 0]) 1 rfl ?_
  refine kx_q_getR (k := 19) (j := 12) kmo_0 rfl kfl_X5_44 rfl ?_
  refine kx_go (pc' := 7) (L' := [some (.ref 0), some (.int a0)]) (st' := [.int (-a0), .ref 12, .int (-a0), .ref 12]) 3 rfl ?_
  obtain ⟨hi1, h⟩ := kx_ck_some h
  refine kx_q_iald (kma_12) rfl hi1 ?_
  refine kx_go (pc' := 10) (L' := [some (.ref 0), some (.int a0)]) (st' := [.int ((M.1 12 ((-a0)).toNatClampNeg) + (1 : Int32)), .int (-a0), .ref 12]) 2 rfl ?_
  obtain ⟨hi2, h⟩ := kx_ck_some h
  refine kx_q_iast (kma_12) rfl hi2 ?_
  refine kx_go (pc' := 12) (L' := [some (.ref 0), some (.int a0)]) (st' := [.int a0]) 1 rfl ?_
  cases h
  exact kx_r_iret rfl rfl
theorem c_X5_no {d : Nat} (a0 : Int32) (M : kx_M) (r : Int32) (M' : kx_M) (h : f_X5_no a0 M = some (r, M')) : kx_Call EM (d + 0) T_X5_no [.ref 0, .int a0] M (some (.int r)) M' := kx_entry kok_X5_no (Nat.le_of_ble_eq_true rfl) rfl (t_X5_no (d := d) a0 M h)
set_option maxRecDepth 100000 in
set_option maxHeartbeats 4000000 in
theorem t_X5_within {E : kx_E} {d : Nat} {r : Bool} (M : kx_M) (a0 : Int32) (a1 : Int32) (a2 : Int32) (h : f_X5_within a0 a1 a2 = r) : kx_Rn E T_X5_within (d + 0) (0, [some (.int a0), some (.int a1), some (.int a2)], [], M) (some (.int (kx_bi r))) M := by
  unfold f_X5_within at h
  refine kx_go (pc' := 2) (L' := [some (.int a0), some (.int a1), some (.int a2)]) (st' := [.int a1, .int a0]) 2 rfl ?_
  refine kx_r_icmp_lt rfl (fun hc1 => ?_) (fun hc1 => ?_)
  · rw [if_pos hc1] at h
    refine kx_go (pc' := 15) (L' := [some (.int a0), some (.int a1), some (.int a2)]) (st' := [.int (0 : Int32)]) 1 rfl ?_
    subst h
    exact kx_r_zret rfl rfl (Or.inl rfl)
  · rw [if_neg hc1] at h
    refine kx_go (pc' := 7) (L' := [some (.int a0), some (.int a1), some (.int a2)]) (st' := [.int a2, .int a0]) 2 rfl ?_
    refine kx_r_icmp_gt rfl (fun hc2 => ?_) (fun hc2 => ?_)
    · rw [if_pos hc2] at h
      refine kx_go (pc' := 15) (L' := [some (.int a0), some (.int a1), some (.int a2)]) (st' := [.int (0 : Int32)]) 1 rfl ?_
      subst h
      exact kx_r_zret rfl rfl (Or.inl rfl)
    · rw [if_neg hc2] at h
      refine kx_go (pc' := 11) (L' := [some (.int a0), some (.int a1), some (.int a2)]) (st' := [.int (1 : Int32)]) 1 rfl ?_
      refine kx_r_goto rfl ?_
      subst h
      exact kx_r_zret rfl rfl (Or.inr rfl)
theorem c_X5_within {E : kx_E} {d : Nat} (a0 : Int32) (a1 : Int32) (a2 : Int32) (M : kx_M) (r : Bool) (h : f_X5_within a0 a1 a2 = r) : kx_Call E (d + 0) T_X5_within [.int a0, .int a1, .int a2] M (some (.int (kx_bi r))) M := kx_entry kok_X5_within (Nat.le_of_ble_eq_true rfl) rfl (t_X5_within (d := d) M a0 a1 a2 h)
set_option maxRecDepth 100000 in
set_option maxHeartbeats 4000000 in
theorem t_X5_isCell {d : Nat} {r : Bool} (M : kx_M) (a0 : Int32) (h : f_X5_isCell M a0 = r) : kx_Rn EM T_X5_isCell (d + 1) (0, [some (.ref 0), some (.int a0)], [], M) (some (.int (kx_bi r))) M := by
  unfold f_X5_isCell at h
  refine kx_go (pc' := 3) (L' := [some (.ref 0), some (.int a0)]) (st' := [.ref 0, .int (0 : Int32), .int a0]) 3 rfl ?_
  refine kx_q_getI (k := 0) kmo_0 rfl kfl_X5_65 rfl ?_
  refine kx_go (pc' := 8) (L' := [some (.ref 0), some (.int a0)]) (st' := [.int ((M.1 0 0) - (1 : Int32)), .int (0 : Int32), .int a0]) 2 rfl ?_
  refine kx_r_callS (as := [.int a0, .int (0 : Int32), .int ((M.1 0 0) - (1 : Int32))]) (rest := []) (M1 := M) (rv := some (.int (kx_bi (f_X5_within a0 (0 : Int32) ((M.1 0 0) - (1 : Int32)))))) rfl klk_X5_78 kst_X5_within rfl rfl (Nat.le_of_ble_eq_true rfl) (Nat.le_of_ble_eq_true rfl) (c_X5_within (d := d + 0) a0 (0 : Int32) ((M.1 0 0) - (1 : Int32)) M (f_X5_within a0 (0 : Int32) ((M.1 0 0) - (1 : Int32))) rfl) ?_
  show kx_Rn _ _ _ (11, [some (.ref 0), some (.int a0)], [.int (kx_bi (f_X5_within a0 (0 : Int32) ((M.1 0 0) - (1 : Int32))))], M) _ _
  subst h
  exact kx_r_zret rfl rfl (kx_bi_or _)
theorem c_X5_isCell {d : Nat} (a0 : Int32) (M : kx_M) (r : Bool) (h : f_X5_isCell M a0 = r) : kx_Call EM (d + 1) T_X5_isCell [.ref 0, .int a0] M (some (.int (kx_bi r))) M := kx_entry kok_X5_isCell (Nat.le_of_ble_eq_true rfl) rfl (t_X5_isCell (d := d) M a0 h)
set_option maxRecDepth 100000 in
set_option maxHeartbeats 4000000 in
theorem t_X5_isOne {d : Nat} {r : Bool} (M : kx_M) (a0 : Int32) (h : f_X5_isOne M a0 = r) : kx_Rn EM T_X5_isOne (d + 1) (0, [some (.ref 0), some (.int a0)], [], M) (some (.int (kx_bi r))) M := by
  unfold f_X5_isOne at h
  refine kx_go (pc' := 3) (L' := [some (.ref 0), some (.int a0)]) (st' := [.ref 0, .int (0 : Int32), .int a0]) 3 rfl ?_
  refine kx_q_getI (k := 4) kmo_0 rfl kfl_X5_82 rfl ?_
  refine kx_go (pc' := 8) (L' := [some (.ref 0), some (.int a0)]) (st' := [.int ((M.1 0 4) - (1 : Int32)), .int (0 : Int32), .int a0]) 2 rfl ?_
  refine kx_r_callS (as := [.int a0, .int (0 : Int32), .int ((M.1 0 4) - (1 : Int32))]) (rest := []) (M1 := M) (rv := some (.int (kx_bi (f_X5_within a0 (0 : Int32) ((M.1 0 4) - (1 : Int32)))))) rfl klk_X5_78 kst_X5_within rfl rfl (Nat.le_of_ble_eq_true rfl) (Nat.le_of_ble_eq_true rfl) (c_X5_within (d := d + 0) a0 (0 : Int32) ((M.1 0 4) - (1 : Int32)) M (f_X5_within a0 (0 : Int32) ((M.1 0 4) - (1 : Int32))) rfl) ?_
  show kx_Rn _ _ _ (11, [some (.ref 0), some (.int a0)], [.int (kx_bi (f_X5_within a0 (0 : Int32) ((M.1 0 4) - (1 : Int32))))], M) _ _
  subst h
  exact kx_r_zret rfl rfl (kx_bi_or _)
theorem c_X5_isOne {d : Nat} (a0 : Int32) (M : kx_M) (r : Bool) (h : f_X5_isOne M a0 = r) : kx_Call EM (d + 1) T_X5_isOne [.ref 0, .int a0] M (some (.int (kx_bi r))) M := kx_entry kok_X5_isOne (Nat.le_of_ble_eq_true rfl) rfl (t_X5_isOne (d := d) M a0 h)
set_option maxRecDepth 100000 in
set_option maxHeartbeats 4000000 in
theorem t_X5_isGroup {d : Nat} {r : Bool} (M : kx_M) (a0 : Int32) (h : f_X5_isGroup M a0 = r) : kx_Rn EM T_X5_isGroup (d + 1) (0, [some (.ref 0), some (.int a0)], [], M) (some (.int (kx_bi r))) M := by
  unfold f_X5_isGroup at h
  refine kx_go (pc' := 4) (L' := [some (.ref 0), some (.int a0)]) (st' := [.ref 0, .int (1 : Int32), .int (0 : Int32), .int a0]) 4 rfl ?_
  refine kx_q_getI (k := 4) kmo_0 rfl kfl_X5_82 rfl ?_
  refine kx_go (pc' := 10) (L' := [some (.ref 0), some (.int a0)]) (st' := [.int (((1 : Int32) <<< ((M.1 0 4) &&& 31)) - (1 : Int32)), .int (0 : Int32), .int a0]) 3 rfl ?_
  refine kx_r_callS (as := [.int a0, .int (0 : Int32), .int (((1 : Int32) <<< ((M.1 0 4) &&& 31)) - (1 : Int32))]) (rest := []) (M1 := M) (rv := some (.int (kx_bi (f_X5_within a0 (0 : Int32) (((1 : Int32) <<< ((M.1 0 4) &&& 31)) - (1 : Int32)))))) rfl klk_X5_78 kst_X5_within rfl rfl (Nat.le_of_ble_eq_true rfl) (Nat.le_of_ble_eq_true rfl) (c_X5_within (d := d + 0) a0 (0 : Int32) (((1 : Int32) <<< ((M.1 0 4) &&& 31)) - (1 : Int32)) M (f_X5_within a0 (0 : Int32) (((1 : Int32) <<< ((M.1 0 4) &&& 31)) - (1 : Int32))) rfl) ?_
  show kx_Rn _ _ _ (13, [some (.ref 0), some (.int a0)], [.int (kx_bi (f_X5_within a0 (0 : Int32) (((1 : Int32) <<< ((M.1 0 4) &&& 31)) - (1 : Int32))))], M) _ _
  subst h
  exact kx_r_zret rfl rfl (kx_bi_or _)
theorem c_X5_isGroup {d : Nat} (a0 : Int32) (M : kx_M) (r : Bool) (h : f_X5_isGroup M a0 = r) : kx_Call EM (d + 1) T_X5_isGroup [.ref 0, .int a0] M (some (.int (kx_bi r))) M := kx_entry kok_X5_isGroup (Nat.le_of_ble_eq_true rfl) rfl (t_X5_isGroup (d := d) M a0 h)
set_option maxRecDepth 100000 in
set_option maxHeartbeats 4000000 in
theorem t_X5_areCells {d : Nat} {r : Bool} (M : kx_M) (a0 : Int32) (h : f_X5_areCells M a0 = r) : kx_Rn EM T_X5_areCells (d + 1) (0, [some (.ref 0), some (.int a0)], [], M) (some (.int (kx_bi r))) M := by
  unfold f_X5_areCells at h
  refine kx_go (pc' := 4) (L' := [some (.ref 0), some (.int a0)]) (st' := [.ref 0, .int (1 : Int32), .int (0 : Int32), .int a0]) 4 rfl ?_
  refine kx_q_getI (k := 0) kmo_0 rfl kfl_X5_65 rfl ?_
  refine kx_go (pc' := 10) (L' := [some (.ref 0), some (.int a0)]) (st' := [.int (((1 : Int32) <<< ((M.1 0 0) &&& 31)) - (1 : Int32)), .int (0 : Int32), .int a0]) 3 rfl ?_
  refine kx_r_callS (as := [.int a0, .int (0 : Int32), .int (((1 : Int32) <<< ((M.1 0 0) &&& 31)) - (1 : Int32))]) (rest := []) (M1 := M) (rv := some (.int (kx_bi (f_X5_within a0 (0 : Int32) (((1 : Int32) <<< ((M.1 0 0) &&& 31)) - (1 : Int32)))))) rfl klk_X5_78 kst_X5_within rfl rfl (Nat.le_of_ble_eq_true rfl) (Nat.le_of_ble_eq_true rfl) (c_X5_within (d := d + 0) a0 (0 : Int32) (((1 : Int32) <<< ((M.1 0 0) &&& 31)) - (1 : Int32)) M (f_X5_within a0 (0 : Int32) (((1 : Int32) <<< ((M.1 0 0) &&& 31)) - (1 : Int32))) rfl) ?_
  show kx_Rn _ _ _ (13, [some (.ref 0), some (.int a0)], [.int (kx_bi (f_X5_within a0 (0 : Int32) (((1 : Int32) <<< ((M.1 0 0) &&& 31)) - (1 : Int32))))], M) _ _
  subst h
  exact kx_r_zret rfl rfl (kx_bi_or _)
theorem c_X5_areCells {d : Nat} (a0 : Int32) (M : kx_M) (r : Bool) (h : f_X5_areCells M a0 = r) : kx_Call EM (d + 1) T_X5_areCells [.ref 0, .int a0] M (some (.int (kx_bi r))) M := kx_entry kok_X5_areCells (Nat.le_of_ble_eq_true rfl) rfl (t_X5_areCells (d := d) M a0 h)
set_option maxRecDepth 100000 in
set_option maxHeartbeats 4000000 in
theorem t_X5_has {E : kx_E} {d : Nat} {r : Bool} (M : kx_M) (a0 : Int32) (a1 : Int32) (h : f_X5_has a0 a1 = r) : kx_Rn E T_X5_has (d + 0) (0, [some (.int a0), some (.int a1)], [], M) (some (.int (kx_bi r))) M := by
  unfold f_X5_has at h
  refine kx_go (pc' := 6) (L' := [some (.int a0), some (.int a1)]) (st' := [.int (1 : Int32), .int ((a0 >>> (a1 &&& 31)) &&& (1 : Int32))]) 6 rfl ?_
  refine kx_r_icmp_ne rfl (fun hc1 => ?_) (fun hc1 => ?_)
  · rw [if_neg hc1] at h
    refine kx_go (pc' := 14) (L' := [some (.int a0), some (.int a1)]) (st' := [.int (0 : Int32)]) 1 rfl ?_
    subst h
    exact kx_r_zret rfl rfl (Or.inl rfl)
  · rw [if_pos hc1] at h
    refine kx_go (pc' := 10) (L' := [some (.int a0), some (.int a1)]) (st' := [.int (1 : Int32)]) 1 rfl ?_
    refine kx_r_goto rfl ?_
    subst h
    exact kx_r_zret rfl rfl (Or.inr rfl)
theorem c_X5_has {E : kx_E} {d : Nat} (a0 : Int32) (a1 : Int32) (M : kx_M) (r : Bool) (h : f_X5_has a0 a1 = r) : kx_Call E (d + 0) T_X5_has [.int a0, .int a1] M (some (.int (kx_bi r))) M := kx_entry kok_X5_has (Nat.le_of_ble_eq_true rfl) rfl (t_X5_has (d := d) M a0 a1 h)
set_option maxRecDepth 100000 in
set_option maxHeartbeats 4000000 in
theorem t_X5_isShelf {E : kx_E} {d : Nat} {r : Bool} (M : kx_M) (a0 : Int32) (h : f_X5_isShelf a0 = r) : kx_Rn E T_X5_isShelf (d + 1) (0, [some (.int a0)], [], M) (some (.int (kx_bi r))) M := by
  unfold f_X5_isShelf at h
  refine kx_go (pc' := 4) (L' := [some (.int a0)]) (st' := [.int (7 : Int32), .int (0 : Int32), .int a0]) 3 rfl ?_
  refine kx_r_callS (as := [.int a0, .int (0 : Int32), .int (7 : Int32)]) (rest := []) (M1 := M) (rv := some (.int (kx_bi (f_X5_within a0 (0 : Int32) (7 : Int32))))) rfl klk_X5_78 kst_X5_within rfl rfl (Nat.le_of_ble_eq_true rfl) (Nat.le_of_ble_eq_true rfl) (c_X5_within (d := d + 0) a0 (0 : Int32) (7 : Int32) M (f_X5_within a0 (0 : Int32) (7 : Int32)) rfl) ?_
  show kx_Rn _ _ _ (7, [some (.int a0)], [.int (kx_bi (f_X5_within a0 (0 : Int32) (7 : Int32)))], M) _ _
  subst h
  exact kx_r_zret rfl rfl (kx_bi_or _)
theorem c_X5_isShelf {E : kx_E} {d : Nat} (a0 : Int32) (M : kx_M) (r : Bool) (h : f_X5_isShelf a0 = r) : kx_Call E (d + 1) T_X5_isShelf [.int a0] M (some (.int (kx_bi r))) M := kx_entry kok_X5_isShelf (Nat.le_of_ble_eq_true rfl) rfl (t_X5_isShelf (d := d) M a0 h)
set_option maxRecDepth 100000 in
set_option maxHeartbeats 4000000 in
theorem t_X5_isRow {d : Nat} {r : Bool} (M : kx_M) (a0 : Int32) (h : f_X5_isRow M a0 = some r) : kx_Rn EM T_X5_isRow (d + 1) (0, [some (.ref 0), some (.int a0)], [], M) (some (.int (kx_bi r))) M := by
  unfold f_X5_isRow at h
  refine kx_go (pc' := 1) (L' := [some (.ref 0), some (.int a0)]) (st' := [.ref 0]) 1 rfl ?_
  refine kx_q_getR (k := 16) (j := 9) kmo_0 rfl kfl_X5_34 rfl ?_
  refine kx_go (pc' := 5) (L' := [some (.ref 0), some (.int a0)]) (st' := [.int a0, .ref 9]) 1 rfl ?_
  obtain ⟨hi1, h⟩ := kx_ck_some h
  refine kx_q_iald (kma_9) rfl hi1 ?_
  refine kx_go (pc' := 8) (L' := [some (.ref 0), some (.int a0)]) (st' := [.int (4 : Int32), .int (0 : Int32), .int (M.1 9 (a0).toNatClampNeg)]) 2 rfl ?_
  refine kx_r_callS (as := [.int (M.1 9 (a0).toNatClampNeg), .int (0 : Int32), .int (4 : Int32)]) (rest := []) (M1 := M) (rv := some (.int (kx_bi (f_X5_within (M.1 9 (a0).toNatClampNeg) (0 : Int32) (4 : Int32))))) rfl klk_X5_78 kst_X5_within rfl rfl (Nat.le_of_ble_eq_true rfl) (Nat.le_of_ble_eq_true rfl) (c_X5_within (d := d + 0) (M.1 9 (a0).toNatClampNeg) (0 : Int32) (4 : Int32) M (f_X5_within (M.1 9 (a0).toNatClampNeg) (0 : Int32) (4 : Int32)) rfl) ?_
  show kx_Rn _ _ _ (11, [some (.ref 0), some (.int a0)], [.int (kx_bi (f_X5_within (M.1 9 (a0).toNatClampNeg) (0 : Int32) (4 : Int32)))], M) _ _
  cases h
  exact kx_r_zret rfl rfl (kx_bi_or _)
theorem c_X5_isRow {d : Nat} (a0 : Int32) (M : kx_M) (r : Bool) (h : f_X5_isRow M a0 = some r) : kx_Call EM (d + 1) T_X5_isRow [.ref 0, .int a0] M (some (.int (kx_bi r))) M := kx_entry kok_X5_isRow (Nat.le_of_ble_eq_true rfl) rfl (t_X5_isRow (d := d) M a0 h)
set_option maxRecDepth 100000 in
set_option maxHeartbeats 4000000 in
theorem t_X5_row_50 {d : Nat} {r : Int32} {M' : kx_M} : ∀ (n : Nat) (x1 : Int32) (x4 : Int32) (M : kx_M), f_X5_row_50 n x1 x4 M = some (r, M') → kx_Rn EM T_X5_row (d + 2) (50, [some (.ref 0), some (.int x1), none, none, some (.int x4)], [], M) (some (.int r)) M' := by
  intro n
  induction n with
  | zero =>
    intro x1 x4 M h
    cases (show (none : Option (Int32 × kx_M)) = some _ from h)
  | succ n ih =>
    intro x1 x4 M h
    rw [f_X5_row_50.eq_2] at h
    refine kx_go (pc' := 54) (L' := [some (.ref 0), some (.int x1), none, none, some (.int x4)]) (st' := [.int (40 : Int32), .int x4]) 2 rfl ?_
    refine kx_r_icmp_ge rfl (fun hc1 => ?_) (fun hc1 => ?_)
    · rw [if_pos hc1] at h
      refine kx_go (pc' := 77) (L' := [some (.ref 0), some (.int x1), none, none, some (.int x4)]) (st' := [.int (1 : Int32)]) 1 rfl ?_
      cases h
      exact kx_r_iret rfl rfl
    · rw [if_neg hc1] at h
      refine kx_go (pc' := 58) (L' := [some (.ref 0), some (.int x1), none, none, some (.int x4)]) (st' := [.ref 0]) 1 rfl ?_
      refine kx_q_getR (k := 18) (j := 11) kmo_0 rfl kfl_X5_40 rfl ?_
      refine kx_go (pc' := 69) (L' := [some (.ref 0), some (.int x1), none, none, some (.int x4)]) (st' := [.long (0 : Int64), .int (((40 : Int32) * x1) + x4), .ref 11]) 6 rfl ?_
      obtain ⟨hi2, h⟩ := kx_ck_some h
      refine kx_q_last (kma_11) rfl hi2 ?_
      refine kx_go (pc' := 73) (L' := [some (.ref 0), some (.int x1), none, none, some (.int (x4 + (1)))]) (st' := []) 1 rfl ?_
      refine kx_r_goto rfl ?_
      refine kx_wk [true, true, false, false, true] ?_
      exact ih x1 (x4 + (1)) (kx_u2 M 11 ((((40 : Int32) * x1) + x4)).toNatClampNeg (0 : Int64)) h
set_option maxRecDepth 100000 in
set_option maxHeartbeats 4000000 in
theorem t_X5_row {d : Nat} {r : Int32} {M' : kx_M} (a0 : Int32) (a1 : Int32) (a2 : Int32) (M : kx_M) (h : f_X5_row a0 a1 a2 M = some (r, M')) : kx_Rn EM T_X5_row (d + 2) (0, [some (.ref 0), some (.int a0), some (.int a1), some (.int a2), none], [], M) (some (.int r)) M' := by
  unfold f_X5_row at h
  refine kx_go (pc' := 1) (L' := [some (.ref 0), some (.int a0), some (.int a1), some (.int a2), none]) (st' := [.int a0]) 1 rfl ?_
  refine kx_r_callS (as := [.int a0]) (rest := []) (M1 := M) (rv := some (.int (kx_bi (f_X5_isShelf a0)))) rfl klk_X5_85 kst_X5_isShelf rfl rfl (Nat.le_of_ble_eq_true rfl) (Nat.le_of_ble_eq_true rfl) (c_X5_isShelf (d := d + 0) a0 M (f_X5_isShelf a0) rfl) ?_
  show kx_Rn _ _ _ (4, [some (.ref 0), some (.int a0), some (.int a1), some (.int a2), none], [.int (kx_bi (f_X5_isShelf a0))], M) _ _
  refine kx_q_zeq rfl (fun hc1 => ?_) (fun hc1 => ?_)
  · rw [if_neg hc1] at h
    refine kx_go (pc' := 29) (L' := [some (.ref 0), some (.int a0), some (.int a1), some (.int a2), none]) (st' := [.int (-2 : Int32), .ref 0]) 2 rfl ?_
    obtain ⟨v2, M4, hv3, h⟩ := kx_bd_some h
    refine kx_q_callV (as := [.int (-2 : Int32)]) (rest := []) (M1 := M4) (rv := some (.int v2)) kmo_0 rfl klk_X5_89 kse_X5_no rfl rfl rfl rfl (Nat.le_of_ble_eq_true rfl) (Nat.le_of_ble_eq_true rfl) (c_X5_no (d := d + 1) (-2 : Int32) M v2 M4 hv3) ?_
    show kx_Rn _ _ _ (32, [some (.ref 0), some (.int a0), some (.int a1), some (.int a2), none], [.int v2], M4) _ _
    cases h
    exact kx_r_iret rfl rfl
  · rw [if_pos hc1] at h
    refine kx_go (pc' := 10) (L' := [some (.ref 0), some (.int a0), some (.int a1), some (.int a2), none]) (st' := [.int (4 : Int32), .int (0 : Int32), .int a1]) 3 rfl ?_
    refine kx_r_callS (as := [.int a1, .int (0 : Int32), .int (4 : Int32)]) (rest := []) (M1 := M) (rv := some (.int (kx_bi (f_X5_within a1 (0 : Int32) (4 : Int32))))) rfl klk_X5_78 kst_X5_within rfl rfl (Nat.le_of_ble_eq_true rfl) (Nat.le_of_ble_eq_true rfl) (c_X5_within (d := d + 1) a1 (0 : Int32) (4 : Int32) M (f_X5_within a1 (0 : Int32) (4 : Int32)) rfl) ?_
    show kx_Rn _ _ _ (13, [some (.ref 0), some (.int a0), some (.int a1), some (.int a2), none], [.int (kx_bi (f_X5_within a1 (0 : Int32) (4 : Int32)))], M) _ _
    refine kx_q_zeq rfl (fun hc5 => ?_) (fun hc5 => ?_)
    · rw [if_neg hc5] at h
      refine kx_go (pc' := 29) (L' := [some (.ref 0), some (.int a0), some (.int a1), some (.int a2), none]) (st' := [.int (-2 : Int32), .ref 0]) 2 rfl ?_
      obtain ⟨v6, M8, hv7, h⟩ := kx_bd_some h
      refine kx_q_callV (as := [.int (-2 : Int32)]) (rest := []) (M1 := M8) (rv := some (.int v6)) kmo_0 rfl klk_X5_89 kse_X5_no rfl rfl rfl rfl (Nat.le_of_ble_eq_true rfl) (Nat.le_of_ble_eq_true rfl) (c_X5_no (d := d + 1) (-2 : Int32) M v6 M8 hv7) ?_
      show kx_Rn _ _ _ (32, [some (.ref 0), some (.int a0), some (.int a1), some (.int a2), none], [.int v6], M8) _ _
      cases h
      exact kx_r_iret rfl rfl
    · rw [if_pos hc5] at h
      refine kx_go (pc' := 20) (L' := [some (.ref 0), some (.int a0), some (.int a1), some (.int a2), none]) (st' := [.int (40 : Int32), .int (0 : Int32), .int a2]) 3 rfl ?_
      refine kx_r_callS (as := [.int a2, .int (0 : Int32), .int (40 : Int32)]) (rest := []) (M1 := M) (rv := some (.int (kx_bi (f_X5_within a2 (0 : Int32) (40 : Int32))))) rfl klk_X5_78 kst_X5_within rfl rfl (Nat.le_of_ble_eq_true rfl) (Nat.le_of_ble_eq_true rfl) (c_X5_within (d := d + 1) a2 (0 : Int32) (40 : Int32) M (f_X5_within a2 (0 : Int32) (40 : Int32)) rfl) ?_
      show kx_Rn _ _ _ (23, [some (.ref 0), some (.int a0), some (.int a1), some (.int a2), none], [.int (kx_bi (f_X5_within a2 (0 : Int32) (40 : Int32)))], M) _ _
      refine kx_q_zne rfl (fun hc9 => ?_) (fun hc9 => ?_)
      · rw [if_pos hc9] at h
        refine kx_go (pc' := 34) (L' := [some (.ref 0), some (.int a0), some (.int a1), some (.int a2), none]) (st' := [.ref 0]) 1 rfl ?_
        refine kx_q_getR (k := 16) (j := 9) kmo_0 rfl kfl_X5_34 rfl ?_
        refine kx_go (pc' := 39) (L' := [some (.ref 0), some (.int a0), some (.int a1), some (.int a2), none]) (st' := [.int a1, .int a0, .ref 9]) 2 rfl ?_
        obtain ⟨hi10, h⟩ := kx_ck_some h
        refine kx_q_iast (kma_9) rfl hi10 ?_
        refine kx_go (pc' := 41) (L' := [some (.ref 0), some (.int a0), some (.int a1), some (.int a2), none]) (st' := [.ref 0]) 1 rfl ?_
        refine kx_q_getR (k := 17) (j := 10) kmo_0 rfl kfl_X5_37 rfl ?_
        refine kx_go (pc' := 46) (L' := [some (.ref 0), some (.int a0), some (.int a1), some (.int a2), none]) (st' := [.int a2, .int a0, .ref 10]) 2 rfl ?_
        obtain ⟨hi11, h⟩ := kx_ck_some h
        refine kx_q_iast (kma_10) rfl hi11 ?_
        refine kx_go (pc' := 50) (L' := [some (.ref 0), some (.int a0), some (.int a1), some (.int a2), some (.int (0 : Int32))]) (st' := []) 2 rfl ?_
        refine kx_wk [true, true, false, false, true] ?_
        exact t_X5_row_50 kx_fuel a0 (0 : Int32) (kx_u1 (kx_u1 M 9 (a0).toNatClampNeg a1) 10 (a0).toNatClampNeg a2) h
      · rw [if_neg hc9] at h
        refine kx_go (pc' := 29) (L' := [some (.ref 0), some (.int a0), some (.int a1), some (.int a2), none]) (st' := [.int (-2 : Int32), .ref 0]) 2 rfl ?_
        obtain ⟨v12, M14, hv13, h⟩ := kx_bd_some h
        refine kx_q_callV (as := [.int (-2 : Int32)]) (rest := []) (M1 := M14) (rv := some (.int v12)) kmo_0 rfl klk_X5_89 kse_X5_no rfl rfl rfl rfl (Nat.le_of_ble_eq_true rfl) (Nat.le_of_ble_eq_true rfl) (c_X5_no (d := d + 1) (-2 : Int32) M v12 M14 hv13) ?_
        show kx_Rn _ _ _ (32, [some (.ref 0), some (.int a0), some (.int a1), some (.int a2), none], [.int v12], M14) _ _
        cases h
        exact kx_r_iret rfl rfl
theorem c_X5_row {d : Nat} (a0 : Int32) (a1 : Int32) (a2 : Int32) (M : kx_M) (r : Int32) (M' : kx_M) (h : f_X5_row a0 a1 a2 M = some (r, M')) : kx_Call EM (d + 2) T_X5_row [.ref 0, .int a0, .int a1, .int a2] M (some (.int r)) M' := kx_entry kok_X5_row (Nat.le_of_ble_eq_true rfl) rfl (t_X5_row (d := d) a0 a1 a2 M h)
set_option maxRecDepth 100000 in
set_option maxHeartbeats 4000000 in
theorem t_X5_noRow {d : Nat} {r : Int32} (M : kx_M) (a0 : Int32) (h : f_X5_noRow M a0 = some r) : kx_Rn EM T_X5_noRow (d + 0) (0, [some (.ref 0), some (.int a0)], [], M) (some (.int r)) M := by
  unfold f_X5_noRow at h
  refine kx_go (pc' := 1) (L' := [some (.ref 0), some (.int a0)]) (st' := [.ref 0]) 1 rfl ?_
  refine kx_q_getR (k := 16) (j := 9) kmo_0 rfl kfl_X5_34 rfl ?_
  refine kx_go (pc' := 5) (L' := [some (.ref 0), some (.int a0)]) (st' := [.int a0, .ref 9]) 1 rfl ?_
  obtain ⟨hi1, h⟩ := kx_ck_some h
  refine kx_q_iald (kma_9) rfl hi1 ?_
  refine kx_go (pc' := 8) (L' := [some (.ref 0), some (.int a0)]) (st' := [.int (10 : Int32), .int (M.1 9 (a0).toNatClampNeg)]) 1 rfl ?_
  refine kx_r_icmp_lt rfl (fun hc2 => ?_) (fun hc2 => ?_)
  · rw [if_pos hc2] at h
    refine kx_go (pc' := 17) (L' := [some (.ref 0), some (.int a0)]) (st' := [.ref 0]) 1 rfl ?_
    refine kx_q_getR (k := 16) (j := 9) kmo_0 rfl kfl_X5_34 rfl ?_
    refine kx_go (pc' := 21) (L' := [some (.ref 0), some (.int a0)]) (st' := [.int a0, .ref 9]) 1 rfl ?_
    obtain ⟨hi3, h⟩ := kx_ck_some h
    refine kx_q_iald (kma_9) rfl hi3 ?_
    refine kx_r_if_ge rfl (fun hc4 => ?_) (fun hc4 => ?_)
    · rw [if_pos hc4] at h
      refine kx_go (pc' := 31) (L' := [some (.ref 0), some (.int a0)]) (st' := [.int (0 : Int32)]) 1 rfl ?_
      cases h
      exact kx_r_iret rfl rfl
    · rw [if_neg hc4] at h
      refine kx_go (pc' := 27) (L' := [some (.ref 0), some (.int a0)]) (st' := [.int (-4 : Int32)]) 1 rfl ?_
      refine kx_r_goto rfl ?_
      cases h
      exact kx_r_iret rfl rfl
  · rw [if_neg hc2] at h
    refine kx_go (pc' := 13) (L' := [some (.ref 0), some (.int a0)]) (st' := [.int (-3 : Int32)]) 1 rfl ?_
    refine kx_r_goto rfl ?_
    cases h
    exact kx_r_iret rfl rfl
theorem c_X5_noRow {d : Nat} (a0 : Int32) (M : kx_M) (r : Int32) (h : f_X5_noRow M a0 = some r) : kx_Call EM (d + 0) T_X5_noRow [.ref 0, .int a0] M (some (.int r)) M := kx_entry kok_X5_noRow (Nat.le_of_ble_eq_true rfl) rfl (t_X5_noRow (d := d) M a0 h)
set_option maxRecDepth 100000 in
set_option maxHeartbeats 4000000 in
theorem t_X5_kept {E : kx_E} {d : Nat} {r : Int64} (M : kx_M) (a0 : Int32) (a1 : Int64) (h : f_X5_kept a0 a1 = r) : kx_Rn E T_X5_kept (d + 0) (0, [some (.int a0), some (.long a1), none], [], M) (some (.long r)) M := by
  unfold f_X5_kept at h
  refine kx_go (pc' := 1) (L' := [some (.int a0), some (.long a1), none]) (st' := [.int a0]) 1 rfl ?_
  by_cases hc1 : a0 = (0 : Int32)
  · rw [if_pos hc1] at h
    refine kx_q_tsI (0 : Int32) (tgt := 32) (show decode T_X5_kept.2.1 1 = .ok (.tableswitch 47 0 3 #[31, 36, 41, 45], 31) from by decide +kernel) hc1 (by decide) (by decide) rfl (by decide) ?_
    refine kx_go (pc' := 36) (L' := [some (.int a0), some (.long a1), none]) (st' := [.long (((a1).toInt32).toInt8.toInt32).toInt64]) 4 rfl ?_
    subst h
    exact kx_r_lret rfl rfl
  · rw [if_neg hc1] at h
    by_cases hc2 : a0 = (1 : Int32)
    · rw [if_pos hc2] at h
      refine kx_q_tsI (1 : Int32) (tgt := 37) (show decode T_X5_kept.2.1 1 = .ok (.tableswitch 47 0 3 #[31, 36, 41, 45], 31) from by decide +kernel) hc2 (by decide) (by decide) rfl (by decide) ?_
      refine kx_go (pc' := 41) (L' := [some (.int a0), some (.long a1), none]) (st' := [.long (((a1).toInt32).toInt16.toInt32).toInt64]) 4 rfl ?_
      subst h
      exact kx_r_lret rfl rfl
    · rw [if_neg hc2] at h
      by_cases hc3 : a0 = (2 : Int32)
      · rw [if_pos hc3] at h
        refine kx_q_tsI (2 : Int32) (tgt := 42) (show decode T_X5_kept.2.1 1 = .ok (.tableswitch 47 0 3 #[31, 36, 41, 45], 31) from by decide +kernel) hc3 (by decide) (by decide) rfl (by decide) ?_
        refine kx_go (pc' := 45) (L' := [some (.int a0), some (.long a1), none]) (st' := [.long ((a1).toInt32).toInt64]) 3 rfl ?_
        subst h
        exact kx_r_lret rfl rfl
      · rw [if_neg hc3] at h
        by_cases hc4 : a0 = (3 : Int32)
        · rw [if_pos hc4] at h
          refine kx_q_tsI (3 : Int32) (tgt := 46) (show decode T_X5_kept.2.1 1 = .ok (.tableswitch 47 0 3 #[31, 36, 41, 45], 31) from by decide +kernel) hc4 (by decide) (by decide) rfl (by decide) ?_
          refine kx_go (pc' := 47) (L' := [some (.int a0), some (.long a1), none]) (st' := [.long a1]) 1 rfl ?_
          subst h
          exact kx_r_lret rfl rfl
        · rw [if_neg hc4] at h
          have ghc1 : ¬ (a0).toInt = 0 := fun q => hc1 (Int32.toInt_inj.mp (q.trans (by decide)))
          have ghc2 : ¬ (a0).toInt = 1 := fun q => hc2 (Int32.toInt_inj.mp (q.trans (by decide)))
          have ghc3 : ¬ (a0).toInt = 2 := fun q => hc3 (Int32.toInt_inj.mp (q.trans (by decide)))
          have ghc4 : ¬ (a0).toInt = 3 := fun q => hc4 (Int32.toInt_inj.mp (q.trans (by decide)))
          refine kx_q_tsO (tgt := 48) (show decode T_X5_kept.2.1 1 = .ok (.tableswitch 47 0 3 #[31, 36, 41, 45], 31) from by decide +kernel) (by omega) (by decide) ?_
          refine kx_go (pc' := 51) (L' := [some (.int a0), some (.long a1), none]) (st' := [.int (lg_cmp a1 (0 : Int64))]) 3 rfl ?_
          refine kx_r_if_eq rfl (fun hc5 => ?_) (fun hc5 => ?_)
          · rw [if_pos hc5] at h
            refine kx_go (pc' := 59) (L' := [some (.int a0), some (.long a1), none]) (st' := [.long (0 : Int64)]) 1 rfl ?_
            subst h
            exact kx_r_lret rfl rfl
          · rw [if_neg hc5] at h
            refine kx_go (pc' := 55) (L' := [some (.int a0), some (.long a1), none]) (st' := [.long (1 : Int64)]) 1 rfl ?_
            refine kx_r_goto rfl ?_
            subst h
            exact kx_r_lret rfl rfl
theorem c_X5_kept {E : kx_E} {d : Nat} (a0 : Int32) (a1 : Int64) (M : kx_M) (r : Int64) (h : f_X5_kept a0 a1 = r) : kx_Call E (d + 0) T_X5_kept [.int a0, .long a1] M (some (.long r)) M := kx_entry kok_X5_kept (Nat.le_of_ble_eq_true rfl) rfl (t_X5_kept (d := d) M a0 a1 h)
set_option maxRecDepth 100000 in
set_option maxHeartbeats 4000000 in
theorem t_X5_set {d : Nat} {r : Int32} {M' : kx_M} (a0 : Int32) (a1 : Int32) (a2 : Int64) (M : kx_M) (h : f_X5_set a0 a1 a2 M = some (r, M')) : kx_Rn EM T_X5_set (d + 2) (0, [some (.ref 0), some (.int a0), some (.int a1), some (.long a2), none], [], M) (some (.int r)) M' := by
  unfold f_X5_set at h
  refine kx_go (pc' := 1) (L' := [some (.ref 0), some (.int a0), some (.int a1), some (.long a2), none]) (st' := [.int a0]) 1 rfl ?_
  refine kx_r_callS (as := [.int a0]) (rest := []) (M1 := M) (rv := some (.int (kx_bi (f_X5_isShelf a0)))) rfl klk_X5_85 kst_X5_isShelf rfl rfl (Nat.le_of_ble_eq_true rfl) (Nat.le_of_ble_eq_true rfl) (c_X5_isShelf (d := d + 0) a0 M (f_X5_isShelf a0) rfl) ?_
  show kx_Rn _ _ _ (4, [some (.ref 0), some (.int a0), some (.int a1), some (.long a2), none], [.int (kx_bi (f_X5_isShelf a0))], M) _ _
  refine kx_q_zne rfl (fun hc1 => ?_) (fun hc1 => ?_)
  · rw [if_pos hc1] at h
    refine kx_go (pc' := 16) (L' := [some (.ref 0), some (.int a0), some (.int a1), some (.long a2), none]) (st' := [.int a0, .ref 0]) 2 rfl ?_
    obtain ⟨v2, hv3, h⟩ := kx_bn_some h
    refine kx_q_callV (as := [.int a0]) (rest := []) (M1 := M) (rv := some (.int (kx_bi v2))) kmo_0 rfl klk_X5_93 kse_X5_isRow rfl rfl rfl rfl (Nat.le_of_ble_eq_true rfl) (Nat.le_of_ble_eq_true rfl) (c_X5_isRow (d := d + 0) a0 M v2 hv3) ?_
    show kx_Rn _ _ _ (19, [some (.ref 0), some (.int a0), some (.int a1), some (.long a2), none], [.int (kx_bi v2)], M) _ _
    refine kx_q_zne rfl (fun hc4 => ?_) (fun hc4 => ?_)
    · rw [if_pos hc4] at h
      refine kx_go (pc' := 35) (L' := [some (.ref 0), some (.int a0), some (.int a1), some (.long a2), none]) (st' := [.ref 0, .int (0 : Int32), .int a1]) 3 rfl ?_
      refine kx_q_getR (k := 17) (j := 10) kmo_0 rfl kfl_X5_37 rfl ?_
      refine kx_go (pc' := 39) (L' := [some (.ref 0), some (.int a0), some (.int a1), some (.long a2), none]) (st' := [.int a0, .ref 10, .int (0 : Int32), .int a1]) 1 rfl ?_
      obtain ⟨hi5, h⟩ := kx_ck_some h
      refine kx_q_iald (kma_10) rfl hi5 ?_
      refine kx_go (pc' := 42) (L' := [some (.ref 0), some (.int a0), some (.int a1), some (.long a2), none]) (st' := [.int ((M.1 10 (a0).toNatClampNeg) - (1 : Int32)), .int (0 : Int32), .int a1]) 2 rfl ?_
      refine kx_r_callS (as := [.int a1, .int (0 : Int32), .int ((M.1 10 (a0).toNatClampNeg) - (1 : Int32))]) (rest := []) (M1 := M) (rv := some (.int (kx_bi (f_X5_within a1 (0 : Int32) ((M.1 10 (a0).toNatClampNeg) - (1 : Int32)))))) rfl klk_X5_78 kst_X5_within rfl rfl (Nat.le_of_ble_eq_true rfl) (Nat.le_of_ble_eq_true rfl) (c_X5_within (d := d + 1) a1 (0 : Int32) ((M.1 10 (a0).toNatClampNeg) - (1 : Int32)) M (f_X5_within a1 (0 : Int32) ((M.1 10 (a0).toNatClampNeg) - (1 : Int32))) rfl) ?_
      show kx_Rn _ _ _ (45, [some (.ref 0), some (.int a0), some (.int a1), some (.long a2), none], [.int (kx_bi (f_X5_within a1 (0 : Int32) ((M.1 10 (a0).toNatClampNeg) - (1 : Int32))))], M) _ _
      refine kx_q_zne rfl (fun hc6 => ?_) (fun hc6 => ?_)
      · rw [if_pos hc6] at h
        refine kx_go (pc' := 56) (L' := [some (.ref 0), some (.int a0), some (.int a1), some (.long a2), none]) (st' := [.ref 0]) 1 rfl ?_
        refine kx_q_getR (k := 18) (j := 11) kmo_0 rfl kfl_X5_40 rfl ?_
        refine kx_go (pc' := 66) (L' := [some (.ref 0), some (.int a0), some (.int a1), some (.long a2), none]) (st' := [.ref 0, .int (((40 : Int32) * a0) + a1), .ref 11]) 6 rfl ?_
        refine kx_q_getR (k := 16) (j := 9) kmo_0 rfl kfl_X5_34 rfl ?_
        refine kx_go (pc' := 70) (L' := [some (.ref 0), some (.int a0), some (.int a1), some (.long a2), none]) (st' := [.int a0, .ref 9, .int (((40 : Int32) * a0) + a1), .ref 11]) 1 rfl ?_
        obtain ⟨hi7, h⟩ := kx_ck_some h
        refine kx_q_iald (kma_9) rfl hi7 ?_
        refine kx_go (pc' := 72) (L' := [some (.ref 0), some (.int a0), some (.int a1), some (.long a2), none]) (st' := [.long a2, .int (M.1 9 (a0).toNatClampNeg), .int (((40 : Int32) * a0) + a1), .ref 11]) 1 rfl ?_
        refine kx_r_callS (as := [.int (M.1 9 (a0).toNatClampNeg), .long a2]) (rest := [.int (((40 : Int32) * a0) + a1), .ref 11]) (M1 := M) (rv := some (.long (f_X5_kept (M.1 9 (a0).toNatClampNeg) a2))) rfl klk_X5_99 kst_X5_kept rfl rfl (Nat.le_of_ble_eq_true rfl) (Nat.le_of_ble_eq_true rfl) (c_X5_kept (d := d + 1) (M.1 9 (a0).toNatClampNeg) a2 M (f_X5_kept (M.1 9 (a0).toNatClampNeg) a2) rfl) ?_
        show kx_Rn _ _ _ (75, [some (.ref 0), some (.int a0), some (.int a1), some (.long a2), none], [.long (f_X5_kept (M.1 9 (a0).toNatClampNeg) a2), .int (((40 : Int32) * a0) + a1), .ref 11], M) _ _
        obtain ⟨hi8, h⟩ := kx_ck_some h
        refine kx_q_last (kma_11) rfl hi8 ?_
        refine kx_go (pc' := 77) (L' := [some (.ref 0), some (.int a0), some (.int a1), some (.long a2), none]) (st' := [.int (1 : Int32)]) 1 rfl ?_
        cases h
        exact kx_r_iret rfl rfl
      · rw [if_neg hc6] at h
        refine kx_go (pc' := 51) (L' := [some (.ref 0), some (.int a0), some (.int a1), some (.long a2), none]) (st' := [.int (-2 : Int32), .ref 0]) 2 rfl ?_
        obtain ⟨v9, M11, hv10, h⟩ := kx_bd_some h
        refine kx_q_callV (as := [.int (-2 : Int32)]) (rest := []) (M1 := M11) (rv := some (.int v9)) kmo_0 rfl klk_X5_89 kse_X5_no rfl rfl rfl rfl (Nat.le_of_ble_eq_true rfl) (Nat.le_of_ble_eq_true rfl) (c_X5_no (d := d + 1) (-2 : Int32) M v9 M11 hv10) ?_
        show kx_Rn _ _ _ (54, [some (.ref 0), some (.int a0), some (.int a1), some (.long a2), none], [.int v9], M11) _ _
        cases h
        exact kx_r_iret rfl rfl
    · rw [if_neg hc4] at h
      refine kx_go (pc' := 25) (L' := [some (.ref 0), some (.int a0), some (.int a1), some (.long a2), none]) (st' := [.int a0, .ref 0, .ref 0]) 3 rfl ?_
      obtain ⟨v12, hv13, h⟩ := kx_bn_some h
      refine kx_q_callV (as := [.int a0]) (rest := [.ref 0]) (M1 := M) (rv := some (.int v12)) kmo_0 rfl klk_X5_96 kse_X5_noRow rfl rfl rfl rfl (Nat.le_of_ble_eq_true rfl) (Nat.le_of_ble_eq_true rfl) (c_X5_noRow (d := d + 1) a0 M v12 hv13) ?_
      show kx_Rn _ _ _ (28, [some (.ref 0), some (.int a0), some (.int a1), some (.long a2), none], [.int v12, .ref 0], M) _ _
      obtain ⟨v14, M16, hv15, h⟩ := kx_bd_some h
      refine kx_q_callV (as := [.int v12]) (rest := []) (M1 := M16) (rv := some (.int v14)) kmo_0 rfl klk_X5_89 kse_X5_no rfl rfl rfl rfl (Nat.le_of_ble_eq_true rfl) (Nat.le_of_ble_eq_true rfl) (c_X5_no (d := d + 1) v12 M v14 M16 hv15) ?_
      show kx_Rn _ _ _ (31, [some (.ref 0), some (.int a0), some (.int a1), some (.long a2), none], [.int v14], M16) _ _
      cases h
      exact kx_r_iret rfl rfl
  · rw [if_neg hc1] at h
    refine kx_go (pc' := 10) (L' := [some (.ref 0), some (.int a0), some (.int a1), some (.long a2), none]) (st' := [.int (-2 : Int32), .ref 0]) 2 rfl ?_
    obtain ⟨v17, M19, hv18, h⟩ := kx_bd_some h
    refine kx_q_callV (as := [.int (-2 : Int32)]) (rest := []) (M1 := M19) (rv := some (.int v17)) kmo_0 rfl klk_X5_89 kse_X5_no rfl rfl rfl rfl (Nat.le_of_ble_eq_true rfl) (Nat.le_of_ble_eq_true rfl) (c_X5_no (d := d + 1) (-2 : Int32) M v17 M19 hv18) ?_
    show kx_Rn _ _ _ (13, [some (.ref 0), some (.int a0), some (.int a1), some (.long a2), none], [.int v17], M19) _ _
    cases h
    exact kx_r_iret rfl rfl
theorem c_X5_set {d : Nat} (a0 : Int32) (a1 : Int32) (a2 : Int64) (M : kx_M) (r : Int32) (M' : kx_M) (h : f_X5_set a0 a1 a2 M = some (r, M')) : kx_Call EM (d + 2) T_X5_set [.ref 0, .int a0, .int a1, .long a2] M (some (.int r)) M' := kx_entry kok_X5_set (Nat.le_of_ble_eq_true rfl) rfl (t_X5_set (d := d) a0 a1 a2 M h)
set_option maxRecDepth 100000 in
set_option maxHeartbeats 4000000 in
theorem t_X5_copy_225 {d : Nat} {r : Int32} {M' : kx_M} : ∀ (n : Nat) (x1 : Int32) (x2 : Int32) (x3 : Int32) (x4 : Int32) (x5 : Int32) (x6 : Int32) (M : kx_M), f_X5_copy_225 n x1 x2 x3 x4 x5 x6 M = some (r, M') → kx_Rn EM T_X5_copy (d + 2) (225, [some (.ref 0), some (.int x1), some (.int x2), some (.int x3), some (.int x4), some (.int x5), some (.int x6)], [], M) (some (.int r)) M' := by
  intro n
  induction n with
  | zero =>
    intro x1 x2 x3 x4 x5 x6 M h
    cases (show (none : Option (Int32 × kx_M)) = some _ from h)
  | succ n ih =>
    intro x1 x2 x3 x4 x5 x6 M h
    rw [f_X5_copy_225.eq_2] at h
    refine kx_go (pc' := 229) (L' := [some (.ref 0), some (.int x1), some (.int x2), some (.int x3), some (.int x4), some (.int x5), some (.int x6)]) (st' := [.int x5, .int x6]) 2 rfl ?_
    refine kx_r_icmp_ge rfl (fun hc1 => ?_) (fun hc1 => ?_)
    · rw [if_pos hc1] at h
      refine kx_go (pc' := 269) (L' := [some (.ref 0), some (.int x1), some (.int x2), some (.int x3), some (.int x4), some (.int x5), some (.int x6)]) (st' := [.int x5]) 1 rfl ?_
      cases h
      exact kx_r_iret rfl rfl
    · rw [if_neg hc1] at h
      refine kx_go (pc' := 233) (L' := [some (.ref 0), some (.int x1), some (.int x2), some (.int x3), some (.int x4), some (.int x5), some (.int x6)]) (st' := [.ref 0]) 1 rfl ?_
      refine kx_q_getR (k := 18) (j := 11) kmo_0 rfl kfl_X5_40 rfl ?_
      refine kx_go (pc' := 247) (L' := [some (.ref 0), some (.int x1), some (.int x2), some (.int x3), some (.int x4), some (.int x5), some (.int x6)]) (st' := [.ref 0, .int ((((40 : Int32) * x2) + x4) + x6), .ref 11]) 8 rfl ?_
      refine kx_q_getR (k := 18) (j := 11) kmo_0 rfl kfl_X5_40 rfl ?_
      refine kx_go (pc' := 259) (L' := [some (.ref 0), some (.int x1), some (.int x2), some (.int x3), some (.int x4), some (.int x5), some (.int x6)]) (st' := [.int ((((40 : Int32) * x1) + x3) + x6), .ref 11, .int ((((40 : Int32) * x2) + x4) + x6), .ref 11]) 7 rfl ?_
      obtain ⟨hi2, h⟩ := kx_ck_some h
      refine kx_q_lald (kma_11) rfl hi2 ?_
      obtain ⟨hi3, h⟩ := kx_ck_some h
      refine kx_q_last (kma_11) rfl hi3 ?_
      obtain ⟨M4, hM4, h⟩ := kx_lt_ex h
      rw [← hM4]
      refine kx_go (pc' := 264) (L' := [some (.ref 0), some (.int x1), some (.int x2), some (.int x3), some (.int x4), some (.int x5), some (.int (x6 + (1)))]) (st' := []) 1 rfl ?_
      refine kx_r_goto rfl ?_
      refine kx_wk [true, true, true, true, true, true, true] ?_
      exact ih x1 x2 x3 x4 x5 (x6 + (1)) M4 h
set_option maxRecDepth 100000 in
set_option maxHeartbeats 4000000 in
theorem t_X5_copy_179 {d : Nat} {r : Int32} {M' : kx_M} : ∀ (n : Nat) (x1 : Int32) (x2 : Int32) (x3 : Int32) (x4 : Int32) (x5 : Int32) (x6 : Int32) (M : kx_M), f_X5_copy_179 n x1 x2 x3 x4 x5 x6 M = some (r, M') → kx_Rn EM T_X5_copy (d + 2) (179, [some (.ref 0), some (.int x1), some (.int x2), some (.int x3), some (.int x4), some (.int x5), some (.int x6)], [], M) (some (.int r)) M' := by
  intro n
  induction n with
  | zero =>
    intro x1 x2 x3 x4 x5 x6 M h
    cases (show (none : Option (Int32 × kx_M)) = some _ from h)
  | succ n ih =>
    intro x1 x2 x3 x4 x5 x6 M h
    rw [f_X5_copy_179.eq_2] at h
    refine kx_go (pc' := 181) (L' := [some (.ref 0), some (.int x1), some (.int x2), some (.int x3), some (.int x4), some (.int x5), some (.int x6)]) (st' := [.int x6]) 1 rfl ?_
    refine kx_r_if_lt rfl (fun hc1 => ?_) (fun hc1 => ?_)
    · rw [if_pos hc1] at h
      refine kx_r_goto rfl ?_
      refine kx_go (pc' := 269) (L' := [some (.ref 0), some (.int x1), some (.int x2), some (.int x3), some (.int x4), some (.int x5), some (.int x6)]) (st' := [.int x5]) 1 rfl ?_
      cases h
      exact kx_r_iret rfl rfl
    · rw [if_neg hc1] at h
      refine kx_go (pc' := 185) (L' := [some (.ref 0), some (.int x1), some (.int x2), some (.int x3), some (.int x4), some (.int x5), some (.int x6)]) (st' := [.ref 0]) 1 rfl ?_
      refine kx_q_getR (k := 18) (j := 11) kmo_0 rfl kfl_X5_40 rfl ?_
      refine kx_go (pc' := 199) (L' := [some (.ref 0), some (.int x1), some (.int x2), some (.int x3), some (.int x4), some (.int x5), some (.int x6)]) (st' := [.ref 0, .int ((((40 : Int32) * x2) + x4) + x6), .ref 11]) 8 rfl ?_
      refine kx_q_getR (k := 18) (j := 11) kmo_0 rfl kfl_X5_40 rfl ?_
      refine kx_go (pc' := 211) (L' := [some (.ref 0), some (.int x1), some (.int x2), some (.int x3), some (.int x4), some (.int x5), some (.int x6)]) (st' := [.int ((((40 : Int32) * x1) + x3) + x6), .ref 11, .int ((((40 : Int32) * x2) + x4) + x6), .ref 11]) 7 rfl ?_
      obtain ⟨hi2, h⟩ := kx_ck_some h
      refine kx_q_lald (kma_11) rfl hi2 ?_
      obtain ⟨hi3, h⟩ := kx_ck_some h
      refine kx_q_last (kma_11) rfl hi3 ?_
      obtain ⟨M4, hM4, h⟩ := kx_lt_ex h
      rw [← hM4]
      refine kx_go (pc' := 216) (L' := [some (.ref 0), some (.int x1), some (.int x2), some (.int x3), some (.int x4), some (.int x5), some (.int (x6 + (-1)))]) (st' := []) 1 rfl ?_
      refine kx_r_goto rfl ?_
      refine kx_wk [true, true, true, true, true, true, true] ?_
      exact ih x1 x2 x3 x4 x5 (x6 + (-1)) M4 h
set_option maxRecDepth 100000 in
set_option maxHeartbeats 4000000 in
theorem t_X5_copy_81 {d : Nat} {r : Int32} {M' : kx_M} (x1 : Int32) (x2 : Int32) (x3 : Int32) (x4 : Int32) (x5 : Int32) (M : kx_M) (h : f_X5_copy_81 x1 x2 x3 x4 x5 M = some (r, M')) : kx_Rn EM T_X5_copy (d + 2) (81, [some (.ref 0), some (.int x1), some (.int x2), some (.int x3), some (.int x4), some (.int x5), none], [], M) (some (.int r)) M' := by
  unfold f_X5_copy_81 at h
  refine kx_go (pc' := 82) (L' := [some (.ref 0), some (.int x1), some (.int x2), some (.int x3), some (.int x4), some (.int x5), none]) (st' := [.ref 0]) 1 rfl ?_
  refine kx_q_getR (k := 16) (j := 9) kmo_0 rfl kfl_X5_34 rfl ?_
  refine kx_go (pc' := 86) (L' := [some (.ref 0), some (.int x1), some (.int x2), some (.int x3), some (.int x4), some (.int x5), none]) (st' := [.int x1, .ref 9]) 1 rfl ?_
  obtain ⟨hi1, h⟩ := kx_ck_some h
  refine kx_q_iald (kma_9) rfl hi1 ?_
  refine kx_r_if_lt rfl (fun hc2 => ?_) (fun hc2 => ?_)
  · rw [if_pos hc2] at h
    refine kx_go (pc' := 102) (L' := [some (.ref 0), some (.int x1), some (.int x2), some (.int x3), some (.int x4), some (.int x5), none]) (st' := [.int (-4 : Int32), .ref 0]) 2 rfl ?_
    obtain ⟨v3, M5, hv4, h⟩ := kx_bd_some h
    refine kx_q_callV (as := [.int (-4 : Int32)]) (rest := []) (M1 := M5) (rv := some (.int v3)) kmo_0 rfl klk_X5_89 kse_X5_no rfl rfl rfl rfl (Nat.le_of_ble_eq_true rfl) (Nat.le_of_ble_eq_true rfl) (c_X5_no (d := d + 1) (-4 : Int32) M v3 M5 hv4) ?_
    show kx_Rn _ _ _ (105, [some (.ref 0), some (.int x1), some (.int x2), some (.int x3), some (.int x4), some (.int x5), none], [.int v3], M5) _ _
    cases h
    exact kx_r_iret rfl rfl
  · rw [if_neg hc2] at h
    refine kx_go (pc' := 91) (L' := [some (.ref 0), some (.int x1), some (.int x2), some (.int x3), some (.int x4), some (.int x5), none]) (st' := [.ref 0]) 1 rfl ?_
    refine kx_q_getR (k := 16) (j := 9) kmo_0 rfl kfl_X5_34 rfl ?_
    refine kx_go (pc' := 95) (L' := [some (.ref 0), some (.int x1), some (.int x2), some (.int x3), some (.int x4), some (.int x5), none]) (st' := [.int x2, .ref 9]) 1 rfl ?_
    obtain ⟨hi6, h⟩ := kx_ck_some h
    refine kx_q_iald (kma_9) rfl hi6 ?_
    refine kx_r_if_ge rfl (fun hc7 => ?_) (fun hc7 => ?_)
    · rw [if_pos hc7] at h
      refine kx_go (pc' := 108) (L' := [some (.ref 0), some (.int x1), some (.int x2), some (.int x3), some (.int x4), some (.int x5), none]) (st' := [.int x5]) 1 rfl ?_
      refine kx_r_if_lt rfl (fun hc8 => ?_) (fun hc8 => ?_)
      · rw [if_pos hc8] at h
        refine kx_go (pc' := 158) (L' := [some (.ref 0), some (.int x1), some (.int x2), some (.int x3), some (.int x4), some (.int x5), none]) (st' := [.int (-2 : Int32), .ref 0]) 2 rfl ?_
        obtain ⟨v9, M11, hv10, h⟩ := kx_bd_some h
        refine kx_q_callV (as := [.int (-2 : Int32)]) (rest := []) (M1 := M11) (rv := some (.int v9)) kmo_0 rfl klk_X5_89 kse_X5_no rfl rfl rfl rfl (Nat.le_of_ble_eq_true rfl) (Nat.le_of_ble_eq_true rfl) (c_X5_no (d := d + 1) (-2 : Int32) M v9 M11 hv10) ?_
        show kx_Rn _ _ _ (161, [some (.ref 0), some (.int x1), some (.int x2), some (.int x3), some (.int x4), some (.int x5), none], [.int v9], M11) _ _
        cases h
        exact kx_r_iret rfl rfl
      · rw [if_neg hc8] at h
        refine kx_go (pc' := 112) (L' := [some (.ref 0), some (.int x1), some (.int x2), some (.int x3), some (.int x4), some (.int x5), none]) (st' := [.int x3]) 1 rfl ?_
        refine kx_r_if_lt rfl (fun hc12 => ?_) (fun hc12 => ?_)
        · rw [if_pos hc12] at h
          refine kx_go (pc' := 158) (L' := [some (.ref 0), some (.int x1), some (.int x2), some (.int x3), some (.int x4), some (.int x5), none]) (st' := [.int (-2 : Int32), .ref 0]) 2 rfl ?_
          obtain ⟨v13, M15, hv14, h⟩ := kx_bd_some h
          refine kx_q_callV (as := [.int (-2 : Int32)]) (rest := []) (M1 := M15) (rv := some (.int v13)) kmo_0 rfl klk_X5_89 kse_X5_no rfl rfl rfl rfl (Nat.le_of_ble_eq_true rfl) (Nat.le_of_ble_eq_true rfl) (c_X5_no (d := d + 1) (-2 : Int32) M v13 M15 hv14) ?_
          show kx_Rn _ _ _ (161, [some (.ref 0), some (.int x1), some (.int x2), some (.int x3), some (.int x4), some (.int x5), none], [.int v13], M15) _ _
          cases h
          exact kx_r_iret rfl rfl
        · rw [if_neg hc12] at h
          refine kx_go (pc' := 117) (L' := [some (.ref 0), some (.int x1), some (.int x2), some (.int x3), some (.int x4), some (.int x5), none]) (st' := [.int x4]) 1 rfl ?_
          refine kx_r_if_lt rfl (fun hc16 => ?_) (fun hc16 => ?_)
          · rw [if_pos hc16] at h
            refine kx_go (pc' := 158) (L' := [some (.ref 0), some (.int x1), some (.int x2), some (.int x3), some (.int x4), some (.int x5), none]) (st' := [.int (-2 : Int32), .ref 0]) 2 rfl ?_
            obtain ⟨v17, M19, hv18, h⟩ := kx_bd_some h
            refine kx_q_callV (as := [.int (-2 : Int32)]) (rest := []) (M1 := M19) (rv := some (.int v17)) kmo_0 rfl klk_X5_89 kse_X5_no rfl rfl rfl rfl (Nat.le_of_ble_eq_true rfl) (Nat.le_of_ble_eq_true rfl) (c_X5_no (d := d + 1) (-2 : Int32) M v17 M19 hv18) ?_
            show kx_Rn _ _ _ (161, [some (.ref 0), some (.int x1), some (.int x2), some (.int x3), some (.int x4), some (.int x5), none], [.int v17], M19) _ _
            cases h
            exact kx_r_iret rfl rfl
          · rw [if_neg hc16] at h
            refine kx_go (pc' := 127) (L' := [some (.ref 0), some (.int x1), some (.int x2), some (.int x3), some (.int x4), some (.int x5), none]) (st' := [.ref 0, .long ((x3).toInt64 + (x5).toInt64)]) 6 rfl ?_
            refine kx_q_getR (k := 17) (j := 10) kmo_0 rfl kfl_X5_37 rfl ?_
            refine kx_go (pc' := 131) (L' := [some (.ref 0), some (.int x1), some (.int x2), some (.int x3), some (.int x4), some (.int x5), none]) (st' := [.int x1, .ref 10, .long ((x3).toInt64 + (x5).toInt64)]) 1 rfl ?_
            obtain ⟨hi20, h⟩ := kx_ck_some h
            refine kx_q_iald (kma_10) rfl hi20 ?_
            refine kx_go (pc' := 134) (L' := [some (.ref 0), some (.int x1), some (.int x2), some (.int x3), some (.int x4), some (.int x5), none]) (st' := [.int (lg_cmp ((x3).toInt64 + (x5).toInt64) ((M.1 10 (x1).toNatClampNeg)).toInt64)]) 2 rfl ?_
            refine kx_r_if_gt rfl (fun hc21 => ?_) (fun hc21 => ?_)
            · rw [if_pos hc21] at h
              refine kx_go (pc' := 158) (L' := [some (.ref 0), some (.int x1), some (.int x2), some (.int x3), some (.int x4), some (.int x5), none]) (st' := [.int (-2 : Int32), .ref 0]) 2 rfl ?_
              obtain ⟨v22, M24, hv23, h⟩ := kx_bd_some h
              refine kx_q_callV (as := [.int (-2 : Int32)]) (rest := []) (M1 := M24) (rv := some (.int v22)) kmo_0 rfl klk_X5_89 kse_X5_no rfl rfl rfl rfl (Nat.le_of_ble_eq_true rfl) (Nat.le_of_ble_eq_true rfl) (c_X5_no (d := d + 1) (-2 : Int32) M v22 M24 hv23) ?_
              show kx_Rn _ _ _ (161, [some (.ref 0), some (.int x1), some (.int x2), some (.int x3), some (.int x4), some (.int x5), none], [.int v22], M24) _ _
              cases h
              exact kx_r_iret rfl rfl
            · rw [if_neg hc21] at h
              refine kx_go (pc' := 145) (L' := [some (.ref 0), some (.int x1), some (.int x2), some (.int x3), some (.int x4), some (.int x5), none]) (st' := [.ref 0, .long ((x4).toInt64 + (x5).toInt64)]) 6 rfl ?_
              refine kx_q_getR (k := 17) (j := 10) kmo_0 rfl kfl_X5_37 rfl ?_
              refine kx_go (pc' := 149) (L' := [some (.ref 0), some (.int x1), some (.int x2), some (.int x3), some (.int x4), some (.int x5), none]) (st' := [.int x2, .ref 10, .long ((x4).toInt64 + (x5).toInt64)]) 1 rfl ?_
              obtain ⟨hi25, h⟩ := kx_ck_some h
              refine kx_q_iald (kma_10) rfl hi25 ?_
              refine kx_go (pc' := 152) (L' := [some (.ref 0), some (.int x1), some (.int x2), some (.int x3), some (.int x4), some (.int x5), none]) (st' := [.int (lg_cmp ((x4).toInt64 + (x5).toInt64) ((M.1 10 (x2).toNatClampNeg)).toInt64)]) 2 rfl ?_
              refine kx_r_if_le rfl (fun hc26 => ?_) (fun hc26 => ?_)
              · rw [if_pos hc26] at h
                refine kx_go (pc' := 164) (L' := [some (.ref 0), some (.int x1), some (.int x2), some (.int x3), some (.int x4), some (.int x5), none]) (st' := [.int x2, .int x1]) 2 rfl ?_
                refine kx_r_icmp_ne rfl (fun hc27 => ?_) (fun hc27 => ?_)
                · rw [if_neg hc27] at h
                  refine kx_go (pc' := 225) (L' := [some (.ref 0), some (.int x1), some (.int x2), some (.int x3), some (.int x4), some (.int x5), some (.int (0 : Int32))]) (st' := []) 2 rfl ?_
                  refine kx_wk [true, true, true, true, true, true, true] ?_
                  exact t_X5_copy_225 kx_fuel x1 x2 x3 x4 x5 (0 : Int32) M h
                · rw [if_pos hc27] at h
                  refine kx_go (pc' := 170) (L' := [some (.ref 0), some (.int x1), some (.int x2), some (.int x3), some (.int x4), some (.int x5), none]) (st' := [.int x4, .int x3]) 2 rfl ?_
                  refine kx_r_icmp_ge rfl (fun hc28 => ?_) (fun hc28 => ?_)
                  · rw [if_pos hc28] at h
                    refine kx_go (pc' := 225) (L' := [some (.ref 0), some (.int x1), some (.int x2), some (.int x3), some (.int x4), some (.int x5), some (.int (0 : Int32))]) (st' := []) 2 rfl ?_
                    refine kx_wk [true, true, true, true, true, true, true] ?_
                    exact t_X5_copy_225 kx_fuel x1 x2 x3 x4 x5 (0 : Int32) M h
                  · rw [if_neg hc28] at h
                    refine kx_go (pc' := 179) (L' := [some (.ref 0), some (.int x1), some (.int x2), some (.int x3), some (.int x4), some (.int x5), some (.int (x5 - (1 : Int32)))]) (st' := []) 4 rfl ?_
                    refine kx_wk [true, true, true, true, true, true, true] ?_
                    exact t_X5_copy_179 kx_fuel x1 x2 x3 x4 x5 (x5 - (1 : Int32)) M h
              · rw [if_neg hc26] at h
                refine kx_go (pc' := 158) (L' := [some (.ref 0), some (.int x1), some (.int x2), some (.int x3), some (.int x4), some (.int x5), none]) (st' := [.int (-2 : Int32), .ref 0]) 2 rfl ?_
                obtain ⟨v29, M31, hv30, h⟩ := kx_bd_some h
                refine kx_q_callV (as := [.int (-2 : Int32)]) (rest := []) (M1 := M31) (rv := some (.int v29)) kmo_0 rfl klk_X5_89 kse_X5_no rfl rfl rfl rfl (Nat.le_of_ble_eq_true rfl) (Nat.le_of_ble_eq_true rfl) (c_X5_no (d := d + 1) (-2 : Int32) M v29 M31 hv30) ?_
                show kx_Rn _ _ _ (161, [some (.ref 0), some (.int x1), some (.int x2), some (.int x3), some (.int x4), some (.int x5), none], [.int v29], M31) _ _
                cases h
                exact kx_r_iret rfl rfl
    · rw [if_neg hc7] at h
      refine kx_go (pc' := 102) (L' := [some (.ref 0), some (.int x1), some (.int x2), some (.int x3), some (.int x4), some (.int x5), none]) (st' := [.int (-4 : Int32), .ref 0]) 2 rfl ?_
      obtain ⟨v32, M34, hv33, h⟩ := kx_bd_some h
      refine kx_q_callV (as := [.int (-4 : Int32)]) (rest := []) (M1 := M34) (rv := some (.int v32)) kmo_0 rfl klk_X5_89 kse_X5_no rfl rfl rfl rfl (Nat.le_of_ble_eq_true rfl) (Nat.le_of_ble_eq_true rfl) (c_X5_no (d := d + 1) (-4 : Int32) M v32 M34 hv33) ?_
      show kx_Rn _ _ _ (105, [some (.ref 0), some (.int x1), some (.int x2), some (.int x3), some (.int x4), some (.int x5), none], [.int v32], M34) _ _
      cases h
      exact kx_r_iret rfl rfl
set_option maxRecDepth 100000 in
set_option maxHeartbeats 4000000 in
theorem t_X5_copy {d : Nat} {r : Int32} {M' : kx_M} (a0 : Int32) (a1 : Int32) (a2 : Int32) (a3 : Int32) (a4 : Int32) (M : kx_M) (h : f_X5_copy a0 a1 a2 a3 a4 M = some (r, M')) : kx_Rn EM T_X5_copy (d + 2) (0, [some (.ref 0), some (.int a0), some (.int a1), some (.int a2), some (.int a3), some (.int a4), none], [], M) (some (.int r)) M' := by
  unfold f_X5_copy at h
  refine kx_go (pc' := 1) (L' := [some (.ref 0), some (.int a0), some (.int a1), some (.int a2), some (.int a3), some (.int a4), none]) (st' := [.int a0]) 1 rfl ?_
  refine kx_r_callS (as := [.int a0]) (rest := []) (M1 := M) (rv := some (.int (kx_bi (f_X5_isShelf a0)))) rfl klk_X5_85 kst_X5_isShelf rfl rfl (Nat.le_of_ble_eq_true rfl) (Nat.le_of_ble_eq_true rfl) (c_X5_isShelf (d := d + 0) a0 M (f_X5_isShelf a0) rfl) ?_
  show kx_Rn _ _ _ (4, [some (.ref 0), some (.int a0), some (.int a1), some (.int a2), some (.int a3), some (.int a4), none], [.int (kx_bi (f_X5_isShelf a0))], M) _ _
  refine kx_q_zeq rfl (fun hc1 => ?_) (fun hc1 => ?_)
  · rw [if_neg hc1] at h
    refine kx_go (pc' := 17) (L' := [some (.ref 0), some (.int a0), some (.int a1), some (.int a2), some (.int a3), some (.int a4), none]) (st' := [.int (-2 : Int32), .ref 0]) 2 rfl ?_
    obtain ⟨v2, M4, hv3, h⟩ := kx_bd_some h
    refine kx_q_callV (as := [.int (-2 : Int32)]) (rest := []) (M1 := M4) (rv := some (.int v2)) kmo_0 rfl klk_X5_89 kse_X5_no rfl rfl rfl rfl (Nat.le_of_ble_eq_true rfl) (Nat.le_of_ble_eq_true rfl) (c_X5_no (d := d + 1) (-2 : Int32) M v2 M4 hv3) ?_
    show kx_Rn _ _ _ (20, [some (.ref 0), some (.int a0), some (.int a1), some (.int a2), some (.int a3), some (.int a4), none], [.int v2], M4) _ _
    cases h
    exact kx_r_iret rfl rfl
  · rw [if_pos hc1] at h
    refine kx_go (pc' := 8) (L' := [some (.ref 0), some (.int a0), some (.int a1), some (.int a2), some (.int a3), some (.int a4), none]) (st' := [.int a1]) 1 rfl ?_
    refine kx_r_callS (as := [.int a1]) (rest := []) (M1 := M) (rv := some (.int (kx_bi (f_X5_isShelf a1)))) rfl klk_X5_85 kst_X5_isShelf rfl rfl (Nat.le_of_ble_eq_true rfl) (Nat.le_of_ble_eq_true rfl) (c_X5_isShelf (d := d + 0) a1 M (f_X5_isShelf a1) rfl) ?_
    show kx_Rn _ _ _ (11, [some (.ref 0), some (.int a0), some (.int a1), some (.int a2), some (.int a3), some (.int a4), none], [.int (kx_bi (f_X5_isShelf a1))], M) _ _
    refine kx_q_zne rfl (fun hc5 => ?_) (fun hc5 => ?_)
    · rw [if_pos hc5] at h
      refine kx_go (pc' := 22) (L' := [some (.ref 0), some (.int a0), some (.int a1), some (.int a2), some (.int a3), some (.int a4), none]) (st' := [.ref 0]) 1 rfl ?_
      refine kx_q_getR (k := 16) (j := 9) kmo_0 rfl kfl_X5_34 rfl ?_
      refine kx_go (pc' := 26) (L' := [some (.ref 0), some (.int a0), some (.int a1), some (.int a2), some (.int a3), some (.int a4), none]) (st' := [.int a0, .ref 9]) 1 rfl ?_
      obtain ⟨hi6, h⟩ := kx_ck_some h
      refine kx_q_iald (kma_9) rfl hi6 ?_
      refine kx_go (pc' := 29) (L' := [some (.ref 0), some (.int a0), some (.int a1), some (.int a2), some (.int a3), some (.int a4), none]) (st' := [.int (10 : Int32), .int (M.1 9 (a0).toNatClampNeg)]) 1 rfl ?_
      refine kx_r_icmp_ge rfl (fun hc7 => ?_) (fun hc7 => ?_)
      · rw [if_pos hc7] at h
        refine kx_go (pc' := 77) (L' := [some (.ref 0), some (.int a0), some (.int a1), some (.int a2), some (.int a3), some (.int a4), none]) (st' := [.int (-3 : Int32), .ref 0]) 2 rfl ?_
        obtain ⟨v8, M10, hv9, h⟩ := kx_bd_some h
        refine kx_q_callV (as := [.int (-3 : Int32)]) (rest := []) (M1 := M10) (rv := some (.int v8)) kmo_0 rfl klk_X5_89 kse_X5_no rfl rfl rfl rfl (Nat.le_of_ble_eq_true rfl) (Nat.le_of_ble_eq_true rfl) (c_X5_no (d := d + 1) (-3 : Int32) M v8 M10 hv9) ?_
        show kx_Rn _ _ _ (80, [some (.ref 0), some (.int a0), some (.int a1), some (.int a2), some (.int a3), some (.int a4), none], [.int v8], M10) _ _
        cases h
        exact kx_r_iret rfl rfl
      · rw [if_neg hc7] at h
        refine kx_go (pc' := 33) (L' := [some (.ref 0), some (.int a0), some (.int a1), some (.int a2), some (.int a3), some (.int a4), none]) (st' := [.ref 0]) 1 rfl ?_
        refine kx_q_getR (k := 16) (j := 9) kmo_0 rfl kfl_X5_34 rfl ?_
        refine kx_go (pc' := 37) (L' := [some (.ref 0), some (.int a0), some (.int a1), some (.int a2), some (.int a3), some (.int a4), none]) (st' := [.int a1, .ref 9]) 1 rfl ?_
        obtain ⟨hi11, h⟩ := kx_ck_some h
        refine kx_q_iald (kma_9) rfl hi11 ?_
        refine kx_go (pc' := 40) (L' := [some (.ref 0), some (.int a0), some (.int a1), some (.int a2), some (.int a3), some (.int a4), none]) (st' := [.int (10 : Int32), .int (M.1 9 (a1).toNatClampNeg)]) 1 rfl ?_
        refine kx_r_icmp_ge rfl (fun hc12 => ?_) (fun hc12 => ?_)
        · rw [if_pos hc12] at h
          refine kx_go (pc' := 77) (L' := [some (.ref 0), some (.int a0), some (.int a1), some (.int a2), some (.int a3), some (.int a4), none]) (st' := [.int (-3 : Int32), .ref 0]) 2 rfl ?_
          obtain ⟨v13, M15, hv14, h⟩ := kx_bd_some h
          refine kx_q_callV (as := [.int (-3 : Int32)]) (rest := []) (M1 := M15) (rv := some (.int v13)) kmo_0 rfl klk_X5_89 kse_X5_no rfl rfl rfl rfl (Nat.le_of_ble_eq_true rfl) (Nat.le_of_ble_eq_true rfl) (c_X5_no (d := d + 1) (-3 : Int32) M v13 M15 hv14) ?_
          show kx_Rn _ _ _ (80, [some (.ref 0), some (.int a0), some (.int a1), some (.int a2), some (.int a3), some (.int a4), none], [.int v13], M15) _ _
          cases h
          exact kx_r_iret rfl rfl
        · rw [if_neg hc12] at h
          refine kx_go (pc' := 45) (L' := [some (.ref 0), some (.int a0), some (.int a1), some (.int a2), some (.int a3), some (.int a4), none]) (st' := [.int a0, .ref 0]) 2 rfl ?_
          obtain ⟨v16, hv17, h⟩ := kx_bn_some h
          refine kx_q_callV (as := [.int a0]) (rest := []) (M1 := M) (rv := some (.int (kx_bi v16))) kmo_0 rfl klk_X5_93 kse_X5_isRow rfl rfl rfl rfl (Nat.le_of_ble_eq_true rfl) (Nat.le_of_ble_eq_true rfl) (c_X5_isRow (d := d + 0) a0 M v16 hv17) ?_
          show kx_Rn _ _ _ (48, [some (.ref 0), some (.int a0), some (.int a1), some (.int a2), some (.int a3), some (.int a4), none], [.int (kx_bi v16)], M) _ _
          refine kx_q_zeq rfl (fun hc18 => ?_) (fun hc18 => ?_)
          · rw [if_neg hc18] at h
            refine kx_wk [true, true, true, true, true, true, false] ?_
            exact t_X5_copy_81 a0 a1 a2 a3 a4 M h
          · rw [if_pos hc18] at h
            refine kx_go (pc' := 53) (L' := [some (.ref 0), some (.int a0), some (.int a1), some (.int a2), some (.int a3), some (.int a4), none]) (st' := [.int a1, .ref 0]) 2 rfl ?_
            obtain ⟨v19, hv20, h⟩ := kx_bn_some h
            refine kx_q_callV (as := [.int a1]) (rest := []) (M1 := M) (rv := some (.int (kx_bi v19))) kmo_0 rfl klk_X5_93 kse_X5_isRow rfl rfl rfl rfl (Nat.le_of_ble_eq_true rfl) (Nat.le_of_ble_eq_true rfl) (c_X5_isRow (d := d + 0) a1 M v19 hv20) ?_
            show kx_Rn _ _ _ (56, [some (.ref 0), some (.int a0), some (.int a1), some (.int a2), some (.int a3), some (.int a4), none], [.int (kx_bi v19)], M) _ _
            refine kx_q_zeq rfl (fun hc21 => ?_) (fun hc21 => ?_)
            · rw [if_neg hc21] at h
              refine kx_wk [true, true, true, true, true, true, false] ?_
              exact t_X5_copy_81 a0 a1 a2 a3 a4 M h
            · rw [if_pos hc21] at h
              refine kx_go (pc' := 60) (L' := [some (.ref 0), some (.int a0), some (.int a1), some (.int a2), some (.int a3), some (.int a4), none]) (st' := [.ref 0]) 1 rfl ?_
              refine kx_q_getR (k := 16) (j := 9) kmo_0 rfl kfl_X5_34 rfl ?_
              refine kx_go (pc' := 64) (L' := [some (.ref 0), some (.int a0), some (.int a1), some (.int a2), some (.int a3), some (.int a4), none]) (st' := [.int a0, .ref 9]) 1 rfl ?_
              obtain ⟨hi22, h⟩ := kx_ck_some h
              refine kx_q_iald (kma_9) rfl hi22 ?_
              refine kx_go (pc' := 66) (L' := [some (.ref 0), some (.int a0), some (.int a1), some (.int a2), some (.int a3), some (.int a4), none]) (st' := [.ref 0, .int (M.1 9 (a0).toNatClampNeg)]) 1 rfl ?_
              refine kx_q_getR (k := 16) (j := 9) kmo_0 rfl kfl_X5_34 rfl ?_
              refine kx_go (pc' := 70) (L' := [some (.ref 0), some (.int a0), some (.int a1), some (.int a2), some (.int a3), some (.int a4), none]) (st' := [.int a1, .ref 9, .int (M.1 9 (a0).toNatClampNeg)]) 1 rfl ?_
              obtain ⟨hi23, h⟩ := kx_ck_some h
              refine kx_q_iald (kma_9) rfl hi23 ?_
              refine kx_r_icmp_eq rfl (fun hc24 => ?_) (fun hc24 => ?_)
              · rw [if_pos hc24] at h
                refine kx_wk [true, true, true, true, true, true, false] ?_
                exact t_X5_copy_81 a0 a1 a2 a3 a4 M h
              · rw [if_neg hc24] at h
                refine kx_go (pc' := 77) (L' := [some (.ref 0), some (.int a0), some (.int a1), some (.int a2), some (.int a3), some (.int a4), none]) (st' := [.int (-3 : Int32), .ref 0]) 2 rfl ?_
                obtain ⟨v25, M27, hv26, h⟩ := kx_bd_some h
                refine kx_q_callV (as := [.int (-3 : Int32)]) (rest := []) (M1 := M27) (rv := some (.int v25)) kmo_0 rfl klk_X5_89 kse_X5_no rfl rfl rfl rfl (Nat.le_of_ble_eq_true rfl) (Nat.le_of_ble_eq_true rfl) (c_X5_no (d := d + 1) (-3 : Int32) M v25 M27 hv26) ?_
                show kx_Rn _ _ _ (80, [some (.ref 0), some (.int a0), some (.int a1), some (.int a2), some (.int a3), some (.int a4), none], [.int v25], M27) _ _
                cases h
                exact kx_r_iret rfl rfl
    · rw [if_neg hc5] at h
      refine kx_go (pc' := 17) (L' := [some (.ref 0), some (.int a0), some (.int a1), some (.int a2), some (.int a3), some (.int a4), none]) (st' := [.int (-2 : Int32), .ref 0]) 2 rfl ?_
      obtain ⟨v28, M30, hv29, h⟩ := kx_bd_some h
      refine kx_q_callV (as := [.int (-2 : Int32)]) (rest := []) (M1 := M30) (rv := some (.int v28)) kmo_0 rfl klk_X5_89 kse_X5_no rfl rfl rfl rfl (Nat.le_of_ble_eq_true rfl) (Nat.le_of_ble_eq_true rfl) (c_X5_no (d := d + 1) (-2 : Int32) M v28 M30 hv29) ?_
      show kx_Rn _ _ _ (20, [some (.ref 0), some (.int a0), some (.int a1), some (.int a2), some (.int a3), some (.int a4), none], [.int v28], M30) _ _
      cases h
      exact kx_r_iret rfl rfl
theorem c_X5_copy {d : Nat} (a0 : Int32) (a1 : Int32) (a2 : Int32) (a3 : Int32) (a4 : Int32) (M : kx_M) (r : Int32) (M' : kx_M) (h : f_X5_copy a0 a1 a2 a3 a4 M = some (r, M')) : kx_Call EM (d + 2) T_X5_copy [.ref 0, .int a0, .int a1, .int a2, .int a3, .int a4] M (some (.int r)) M' := kx_entry kok_X5_copy (Nat.le_of_ble_eq_true rfl) rfl (t_X5_copy (d := d) a0 a1 a2 a3 a4 M h)
set_option maxRecDepth 100000 in
set_option maxHeartbeats 4000000 in
theorem t_X5_element {d : Nat} {r : Int64} (M : kx_M) (a0 : Int32) (a1 : Int32) (h : f_X5_element M a0 a1 = some r) : kx_Rn EM T_X5_element (d + 2) (0, [some (.ref 0), some (.int a0), some (.int a1)], [], M) (some (.long r)) M := by
  unfold f_X5_element at h
  refine kx_go (pc' := 1) (L' := [some (.ref 0), some (.int a0), some (.int a1)]) (st' := [.int a0]) 1 rfl ?_
  refine kx_r_callS (as := [.int a0]) (rest := []) (M1 := M) (rv := some (.int (kx_bi (f_X5_isShelf a0)))) rfl klk_X5_85 kst_X5_isShelf rfl rfl (Nat.le_of_ble_eq_true rfl) (Nat.le_of_ble_eq_true rfl) (c_X5_isShelf (d := d + 0) a0 M (f_X5_isShelf a0) rfl) ?_
  show kx_Rn _ _ _ (4, [some (.ref 0), some (.int a0), some (.int a1)], [.int (kx_bi (f_X5_isShelf a0))], M) _ _
  refine kx_q_zeq rfl (fun hc1 => ?_) (fun hc1 => ?_)
  · rw [if_neg hc1] at h
    refine kx_go (pc' := 46) (L' := [some (.ref 0), some (.int a0), some (.int a1)]) (st' := [.long (0 : Int64)]) 1 rfl ?_
    cases h
    exact kx_r_lret rfl rfl
  · rw [if_pos hc1] at h
    refine kx_go (pc' := 9) (L' := [some (.ref 0), some (.int a0), some (.int a1)]) (st' := [.int a0, .ref 0]) 2 rfl ?_
    obtain ⟨v2, hv3, h⟩ := kx_bn_some h
    refine kx_q_callV (as := [.int a0]) (rest := []) (M1 := M) (rv := some (.int (kx_bi v2))) kmo_0 rfl klk_X5_93 kse_X5_isRow rfl rfl rfl rfl (Nat.le_of_ble_eq_true rfl) (Nat.le_of_ble_eq_true rfl) (c_X5_isRow (d := d + 0) a0 M v2 hv3) ?_
    show kx_Rn _ _ _ (12, [some (.ref 0), some (.int a0), some (.int a1)], [.int (kx_bi v2)], M) _ _
    refine kx_q_zeq rfl (fun hc4 => ?_) (fun hc4 => ?_)
    · rw [if_neg hc4] at h
      refine kx_go (pc' := 46) (L' := [some (.ref 0), some (.int a0), some (.int a1)]) (st' := [.long (0 : Int64)]) 1 rfl ?_
      cases h
      exact kx_r_lret rfl rfl
    · rw [if_pos hc4] at h
      refine kx_go (pc' := 18) (L' := [some (.ref 0), some (.int a0), some (.int a1)]) (st' := [.ref 0, .int (0 : Int32), .int a1]) 3 rfl ?_
      refine kx_q_getR (k := 17) (j := 10) kmo_0 rfl kfl_X5_37 rfl ?_
      refine kx_go (pc' := 22) (L' := [some (.ref 0), some (.int a0), some (.int a1)]) (st' := [.int a0, .ref 10, .int (0 : Int32), .int a1]) 1 rfl ?_
      obtain ⟨hi5, h⟩ := kx_ck_some h
      refine kx_q_iald (kma_10) rfl hi5 ?_
      refine kx_go (pc' := 25) (L' := [some (.ref 0), some (.int a0), some (.int a1)]) (st' := [.int ((M.1 10 (a0).toNatClampNeg) - (1 : Int32)), .int (0 : Int32), .int a1]) 2 rfl ?_
      refine kx_r_callS (as := [.int a1, .int (0 : Int32), .int ((M.1 10 (a0).toNatClampNeg) - (1 : Int32))]) (rest := []) (M1 := M) (rv := some (.int (kx_bi (f_X5_within a1 (0 : Int32) ((M.1 10 (a0).toNatClampNeg) - (1 : Int32)))))) rfl klk_X5_78 kst_X5_within rfl rfl (Nat.le_of_ble_eq_true rfl) (Nat.le_of_ble_eq_true rfl) (c_X5_within (d := d + 1) a1 (0 : Int32) ((M.1 10 (a0).toNatClampNeg) - (1 : Int32)) M (f_X5_within a1 (0 : Int32) ((M.1 10 (a0).toNatClampNeg) - (1 : Int32))) rfl) ?_
      show kx_Rn _ _ _ (28, [some (.ref 0), some (.int a0), some (.int a1)], [.int (kx_bi (f_X5_within a1 (0 : Int32) ((M.1 10 (a0).toNatClampNeg) - (1 : Int32))))], M) _ _
      refine kx_q_zeq rfl (fun hc6 => ?_) (fun hc6 => ?_)
      · rw [if_neg hc6] at h
        refine kx_go (pc' := 46) (L' := [some (.ref 0), some (.int a0), some (.int a1)]) (st' := [.long (0 : Int64)]) 1 rfl ?_
        cases h
        exact kx_r_lret rfl rfl
      · rw [if_pos hc6] at h
        refine kx_go (pc' := 32) (L' := [some (.ref 0), some (.int a0), some (.int a1)]) (st' := [.ref 0]) 1 rfl ?_
        refine kx_q_getR (k := 18) (j := 11) kmo_0 rfl kfl_X5_40 rfl ?_
        refine kx_go (pc' := 41) (L' := [some (.ref 0), some (.int a0), some (.int a1)]) (st' := [.int (((40 : Int32) * a0) + a1), .ref 11]) 5 rfl ?_
        obtain ⟨hi7, h⟩ := kx_ck_some h
        refine kx_q_lald (kma_11) rfl hi7 ?_
        refine kx_r_goto rfl ?_
        cases h
        exact kx_r_lret rfl rfl
theorem c_X5_element {d : Nat} (a0 : Int32) (a1 : Int32) (M : kx_M) (r : Int64) (h : f_X5_element M a0 a1 = some r) : kx_Call EM (d + 2) T_X5_element [.ref 0, .int a0, .int a1] M (some (.long r)) M := kx_entry kok_X5_element (Nat.le_of_ble_eq_true rfl) rfl (t_X5_element (d := d) M a0 a1 h)
set_option maxRecDepth 100000 in
set_option maxHeartbeats 4000000 in
theorem t_X5_holds {d : Nat} {r : Int32} (M : kx_M) (a0 : Int32) (h : f_X5_holds M a0 = some r) : kx_Rn EM T_X5_holds (d + 2) (0, [some (.ref 0), some (.int a0)], [], M) (some (.int r)) M := by
  unfold f_X5_holds at h
  refine kx_go (pc' := 1) (L' := [some (.ref 0), some (.int a0)]) (st' := [.int a0]) 1 rfl ?_
  refine kx_r_callS (as := [.int a0]) (rest := []) (M1 := M) (rv := some (.int (kx_bi (f_X5_isShelf a0)))) rfl klk_X5_85 kst_X5_isShelf rfl rfl (Nat.le_of_ble_eq_true rfl) (Nat.le_of_ble_eq_true rfl) (c_X5_isShelf (d := d + 0) a0 M (f_X5_isShelf a0) rfl) ?_
  show kx_Rn _ _ _ (4, [some (.ref 0), some (.int a0)], [.int (kx_bi (f_X5_isShelf a0))], M) _ _
  refine kx_q_zeq rfl (fun hc1 => ?_) (fun hc1 => ?_)
  · rw [if_neg hc1] at h
    refine kx_go (pc' := 17) (L' := [some (.ref 0), some (.int a0)]) (st' := [.int (-1 : Int32)]) 1 rfl ?_
    cases h
    exact kx_r_iret rfl rfl
  · rw [if_pos hc1] at h
    refine kx_go (pc' := 8) (L' := [some (.ref 0), some (.int a0)]) (st' := [.ref 0]) 1 rfl ?_
    refine kx_q_getR (k := 16) (j := 9) kmo_0 rfl kfl_X5_34 rfl ?_
    refine kx_go (pc' := 12) (L' := [some (.ref 0), some (.int a0)]) (st' := [.int a0, .ref 9]) 1 rfl ?_
    obtain ⟨hi2, h⟩ := kx_ck_some h
    refine kx_q_iald (kma_9) rfl hi2 ?_
    refine kx_r_goto rfl ?_
    cases h
    exact kx_r_iret rfl rfl
theorem c_X5_holds {d : Nat} (a0 : Int32) (M : kx_M) (r : Int32) (h : f_X5_holds M a0 = some r) : kx_Call EM (d + 2) T_X5_holds [.ref 0, .int a0] M (some (.int r)) M := kx_entry kok_X5_holds (Nat.le_of_ble_eq_true rfl) rfl (t_X5_holds (d := d) M a0 h)
set_option maxRecDepth 100000 in
set_option maxHeartbeats 4000000 in
theorem t_X5_show_27 {d : Nat} {r : Int32} {M' : kx_M} (x1 : Int32) (x2 : Int32) (M : kx_M) (h : f_X5_show_27 x1 x2 M = some (r, M')) : kx_Rn EM T_X5_show (d + 2) (27, [some (.ref 0), some (.int x1), some (.int x2)], [], M) (some (.int r)) M' := by
  unfold f_X5_show_27 at h
  refine kx_go (pc' := 28) (L' := [some (.ref 0), some (.int x1), some (.int x2)]) (st' := [.ref 0]) 1 rfl ?_
  refine kx_q_getR (k := 16) (j := 9) kmo_0 rfl kfl_X5_34 rfl ?_
  refine kx_go (pc' := 34) (L' := [some (.ref 0), some (.int x1), some (.int x2)]) (st' := [.int (-1 : Int32), .int x2, .int x1, .ref 9]) 3 rfl ?_
  refine kx_r_icmp_ne rfl (fun hc1 => ?_) (fun hc1 => ?_)
  · rw [if_neg hc1] at h
    refine kx_go (pc' := 45) (L' := [some (.ref 0), some (.int x1), some (.int x2)]) (st' := [.int ((10 : Int32) + x2), .int x1, .ref 9]) 3 rfl ?_
    obtain ⟨hi2, h⟩ := kx_ck_some h
    refine kx_q_iast (kma_9) rfl hi2 ?_
    refine kx_go (pc' := 47) (L' := [some (.ref 0), some (.int x1), some (.int x2)]) (st' := [.int (1 : Int32)]) 1 rfl ?_
    cases h
    exact kx_r_iret rfl rfl
  · rw [if_pos hc1] at h
    refine kx_go (pc' := 38) (L' := [some (.ref 0), some (.int x1), some (.int x2)]) (st' := [.int (-1 : Int32), .int x1, .ref 9]) 1 rfl ?_
    refine kx_r_goto rfl ?_
    obtain ⟨hi3, h⟩ := kx_ck_some h
    refine kx_q_iast (kma_9) rfl hi3 ?_
    refine kx_go (pc' := 47) (L' := [some (.ref 0), some (.int x1), some (.int x2)]) (st' := [.int (1 : Int32)]) 1 rfl ?_
    cases h
    exact kx_r_iret rfl rfl
set_option maxRecDepth 100000 in
set_option maxHeartbeats 4000000 in
theorem t_X5_show {d : Nat} {r : Int32} {M' : kx_M} (a0 : Int32) (a1 : Int32) (M : kx_M) (h : f_X5_show a0 a1 M = some (r, M')) : kx_Rn EM T_X5_show (d + 2) (0, [some (.ref 0), some (.int a0), some (.int a1)], [], M) (some (.int r)) M' := by
  unfold f_X5_show at h
  refine kx_go (pc' := 1) (L' := [some (.ref 0), some (.int a0), some (.int a1)]) (st' := [.int a0]) 1 rfl ?_
  refine kx_r_callS (as := [.int a0]) (rest := []) (M1 := M) (rv := some (.int (kx_bi (f_X5_isShelf a0)))) rfl klk_X5_85 kst_X5_isShelf rfl rfl (Nat.le_of_ble_eq_true rfl) (Nat.le_of_ble_eq_true rfl) (c_X5_isShelf (d := d + 0) a0 M (f_X5_isShelf a0) rfl) ?_
  show kx_Rn _ _ _ (4, [some (.ref 0), some (.int a0), some (.int a1)], [.int (kx_bi (f_X5_isShelf a0))], M) _ _
  refine kx_q_zeq rfl (fun hc1 => ?_) (fun hc1 => ?_)
  · rw [if_neg hc1] at h
    refine kx_go (pc' := 23) (L' := [some (.ref 0), some (.int a0), some (.int a1)]) (st' := [.int (-2 : Int32), .ref 0]) 2 rfl ?_
    obtain ⟨v2, M4, hv3, h⟩ := kx_bd_some h
    refine kx_q_callV (as := [.int (-2 : Int32)]) (rest := []) (M1 := M4) (rv := some (.int v2)) kmo_0 rfl klk_X5_89 kse_X5_no rfl rfl rfl rfl (Nat.le_of_ble_eq_true rfl) (Nat.le_of_ble_eq_true rfl) (c_X5_no (d := d + 1) (-2 : Int32) M v2 M4 hv3) ?_
    show kx_Rn _ _ _ (26, [some (.ref 0), some (.int a0), some (.int a1)], [.int v2], M4) _ _
    cases h
    exact kx_r_iret rfl rfl
  · rw [if_pos hc1] at h
    refine kx_go (pc' := 9) (L' := [some (.ref 0), some (.int a0), some (.int a1)]) (st' := [.int (-1 : Int32), .int a1]) 2 rfl ?_
    refine kx_r_icmp_eq rfl (fun hc5 => ?_) (fun hc5 => ?_)
    · rw [if_pos hc5] at h
      refine kx_wk [true, true, true] ?_
      exact t_X5_show_27 a0 a1 M h
    · rw [if_neg hc5] at h
      refine kx_go (pc' := 14) (L' := [some (.ref 0), some (.int a0), some (.int a1)]) (st' := [.int a1, .ref 0]) 2 rfl ?_
      refine kx_q_callV (as := [.int a1]) (rest := []) (M1 := M) (rv := some (.int (kx_bi (f_X5_isOne M a1)))) kmo_0 rfl klk_X5_103 kse_X5_isOne rfl rfl rfl rfl (Nat.le_of_ble_eq_true rfl) (Nat.le_of_ble_eq_true rfl) (c_X5_isOne (d := d + 0) a1 M (f_X5_isOne M a1) rfl) ?_
      show kx_Rn _ _ _ (17, [some (.ref 0), some (.int a0), some (.int a1)], [.int (kx_bi (f_X5_isOne M a1))], M) _ _
      refine kx_q_zne rfl (fun hc6 => ?_) (fun hc6 => ?_)
      · rw [if_pos hc6] at h
        refine kx_wk [true, true, true] ?_
        exact t_X5_show_27 a0 a1 M h
      · rw [if_neg hc6] at h
        refine kx_go (pc' := 23) (L' := [some (.ref 0), some (.int a0), some (.int a1)]) (st' := [.int (-2 : Int32), .ref 0]) 2 rfl ?_
        obtain ⟨v7, M9, hv8, h⟩ := kx_bd_some h
        refine kx_q_callV (as := [.int (-2 : Int32)]) (rest := []) (M1 := M9) (rv := some (.int v7)) kmo_0 rfl klk_X5_89 kse_X5_no rfl rfl rfl rfl (Nat.le_of_ble_eq_true rfl) (Nat.le_of_ble_eq_true rfl) (c_X5_no (d := d + 1) (-2 : Int32) M v7 M9 hv8) ?_
        show kx_Rn _ _ _ (26, [some (.ref 0), some (.int a0), some (.int a1)], [.int v7], M9) _ _
        cases h
        exact kx_r_iret rfl rfl
theorem c_X5_show {d : Nat} (a0 : Int32) (a1 : Int32) (M : kx_M) (r : Int32) (M' : kx_M) (h : f_X5_show a0 a1 M = some (r, M')) : kx_Call EM (d + 2) T_X5_show [.ref 0, .int a0, .int a1] M (some (.int r)) M' := kx_entry kok_X5_show (Nat.le_of_ble_eq_true rfl) rfl (t_X5_show (d := d) a0 a1 M h)
set_option maxRecDepth 100000 in
set_option maxHeartbeats 4000000 in
theorem t_X5_isUnder_19 {E : kx_E} {d : Nat} {r : Bool} (M : kx_M) (x0 : Int32) (x1 : Int32) (h : f_X5_isUnder_19 x0 x1 = r) : kx_Rn E T_X5_isUnder (d + 0) (19, [some (.int x0), some (.int x1)], [], M) (some (.int (kx_bi r))) M := by
  unfold f_X5_isUnder_19 at h
  refine kx_go (pc' := 21) (L' := [some (.int x0), some (.int x1)]) (st' := [.int (4 : Int32), .int x0]) 2 rfl ?_
  refine kx_r_icmp_ne rfl (fun hc1 => ?_) (fun hc1 => ?_)
  · rw [if_neg hc1] at h
    refine kx_go (pc' := 34) (L' := [some (.int x0), some (.int x1)]) (st' := [.int (0 : Int32)]) 1 rfl ?_
    subst h
    exact kx_r_zret rfl rfl (Or.inl rfl)
  · rw [if_pos hc1] at h
    refine kx_go (pc' := 26) (L' := [some (.int x0), some (.int x1)]) (st' := [.int (2 : Int32), .int x1]) 2 rfl ?_
    refine kx_r_icmp_ne rfl (fun hc2 => ?_) (fun hc2 => ?_)
    · rw [if_neg hc2] at h
      refine kx_go (pc' := 34) (L' := [some (.int x0), some (.int x1)]) (st' := [.int (0 : Int32)]) 1 rfl ?_
      subst h
      exact kx_r_zret rfl rfl (Or.inl rfl)
    · rw [if_pos hc2] at h
      refine kx_go (pc' := 30) (L' := [some (.int x0), some (.int x1)]) (st' := [.int (1 : Int32)]) 1 rfl ?_
      refine kx_r_goto rfl ?_
      subst h
      exact kx_r_zret rfl rfl (Or.inr rfl)
set_option maxRecDepth 100000 in
set_option maxHeartbeats 4000000 in
theorem t_X5_isUnder {E : kx_E} {d : Nat} {r : Bool} (M : kx_M) (a0 : Int32) (a1 : Int32) (h : f_X5_isUnder a0 a1 = r) : kx_Rn E T_X5_isUnder (d + 0) (0, [some (.int a0), some (.int a1)], [], M) (some (.int (kx_bi r))) M := by
  unfold f_X5_isUnder at h
  refine kx_go (pc' := 1) (L' := [some (.int a0), some (.int a1)]) (st' := [.int a1]) 1 rfl ?_
  refine kx_r_if_eq rfl (fun hc1 => ?_) (fun hc1 => ?_)
  · rw [if_pos hc1] at h
    refine kx_go (pc' := 30) (L' := [some (.int a0), some (.int a1)]) (st' := [.int (1 : Int32)]) 1 rfl ?_
    refine kx_r_goto rfl ?_
    subst h
    exact kx_r_zret rfl rfl (Or.inr rfl)
  · rw [if_neg hc1] at h
    refine kx_go (pc' := 6) (L' := [some (.int a0), some (.int a1)]) (st' := [.int a1, .int a0]) 2 rfl ?_
    refine kx_r_icmp_eq rfl (fun hc2 => ?_) (fun hc2 => ?_)
    · rw [if_pos hc2] at h
      refine kx_go (pc' := 30) (L' := [some (.int a0), some (.int a1)]) (st' := [.int (1 : Int32)]) 1 rfl ?_
      refine kx_r_goto rfl ?_
      subst h
      exact kx_r_zret rfl rfl (Or.inr rfl)
    · rw [if_neg hc2] at h
      refine kx_go (pc' := 11) (L' := [some (.int a0), some (.int a1)]) (st' := [.int (3 : Int32), .int a0]) 2 rfl ?_
      refine kx_r_icmp_ne rfl (fun hc3 => ?_) (fun hc3 => ?_)
      · rw [if_neg hc3] at h
        refine kx_wk [true, true] ?_
        exact t_X5_isUnder_19 M a0 a1 h
      · rw [if_pos hc3] at h
        refine kx_go (pc' := 16) (L' := [some (.int a0), some (.int a1)]) (st' := [.int (1 : Int32), .int a1]) 2 rfl ?_
        refine kx_r_icmp_eq rfl (fun hc4 => ?_) (fun hc4 => ?_)
        · rw [if_pos hc4] at h
          refine kx_go (pc' := 30) (L' := [some (.int a0), some (.int a1)]) (st' := [.int (1 : Int32)]) 1 rfl ?_
          refine kx_r_goto rfl ?_
          subst h
          exact kx_r_zret rfl rfl (Or.inr rfl)
        · rw [if_neg hc4] at h
          refine kx_wk [true, true] ?_
          exact t_X5_isUnder_19 M a0 a1 h
theorem c_X5_isUnder {E : kx_E} {d : Nat} (a0 : Int32) (a1 : Int32) (M : kx_M) (r : Bool) (h : f_X5_isUnder a0 a1 = r) : kx_Call E (d + 0) T_X5_isUnder [.int a0, .int a1] M (some (.int (kx_bi r))) M := kx_entry kok_X5_isUnder (Nat.le_of_ble_eq_true rfl) rfl (t_X5_isUnder (d := d) M a0 a1 h)
set_option maxRecDepth 100000 in
set_option maxHeartbeats 4000000 in
theorem t_X5_asks {d : Nat} {r : Bool} (M : kx_M) (a0 : Int32) (h : f_X5_asks M a0 = some r) : kx_Rn EM T_X5_asks (d + 0) (0, [some (.ref 0), some (.int a0)], [], M) (some (.int (kx_bi r))) M := by
  unfold f_X5_asks at h
  refine kx_go (pc' := 1) (L' := [some (.ref 0), some (.int a0)]) (st' := [.ref 0]) 1 rfl ?_
  refine kx_q_getR (k := 5) (j := 4) kmo_0 rfl kfl_X5_19 rfl ?_
  refine kx_go (pc' := 5) (L' := [some (.ref 0), some (.int a0)]) (st' := [.int a0, .ref 4]) 1 rfl ?_
  obtain ⟨hi1, h⟩ := kx_ck_some h
  refine kx_q_iald (kma_4) rfl hi1 ?_
  refine kx_go (pc' := 7) (L' := [some (.ref 0), some (.int a0)]) (st' := [.int (1 : Int32), .int (M.1 4 (a0).toNatClampNeg)]) 1 rfl ?_
  refine kx_r_icmp_eq rfl (fun hc2 => ?_) (fun hc2 => ?_)
  · rw [if_pos hc2] at h
    refine kx_go (pc' := 21) (L' := [some (.ref 0), some (.int a0)]) (st' := [.int (1 : Int32)]) 1 rfl ?_
    refine kx_r_goto rfl ?_
    cases h
    exact kx_r_zret rfl rfl (Or.inr rfl)
  · rw [if_neg hc2] at h
    refine kx_go (pc' := 11) (L' := [some (.ref 0), some (.int a0)]) (st' := [.ref 0]) 1 rfl ?_
    refine kx_q_getR (k := 5) (j := 4) kmo_0 rfl kfl_X5_19 rfl ?_
    refine kx_go (pc' := 15) (L' := [some (.ref 0), some (.int a0)]) (st' := [.int a0, .ref 4]) 1 rfl ?_
    obtain ⟨hi3, h⟩ := kx_ck_some h
    refine kx_q_iald (kma_4) rfl hi3 ?_
    refine kx_go (pc' := 17) (L' := [some (.ref 0), some (.int a0)]) (st' := [.int (3 : Int32), .int (M.1 4 (a0).toNatClampNeg)]) 1 rfl ?_
    refine kx_r_icmp_ne rfl (fun hc4 => ?_) (fun hc4 => ?_)
    · rw [if_neg hc4] at h
      refine kx_go (pc' := 25) (L' := [some (.ref 0), some (.int a0)]) (st' := [.int (0 : Int32)]) 1 rfl ?_
      cases h
      exact kx_r_zret rfl rfl (Or.inl rfl)
    · rw [if_pos hc4] at h
      refine kx_go (pc' := 21) (L' := [some (.ref 0), some (.int a0)]) (st' := [.int (1 : Int32)]) 1 rfl ?_
      refine kx_r_goto rfl ?_
      cases h
      exact kx_r_zret rfl rfl (Or.inr rfl)
theorem c_X5_asks {d : Nat} (a0 : Int32) (M : kx_M) (r : Bool) (h : f_X5_asks M a0 = some r) : kx_Call EM (d + 0) T_X5_asks [.ref 0, .int a0] M (some (.int (kx_bi r))) M := kx_entry kok_X5_asks (Nat.le_of_ble_eq_true rfl) rfl (t_X5_asks (d := d) M a0 h)
set_option maxRecDepth 100000 in
set_option maxHeartbeats 4000000 in
theorem t_X5_held {E : kx_E} {d : Nat} {r : Int32} (M : kx_M) (a0 : Int32) (h : f_X5_held a0 = r) : kx_Rn E T_X5_held (d + 1) (0, [some (.int a0)], [], M) (some (.int r)) M := by
  unfold f_X5_held at h
  refine kx_go (pc' := 4) (L' := [some (.int a0)]) (st' := [.int a0, .int (20 : Int32), .int (0 : Int32)]) 3 rfl ?_
  refine kx_q_min rfl kml_X5_69 kst_min kini_math kcd_min (Nat.le_of_ble_eq_true rfl) ?_
  refine kx_q_max rfl kml_X5_113 kst_max kini_math kcd_max (Nat.le_of_ble_eq_true rfl) ?_
  subst h
  exact kx_r_iret rfl rfl
theorem c_X5_held {E : kx_E} {d : Nat} (a0 : Int32) (M : kx_M) (r : Int32) (h : f_X5_held a0 = r) : kx_Call E (d + 1) T_X5_held [.int a0] M (some (.int r)) M := kx_entry kok_X5_held (Nat.le_of_ble_eq_true rfl) rfl (t_X5_held (d := d) M a0 h)
set_option maxRecDepth 100000 in
set_option maxHeartbeats 4000000 in
theorem t_X5_openBy {d : Nat} {r : Int32} (M : kx_M) (a0 : Int32) (a1 : Bool) (h : f_X5_openBy M a0 a1 = some r) : kx_Rn EM T_X5_openBy (d + 1) (0, [some (.ref 0), some (.int a0), some (.int (kx_bi a1)), none], [], M) (some (.int r)) M := by
  unfold f_X5_openBy at h
  refine kx_go (pc' := 4) (L' := [some (.ref 0), some (.int a0), some (.int (kx_bi a1)), none]) (st' := [.ref 0, .int (20 : Int32), .int (0 : Int32)]) 3 rfl ?_
  refine kx_q_getR (k := 7) (j := 6) kmo_0 rfl kfl_X5_25 rfl ?_
  refine kx_go (pc' := 8) (L' := [some (.ref 0), some (.int a0), some (.int (kx_bi a1)), none]) (st' := [.int a0, .ref 6, .int (20 : Int32), .int (0 : Int32)]) 1 rfl ?_
  obtain ⟨hi1, h⟩ := kx_ck_some h
  refine kx_q_iald (kma_6) rfl hi1 ?_
  refine kx_go (pc' := 11) (L' := [some (.ref 0), some (.int a0), some (.int (kx_bi a1)), none]) (st' := [.ref 0, .int ((20 : Int32) - (M.1 6 (a0).toNatClampNeg)), .int (0 : Int32)]) 2 rfl ?_
  refine kx_q_getR (k := 3) (j := 3) kmo_0 rfl kfl_X5_16 rfl ?_
  refine kx_go (pc' := 15) (L' := [some (.ref 0), some (.int a0), some (.int (kx_bi a1)), none]) (st' := [.int (0 : Int32), .ref 3, .int ((20 : Int32) - (M.1 6 (a0).toNatClampNeg)), .int (0 : Int32)]) 1 rfl ?_
  obtain ⟨hi2, h⟩ := kx_ck_some h
  refine kx_q_iald (kma_3) rfl hi2 ?_
  refine kx_go (pc' := 17) (L' := [some (.ref 0), some (.int a0), some (.int (kx_bi a1)), none]) (st' := [.int (((20 : Int32) - (M.1 6 (a0).toNatClampNeg)) - (M.1 3 ((0 : Int32)).toNatClampNeg)), .int (0 : Int32)]) 1 rfl ?_
  refine kx_q_max rfl kml_X5_113 kst_max kini_math kcd_max (Nat.le_of_ble_eq_true rfl) ?_
  refine kx_go (pc' := 21) (L' := [some (.ref 0), some (.int a0), some (.int (kx_bi a1)), some (.int (if (0 : Int32) < (((20 : Int32) - (M.1 6 (a0).toNatClampNeg)) - (M.1 3 ((0 : Int32)).toNatClampNeg)) then (((20 : Int32) - (M.1 6 (a0).toNatClampNeg)) - (M.1 3 ((0 : Int32)).toNatClampNeg)) else (0 : Int32)))]) (st' := []) 1 rfl ?_
  obtain ⟨y3, hy3, h⟩ := kx_lt_ex h
  rw [← hy3]
  refine kx_go (pc' := 22) (L' := [some (.ref 0), some (.int a0), some (.int (kx_bi a1)), some (.int y3)]) (st' := [.ref 0]) 1 rfl ?_
  refine kx_q_getR (k := 5) (j := 4) kmo_0 rfl kfl_X5_19 rfl ?_
  refine kx_go (pc' := 26) (L' := [some (.ref 0), some (.int a0), some (.int (kx_bi a1)), some (.int y3)]) (st' := [.int a0, .ref 4]) 1 rfl ?_
  obtain ⟨hi4, h⟩ := kx_ck_some h
  refine kx_q_iald (kma_4) rfl hi4 ?_
  by_cases hc5 : (M.1 4 (a0).toNatClampNeg) = (1 : Int32)
  · rw [if_pos hc5] at h
    refine kx_q_tsI (1 : Int32) (tgt := 60) (show decode T_X5_openBy.2.1 27 = .ok (.tableswitch 97 1 5 #[33, 37, 46, 64, 83], 33) from by decide +kernel) hc5 (by decide) (by decide) rfl (by decide) ?_
    refine kx_go (pc' := 62) (L' := [some (.ref 0), some (.int a0), some (.int (kx_bi a1)), some (.int y3)]) (st' := [.int (2 : Int32), .int y3]) 2 rfl ?_
    refine kx_r_idiv rfl (by decide) ?_
    cases h
    exact kx_r_iret rfl rfl
  · rw [if_neg hc5] at h
    by_cases hc6 : (M.1 4 (a0).toNatClampNeg) = (2 : Int32)
    · rw [if_pos hc6] at h
      refine kx_q_tsI (2 : Int32) (tgt := 64) (show decode T_X5_openBy.2.1 27 = .ok (.tableswitch 97 1 5 #[33, 37, 46, 64, 83], 33) from by decide +kernel) hc6 (by decide) (by decide) rfl (by decide) ?_
      refine kx_go (pc' := 66) (L' := [some (.ref 0), some (.int a0), some (.int (kx_bi a1)), some (.int y3)]) (st' := [.ref 0, .int y3]) 2 rfl ?_
      refine kx_q_getR (k := 6) (j := 5) kmo_0 rfl kfl_X5_22 rfl ?_
      refine kx_go (pc' := 70) (L' := [some (.ref 0), some (.int a0), some (.int (kx_bi a1)), some (.int y3)]) (st' := [.int a0, .ref 5, .int y3]) 1 rfl ?_
      obtain ⟨hi7, h⟩ := kx_ck_some h
      refine kx_q_iald (kma_5) rfl hi7 ?_
      refine kx_go (pc' := 72) (L' := [some (.ref 0), some (.int a0), some (.int (kx_bi a1)), some (.int y3)]) (st' := [.int (y3 + (M.1 5 (a0).toNatClampNeg))]) 1 rfl ?_
      cases h
      exact kx_r_iret rfl rfl
    · rw [if_neg hc6] at h
      by_cases hc8 : (M.1 4 (a0).toNatClampNeg) = (3 : Int32)
      · rw [if_pos hc8] at h
        refine kx_q_tsI (3 : Int32) (tgt := 73) (show decode T_X5_openBy.2.1 27 = .ok (.tableswitch 97 1 5 #[33, 37, 46, 64, 83], 33) from by decide +kernel) hc8 (by decide) (by decide) rfl (by decide) ?_
        refine kx_go (pc' := 76) (L' := [some (.ref 0), some (.int a0), some (.int (kx_bi a1)), some (.int y3)]) (st' := [.int (2 : Int32), .int y3, .int (0 : Int32)]) 3 rfl ?_
        refine kx_r_idiv rfl (by decide) ?_
        refine kx_go (pc' := 78) (L' := [some (.ref 0), some (.int a0), some (.int (kx_bi a1)), some (.int y3)]) (st' := [.ref 0, .int (y3 / (2 : Int32)), .int (0 : Int32)]) 1 rfl ?_
        refine kx_q_getR (k := 8) (j := 7) kmo_0 rfl kfl_X5_28 rfl ?_
        refine kx_go (pc' := 82) (L' := [some (.ref 0), some (.int a0), some (.int (kx_bi a1)), some (.int y3)]) (st' := [.int a0, .ref 7, .int (y3 / (2 : Int32)), .int (0 : Int32)]) 1 rfl ?_
        obtain ⟨hi9, h⟩ := kx_ck_some h
        refine kx_q_iald (kma_7) rfl hi9 ?_
        refine kx_r_callS (as := [.int (M.1 7 (a0).toNatClampNeg)]) (rest := [.int (y3 / (2 : Int32)), .int (0 : Int32)]) (M1 := M) (rv := some (.int (f_J6_bitCount_0f7a4 (M.1 7 (a0).toNatClampNeg)))) rfl klk_X5_194 kst_J6_bitCount_0f7a4 rfl rfl (Nat.le_of_ble_eq_true rfl) (Nat.le_of_ble_eq_true rfl) (c_J6_bitCount_0f7a4 (d := d + 0) (M.1 7 (a0).toNatClampNeg) M (f_J6_bitCount_0f7a4 (M.1 7 (a0).toNatClampNeg)) rfl) ?_
        show kx_Rn _ _ _ (86, [some (.ref 0), some (.int a0), some (.int (kx_bi a1)), some (.int y3)], [.int (f_J6_bitCount_0f7a4 (M.1 7 (a0).toNatClampNeg)), .int (y3 / (2 : Int32)), .int (0 : Int32)], M) _ _
        refine kx_go (pc' := 87) (L' := [some (.ref 0), some (.int a0), some (.int (kx_bi a1)), some (.int y3)]) (st' := [.int ((y3 / (2 : Int32)) - (f_J6_bitCount_0f7a4 (M.1 7 (a0).toNatClampNeg))), .int (0 : Int32)]) 1 rfl ?_
        refine kx_q_max rfl kml_X5_113 kst_max kini_math kcd_max (Nat.le_of_ble_eq_true rfl) ?_
        cases h
        exact kx_r_iret rfl rfl
      · rw [if_neg hc8] at h
        by_cases hc10 : (M.1 4 (a0).toNatClampNeg) = (4 : Int32)
        · rw [if_pos hc10] at h
          refine kx_q_tsI (4 : Int32) (tgt := 91) (show decode T_X5_openBy.2.1 27 = .ok (.tableswitch 97 1 5 #[33, 37, 46, 64, 83], 33) from by decide +kernel) hc10 (by decide) (by decide) rfl (by decide) ?_
          refine kx_go (pc' := 93) (L' := [some (.ref 0), some (.int a0), some (.int (kx_bi a1)), some (.int y3)]) (st' := [.ref 0, .int y3]) 2 rfl ?_
          refine kx_q_getR (k := 6) (j := 5) kmo_0 rfl kfl_X5_22 rfl ?_
          refine kx_go (pc' := 97) (L' := [some (.ref 0), some (.int a0), some (.int (kx_bi a1)), some (.int y3)]) (st' := [.int a0, .ref 5, .int y3]) 1 rfl ?_
          obtain ⟨hi11, h⟩ := kx_ck_some h
          refine kx_q_iald (kma_5) rfl hi11 ?_
          refine kx_go (pc' := 100) (L' := [some (.ref 0), some (.int a0), some (.int (kx_bi a1)), some (.int y3)]) (st' := [.int (kx_bi a1), .int (y3 + (M.1 5 (a0).toNatClampNeg))]) 2 rfl ?_
          refine kx_q_zeq rfl (fun hc12 => ?_) (fun hc12 => ?_)
          · rw [if_neg hc12] at h
            refine kx_go (pc' := 109) (L' := [some (.ref 0), some (.int a0), some (.int (kx_bi a1)), some (.int y3)]) (st' := [.int ((y3 + (M.1 5 (a0).toNatClampNeg)) + (5 : Int32))]) 2 rfl ?_
            cases h
            exact kx_r_iret rfl rfl
          · rw [if_pos hc12] at h
            refine kx_go (pc' := 104) (L' := [some (.ref 0), some (.int a0), some (.int (kx_bi a1)), some (.int y3)]) (st' := [.int (0 : Int32), .int (y3 + (M.1 5 (a0).toNatClampNeg))]) 1 rfl ?_
            refine kx_r_goto rfl ?_
            refine kx_go (pc' := 109) (L' := [some (.ref 0), some (.int a0), some (.int (kx_bi a1)), some (.int y3)]) (st' := [.int ((y3 + (M.1 5 (a0).toNatClampNeg)) + (0 : Int32))]) 1 rfl ?_
            cases h
            exact kx_r_iret rfl rfl
        · rw [if_neg hc10] at h
          by_cases hc13 : (M.1 4 (a0).toNatClampNeg) = (5 : Int32)
          · rw [if_pos hc13] at h
            refine kx_q_tsI (5 : Int32) (tgt := 110) (show decode T_X5_openBy.2.1 27 = .ok (.tableswitch 97 1 5 #[33, 37, 46, 64, 83], 33) from by decide +kernel) hc13 (by decide) (by decide) rfl (by decide) ?_
            refine kx_go (pc' := 114) (L' := [some (.ref 0), some (.int a0), some (.int (kx_bi a1)), some (.int y3)]) (st' := [.ref 0, .int (20 : Int32), .int (0 : Int32)]) 3 rfl ?_
            refine kx_q_getR (k := 3) (j := 3) kmo_0 rfl kfl_X5_16 rfl ?_
            refine kx_go (pc' := 118) (L' := [some (.ref 0), some (.int a0), some (.int (kx_bi a1)), some (.int y3)]) (st' := [.int (0 : Int32), .ref 3, .int (20 : Int32), .int (0 : Int32)]) 1 rfl ?_
            obtain ⟨hi14, h⟩ := kx_ck_some h
            refine kx_q_iald (kma_3) rfl hi14 ?_
            refine kx_go (pc' := 120) (L' := [some (.ref 0), some (.int a0), some (.int (kx_bi a1)), some (.int y3)]) (st' := [.int ((20 : Int32) - (M.1 3 ((0 : Int32)).toNatClampNeg)), .int (0 : Int32)]) 1 rfl ?_
            refine kx_q_max rfl kml_X5_113 kst_max kini_math kcd_max (Nat.le_of_ble_eq_true rfl) ?_
            cases h
            exact kx_r_iret rfl rfl
          · rw [if_neg hc13] at h
            have ghc5 : ¬ ((M.1 4 (a0).toNatClampNeg)).toInt = 1 := fun q => hc5 (Int32.toInt_inj.mp (q.trans (by decide)))
            have ghc6 : ¬ ((M.1 4 (a0).toNatClampNeg)).toInt = 2 := fun q => hc6 (Int32.toInt_inj.mp (q.trans (by decide)))
            have ghc8 : ¬ ((M.1 4 (a0).toNatClampNeg)).toInt = 3 := fun q => hc8 (Int32.toInt_inj.mp (q.trans (by decide)))
            have ghc10 : ¬ ((M.1 4 (a0).toNatClampNeg)).toInt = 4 := fun q => hc10 (Int32.toInt_inj.mp (q.trans (by decide)))
            have ghc13 : ¬ ((M.1 4 (a0).toNatClampNeg)).toInt = 5 := fun q => hc13 (Int32.toInt_inj.mp (q.trans (by decide)))
            refine kx_q_tsO (tgt := 124) (show decode T_X5_openBy.2.1 27 = .ok (.tableswitch 97 1 5 #[33, 37, 46, 64, 83], 33) from by decide +kernel) (by omega) (by decide) ?_
            refine kx_go (pc' := 125) (L' := [some (.ref 0), some (.int a0), some (.int (kx_bi a1)), some (.int y3)]) (st' := [.int y3]) 1 rfl ?_
            cases h
            exact kx_r_iret rfl rfl
theorem c_X5_openBy {d : Nat} (a0 : Int32) (a1 : Bool) (M : kx_M) (r : Int32) (h : f_X5_openBy M a0 a1 = some r) : kx_Call EM (d + 1) T_X5_openBy [.ref 0, .int a0, .int (kx_bi a1)] M (some (.int r)) M := kx_entry kok_X5_openBy (Nat.le_of_ble_eq_true rfl) rfl (t_X5_openBy (d := d) M a0 a1 h)
