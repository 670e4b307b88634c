set_option maxRecDepth 100000 in
set_option maxHeartbeats 4000000 in
theorem t_X5_openTo_60 {d : Nat} {r : Int32} (M : kx_M) (k21 : Int32 → Int32 → Int32 → Int32 → Option Int32) (hk21 : ∀ (x1 : Int32) (x2 : Int32) (x3 : Int32) (x4 : Int32), k21 x1 x2 x3 x4 = some r → kx_Rn EM T_X5_openTo (d + 2) (21, [some (.ref 0), some (.int x1), some (.int x2), some (.int x3), some (.int x4)], [], M) (some (.int r)) M) (x1 : Int32) (x2 : Int32) (x3 : Int32) (x4 : Int32) (h : f_X5_openTo_60 M k21 x1 x2 x3 x4 = some r) : kx_Rn EM T_X5_openTo (d + 2) (60, [some (.ref 0), some (.int x1), some (.int x2), some (.int x3), some (.int x4)], [], M) (some (.int r)) M := by
  unfold f_X5_openTo_60 at h
  refine kx_go (pc' := 61) (L' := [some (.ref 0), some (.int x1), some (.int x2), some (.int x3), some (.int x4)]) (st' := [.ref 0]) 1 rfl ?_
  refine kx_q_getR (k := 5) (j := 4) kmo_0 rfl kfl_X5_19 rfl ?_
  refine kx_go (pc' := 66) (L' := [some (.ref 0), some (.int x1), some (.int x2), some (.int x3), some (.int x4)]) (st' := [.int x4, .ref 4]) 1 rfl ?_
  obtain ⟨hi1, h⟩ := kx_ck_some h
  refine kx_q_iald (kma_4) rfl hi1 ?_
  refine kx_go (pc' := 68) (L' := [some (.ref 0), some (.int x1), some (.int x2), some (.int x3), some (.int x4)]) (st' := [.int (5 : Int32), .int (M.1 4 (x4).toNatClampNeg)]) 1 rfl ?_
  refine kx_r_icmp_ne rfl (fun hc2 => ?_) (fun hc2 => ?_)
  · rw [if_neg hc2] at h
    refine kx_go (pc' := 77) (L' := [some (.ref 0), some (.int x1), some (.int x2), some (.int x3), some (.int (x4 + (1)))]) (st' := []) 1 rfl ?_
    refine kx_r_goto rfl ?_
    refine kx_wk [true, true, true, true, true] ?_
    exact hk21 x1 x2 x3 (x4 + (1)) h
  · rw [if_pos hc2] at h
    refine kx_go (pc' := 77) (L' := [some (.ref 0), some (.int x1), some (.int x2), some (.int (x3 + (1))), some (.int (x4 + (1)))]) (st' := []) 2 rfl ?_
    refine kx_r_goto rfl ?_
    refine kx_wk [true, true, true, true, true] ?_
    exact hk21 x1 x2 (x3 + (1)) (x4 + (1)) h
set_option maxRecDepth 100000 in
set_option maxHeartbeats 4000000 in
theorem t_X5_openTo_21 {d : Nat} {r : Int32} (M : kx_M) : ∀ (n : Nat) (x1 : Int32) (x2 : Int32) (x3 : Int32) (x4 : Int32), f_X5_openTo_21 M n x1 x2 x3 x4 = some r → kx_Rn EM T_X5_openTo (d + 2) (21, [some (.ref 0), some (.int x1), some (.int x2), some (.int x3), some (.int x4)], [], M) (some (.int r)) M := by
  intro n
  induction n with
  | zero =>
    intro x1 x2 x3 x4 h
    cases (show (none : Option Int32) = some _ from h)
  | succ n ih =>
    intro x1 x2 x3 x4 h
    rw [f_X5_openTo_21.eq_2] at h
    refine kx_go (pc' := 24) (L' := [some (.ref 0), some (.int x1), some (.int x2), some (.int x3), some (.int x4)]) (st' := [.ref 0, .int x4]) 2 rfl ?_
    refine kx_q_getI (k := 4) kmo_0 rfl kfl_X5_82 rfl ?_
    refine kx_r_icmp_ge rfl (fun hc1 => ?_) (fun hc1 => ?_)
    · rw [if_pos hc1] at h
      refine kx_go (pc' := 81) (L' := [some (.ref 0), some (.int x1), some (.int x2), some (.int x3), some (.int x4)]) (st' := [.int x3]) 1 rfl ?_
      refine kx_r_callS (as := [.int x3]) (rest := []) (M1 := M) (rv := some (.int (f_X5_held x3))) rfl klk_X5_212 kst_X5_held rfl rfl (Nat.le_of_ble_eq_true rfl) (Nat.le_of_ble_eq_true rfl) (c_X5_held (d := d + 0) x3 M (f_X5_held x3) rfl) ?_
      show kx_Rn _ _ _ (84, [some (.ref 0), some (.int x1), some (.int x2), some (.int x3), some (.int x4)], [.int (f_X5_held x3)], M) _ _
      cases h
      exact kx_r_iret rfl rfl
    · rw [if_neg hc1] at h
      refine kx_go (pc' := 33) (L' := [some (.ref 0), some (.int x1), some (.int x2), some (.int x3), some (.int x4)]) (st' := [.int x1, .int x4]) 2 rfl ?_
      refine kx_r_icmp_eq rfl (fun hc2 => ?_) (fun hc2 => ?_)
      · rw [if_pos hc2] at h
        refine kx_go (pc' := 77) (L' := [some (.ref 0), some (.int x1), some (.int x2), some (.int x3), some (.int (x4 + (1)))]) (st' := []) 1 rfl ?_
        refine kx_r_goto rfl ?_
        refine kx_wk [true, true, true, true, true] ?_
        exact ih x1 x2 x3 (x4 + (1)) h
      · rw [if_neg hc2] at h
        refine kx_go (pc' := 39) (L' := [some (.ref 0), some (.int x1), some (.int x2), some (.int x3), some (.int x4)]) (st' := [.int x4, .int x2]) 2 rfl ?_
        refine kx_r_callS (as := [.int x2, .int x4]) (rest := []) (M1 := M) (rv := some (.int (kx_bi (f_X5_has x2 x4)))) rfl klk_X5_199 kst_X5_has rfl rfl (Nat.le_of_ble_eq_true rfl) (Nat.le_of_ble_eq_true rfl) (c_X5_has (d := d + 1) x2 x4 M (f_X5_has x2 x4) rfl) ?_
        show kx_Rn _ _ _ (42, [some (.ref 0), some (.int x1), some (.int x2), some (.int x3), some (.int x4)], [.int (kx_bi (f_X5_has x2 x4))], M) _ _
        refine kx_q_zne rfl (fun hc3 => ?_) (fun hc3 => ?_)
        · rw [if_pos hc3] at h
          refine kx_go (pc' := 51) (L' := [some (.ref 0), some (.int x1), some (.int x2), some (.int x3), some (.int x4)]) (st' := [.int x4, .ref 0]) 2 rfl ?_
          obtain ⟨v4, hv5, h⟩ := kx_bn_some h
          refine kx_q_callV (as := [.int x4]) (rest := []) (M1 := M) (rv := some (.int (kx_bi v4))) kmo_0 rfl klk_X5_209 kse_X5_asks rfl rfl rfl rfl (Nat.le_of_ble_eq_true rfl) (Nat.le_of_ble_eq_true rfl) (c_X5_asks (d := d + 1) x4 M v4 hv5) ?_
          show kx_Rn _ _ _ (54, [some (.ref 0), some (.int x1), some (.int x2), some (.int x3), some (.int x4)], [.int (kx_bi v4)], M) _ _
          refine kx_q_zeq rfl (fun hc6 => ?_) (fun hc6 => ?_)
          · rw [if_neg hc6] at h
            refine kx_wk [true, true, true, true, true] ?_
            exact t_X5_openTo_60 M (f_X5_openTo_21 M n) ih x1 x2 x3 x4 h
          · rw [if_pos hc6] at h
            refine kx_go (pc' := 60) (L' := [some (.ref 0), some (.int x1), some (.int x2), some (.int (x3 + (-2))), some (.int x4)]) (st' := []) 1 rfl ?_
            refine kx_wk [true, true, true, true, true] ?_
            exact t_X5_openTo_60 M (f_X5_openTo_21 M n) ih x1 x2 (x3 + (-2)) x4 h
        · rw [if_neg hc3] at h
          refine kx_r_goto rfl ?_
          refine kx_go (pc' := 77) (L' := [some (.ref 0), some (.int x1), some (.int x2), some (.int x3), some (.int (x4 + (1)))]) (st' := []) 1 rfl ?_
          refine kx_r_goto rfl ?_
          refine kx_wk [true, true, true, true, true] ?_
          exact ih x1 x2 x3 (x4 + (1)) h
set_option maxRecDepth 100000 in
set_option maxHeartbeats 4000000 in
theorem t_X5_openTo {d : Nat} {r : Int32} (M : kx_M) (a0 : Int32) (a1 : Int32) (h : f_X5_openTo M a0 a1 = some r) : kx_Rn EM T_X5_openTo (d + 2) (0, [some (.ref 0), some (.int a0), some (.int a1), none, none], [], M) (some (.int r)) M := by
  unfold f_X5_openTo at h
  refine kx_go (pc' := 6) (L' := [some (.ref 0), some (.int a0), some (.int a1), none, none]) (st' := [.int ((1 : Int32) <<< (a0 &&& 31)), .int a1, .int a0, .ref 0]) 6 rfl ?_
  refine kx_r_icmp_ne rfl (fun hc1 => ?_) (fun hc1 => ?_)
  · rw [if_neg hc1] at h
    refine kx_go (pc' := 14) (L' := [some (.ref 0), some (.int a0), some (.int a1), none, none]) (st' := [.int (0 : Int32), .int a0, .ref 0]) 1 rfl ?_
    obtain ⟨v2, hv3, h⟩ := kx_bn_some h
    refine kx_q_callV (as := [.int a0, .int (kx_bi false)]) (rest := []) (M1 := M) (rv := some (.int v2)) kmo_0 rfl klk_X5_205 kse_X5_openBy rfl rfl rfl rfl (Nat.le_of_ble_eq_true rfl) (Nat.le_of_ble_eq_true rfl) (c_X5_openBy (d := d + 0) a0 false M v2 hv3) ?_
    show kx_Rn _ _ _ (17, [some (.ref 0), some (.int a0), some (.int a1), none, none], [.int v2], M) _ _
    refine kx_go (pc' := 21) (L' := [some (.ref 0), some (.int a0), some (.int a1), some (.int v2), some (.int (0 : Int32))]) (st' := []) 3 rfl ?_
    refine kx_wk [true, true, true, true, true] ?_
    exact t_X5_openTo_21 M kx_fuel a0 a1 v2 (0 : Int32) h
  · rw [if_pos hc1] at h
    refine kx_go (pc' := 10) (L' := [some (.ref 0), some (.int a0), some (.int a1), none, none]) (st' := [.int (1 : Int32), .int a0, .ref 0]) 1 rfl ?_
    refine kx_r_goto rfl ?_
    obtain ⟨v4, hv5, h⟩ := kx_bn_some h
    refine kx_q_callV (as := [.int a0, .int (kx_bi true)]) (rest := []) (M1 := M) (rv := some (.int v4)) kmo_0 rfl klk_X5_205 kse_X5_openBy rfl rfl rfl rfl (Nat.le_of_ble_eq_true rfl) (Nat.le_of_ble_eq_true rfl) (c_X5_openBy (d := d + 0) a0 true M v4 hv5) ?_
    show kx_Rn _ _ _ (17, [some (.ref 0), some (.int a0), some (.int a1), none, none], [.int v4], M) _ _
    refine kx_go (pc' := 21) (L' := [some (.ref 0), some (.int a0), some (.int a1), some (.int v4), some (.int (0 : Int32))]) (st' := []) 3 rfl ?_
    refine kx_wk [true, true, true, true, true] ?_
    exact t_X5_openTo_21 M kx_fuel a0 a1 v4 (0 : Int32) h
theorem c_X5_openTo {d : Nat} (a0 : Int32) (a1 : Int32) (M : kx_M) (r : Int32) (h : f_X5_openTo M a0 a1 = some r) : kx_Call EM (d + 2) T_X5_openTo [.ref 0, .int a0, .int a1] M (some (.int r)) M := kx_entry kok_X5_openTo (Nat.le_of_ble_eq_true rfl) rfl (t_X5_openTo (d := d) M a0 a1 h)
set_option maxRecDepth 100000 in
set_option maxHeartbeats 4000000 in
theorem t_X5_says {d : Nat} {r : Int32} {M' : kx_M} (a0 : Int32) (a1 : Int32) (M : kx_M) (h : f_X5_says a0 a1 M = some (r, M')) : kx_Rn EM T_X5_says (d + 3) (0, [some (.ref 0), some (.int a0), some (.int a1), none], [], M) (some (.int r)) M' := by
  unfold f_X5_says at h
  refine kx_go (pc' := 1) (L' := [some (.ref 0), some (.int a0), some (.int a1), none]) (st' := [.int a0]) 1 rfl ?_
  refine kx_r_callS (as := [.int a0]) (rest := []) (M1 := M) (rv := some (.int (kx_bi (f_X5_isShelf a0)))) rfl klk_X5_85 kst_X5_isShelf rfl rfl (Nat.le_of_ble_eq_true rfl) (Nat.le_of_ble_eq_true rfl) (c_X5_isShelf (d := d + 1) a0 M (f_X5_isShelf a0) rfl) ?_
  show kx_Rn _ _ _ (4, [some (.ref 0), some (.int a0), some (.int a1), none], [.int (kx_bi (f_X5_isShelf a0))], M) _ _
  refine kx_q_zeq rfl (fun hc1 => ?_) (fun hc1 => ?_)
  · rw [if_neg hc1] at h
    refine kx_go (pc' := 19) (L' := [some (.ref 0), some (.int a0), some (.int a1), none]) (st' := [.int (-2 : Int32), .ref 0]) 2 rfl ?_
    obtain ⟨v2, M4, hv3, h⟩ := kx_bd_some h
    refine kx_q_callV (as := [.int (-2 : Int32)]) (rest := []) (M1 := M4) (rv := some (.int v2)) kmo_0 rfl klk_X5_89 kse_X5_no rfl rfl rfl rfl (Nat.le_of_ble_eq_true rfl) (Nat.le_of_ble_eq_true rfl) (c_X5_no (d := d + 2) (-2 : Int32) M v2 M4 hv3) ?_
    show kx_Rn _ _ _ (22, [some (.ref 0), some (.int a0), some (.int a1), none], [.int v2], M4) _ _
    cases h
    exact kx_r_iret rfl rfl
  · rw [if_pos hc1] at h
    refine kx_go (pc' := 10) (L' := [some (.ref 0), some (.int a0), some (.int a1), none]) (st' := [.int (5 : Int32), .int (0 : Int32), .int a1]) 3 rfl ?_
    refine kx_r_callS (as := [.int a1, .int (0 : Int32), .int (5 : Int32)]) (rest := []) (M1 := M) (rv := some (.int (kx_bi (f_X5_within a1 (0 : Int32) (5 : Int32))))) rfl klk_X5_78 kst_X5_within rfl rfl (Nat.le_of_ble_eq_true rfl) (Nat.le_of_ble_eq_true rfl) (c_X5_within (d := d + 2) a1 (0 : Int32) (5 : Int32) M (f_X5_within a1 (0 : Int32) (5 : Int32)) rfl) ?_
    show kx_Rn _ _ _ (13, [some (.ref 0), some (.int a0), some (.int a1), none], [.int (kx_bi (f_X5_within a1 (0 : Int32) (5 : Int32)))], M) _ _
    refine kx_q_zne rfl (fun hc5 => ?_) (fun hc5 => ?_)
    · rw [if_pos hc5] at h
      refine kx_go (pc' := 25) (L' := [some (.ref 0), some (.int a0), some (.int a1), none]) (st' := [.int a0, .ref 0]) 2 rfl ?_
      obtain ⟨v6, hv7, h⟩ := kx_bn_some h
      refine kx_q_callV (as := [.int a0]) (rest := []) (M1 := M) (rv := some (.int (kx_bi v6))) kmo_0 rfl klk_X5_93 kse_X5_isRow rfl rfl rfl rfl (Nat.le_of_ble_eq_true rfl) (Nat.le_of_ble_eq_true rfl) (c_X5_isRow (d := d + 1) a0 M v6 hv7) ?_
      show kx_Rn _ _ _ (28, [some (.ref 0), some (.int a0), some (.int a1), none], [.int (kx_bi v6)], M) _ _
      refine kx_q_zeq rfl (fun hc8 => ?_) (fun hc8 => ?_)
      · rw [if_neg hc8] at h
        refine kx_go (pc' := 39) (L' := [some (.ref 0), some (.int a0), some (.int a1), none]) (st' := [.ref 0]) 1 rfl ?_
        refine kx_q_getR (k := 16) (j := 9) kmo_0 rfl kfl_X5_34 rfl ?_
        refine kx_go (pc' := 43) (L' := [some (.ref 0), some (.int a0), some (.int a1), none]) (st' := [.int a0, .ref 9]) 1 rfl ?_
        obtain ⟨hi9, h⟩ := kx_ck_some h
        refine kx_q_iald (kma_9) rfl hi9 ?_
        refine kx_r_if_ge rfl (fun hc10 => ?_) (fun hc10 => ?_)
        · rw [if_pos hc10] at h
          refine kx_go (pc' := 55) (L' := [some (.ref 0), some (.int a0), some (.int a1), none]) (st' := [.ref 0]) 1 rfl ?_
          refine kx_q_getR (k := 16) (j := 9) kmo_0 rfl kfl_X5_34 rfl ?_
          refine kx_go (pc' := 59) (L' := [some (.ref 0), some (.int a0), some (.int a1), none]) (st' := [.int a0, .ref 9]) 1 rfl ?_
          obtain ⟨hi11, h⟩ := kx_ck_some h
          refine kx_q_iald (kma_9) rfl hi11 ?_
          refine kx_go (pc' := 65) (L' := [some (.ref 0), some (.int a0), some (.int a1), some (.int ((M.1 9 (a0).toNatClampNeg) - (10 : Int32)))]) (st' := [.ref 0]) 4 rfl ?_
          refine kx_q_getR (k := 5) (j := 4) kmo_0 rfl kfl_X5_19 rfl ?_
          refine kx_go (pc' := 69) (L' := [some (.ref 0), some (.int a0), some (.int a1), some (.int ((M.1 9 (a0).toNatClampNeg) - (10 : Int32)))]) (st' := [.int ((M.1 9 (a0).toNatClampNeg) - (10 : Int32)), .ref 4]) 1 rfl ?_
          obtain ⟨hi12, h⟩ := kx_ck_some h
          refine kx_q_iald (kma_4) rfl hi12 ?_
          refine kx_go (pc' := 71) (L' := [some (.ref 0), some (.int a0), some (.int a1), some (.int ((M.1 9 (a0).toNatClampNeg) - (10 : Int32)))]) (st' := [.int a1, .int (M.1 4 (((M.1 9 (a0).toNatClampNeg) - (10 : Int32))).toNatClampNeg)]) 1 rfl ?_
          refine kx_r_callS (as := [.int (M.1 4 (((M.1 9 (a0).toNatClampNeg) - (10 : Int32))).toNatClampNeg), .int a1]) (rest := []) (M1 := M) (rv := some (.int (kx_bi (f_X5_isUnder (M.1 4 (((M.1 9 (a0).toNatClampNeg) - (10 : Int32))).toNatClampNeg) a1)))) rfl klk_X5_106 kst_X5_isUnder rfl rfl (Nat.le_of_ble_eq_true rfl) (Nat.le_of_ble_eq_true rfl) (c_X5_isUnder (d := d + 2) (M.1 4 (((M.1 9 (a0).toNatClampNeg) - (10 : Int32))).toNatClampNeg) a1 M (f_X5_isUnder (M.1 4 (((M.1 9 (a0).toNatClampNeg) - (10 : Int32))).toNatClampNeg) a1) rfl) ?_
          show kx_Rn _ _ _ (74, [some (.ref 0), some (.int a0), some (.int a1), some (.int ((M.1 9 (a0).toNatClampNeg) - (10 : Int32)))], [.int (kx_bi (f_X5_isUnder (M.1 4 (((M.1 9 (a0).toNatClampNeg) - (10 : Int32))).toNatClampNeg) a1))], M) _ _
          refine kx_q_zne rfl (fun hc13 => ?_) (fun hc13 => ?_)
          · rw [if_pos hc13] at h
            refine kx_go (pc' := 85) (L' := [some (.ref 0), some (.int a0), some (.int a1), some (.int ((M.1 9 (a0).toNatClampNeg) - (10 : Int32)))]) (st' := [.int a1]) 1 rfl ?_
            refine kx_r_if_ne rfl (fun hc14 => ?_) (fun hc14 => ?_)
            · rw [if_neg hc14] at h
              refine kx_go (pc' := 102) (L' := [some (.ref 0), some (.int a0), some (.int a1), some (.int ((M.1 9 (a0).toNatClampNeg) - (10 : Int32)))]) (st' := [.int ((1 : Int32) <<< (((M.1 9 (a0).toNatClampNeg) - (10 : Int32)) &&& 31)), .int ((M.1 9 (a0).toNatClampNeg) - (10 : Int32)), .ref 0]) 5 rfl ?_
              obtain ⟨v15, hv16, h⟩ := kx_bn_some h
              refine kx_q_callV (as := [.int ((M.1 9 (a0).toNatClampNeg) - (10 : Int32)), .int ((1 : Int32) <<< (((M.1 9 (a0).toNatClampNeg) - (10 : Int32)) &&& 31))]) (rest := []) (M1 := M) (rv := some (.int v15)) kmo_0 rfl klk_X5_110 kse_X5_openTo rfl rfl rfl rfl (Nat.le_of_ble_eq_true rfl) (Nat.le_of_ble_eq_true rfl) (c_X5_openTo (d := d + 0) ((M.1 9 (a0).toNatClampNeg) - (10 : Int32)) ((1 : Int32) <<< (((M.1 9 (a0).toNatClampNeg) - (10 : Int32)) &&& 31)) M v15 hv16) ?_
              show kx_Rn _ _ _ (105, [some (.ref 0), some (.int a0), some (.int a1), some (.int ((M.1 9 (a0).toNatClampNeg) - (10 : Int32)))], [.int v15], M) _ _
              cases h
              exact kx_r_iret rfl rfl
            · rw [if_pos hc14] at h
              refine kx_go (pc' := 89) (L' := [some (.ref 0), some (.int a0), some (.int a1), some (.int ((M.1 9 (a0).toNatClampNeg) - (10 : Int32)))]) (st' := [.ref 0]) 1 rfl ?_
              refine kx_q_getR (k := 7) (j := 6) kmo_0 rfl kfl_X5_25 rfl ?_
              refine kx_go (pc' := 93) (L' := [some (.ref 0), some (.int a0), some (.int a1), some (.int ((M.1 9 (a0).toNatClampNeg) - (10 : Int32)))]) (st' := [.int ((M.1 9 (a0).toNatClampNeg) - (10 : Int32)), .ref 6]) 1 rfl ?_
              obtain ⟨hi17, h⟩ := kx_ck_some h
              refine kx_q_iald (kma_6) rfl hi17 ?_
              refine kx_r_goto rfl ?_
              cases h
              exact kx_r_iret rfl rfl
          · rw [if_neg hc13] at h
            refine kx_go (pc' := 80) (L' := [some (.ref 0), some (.int a0), some (.int a1), some (.int ((M.1 9 (a0).toNatClampNeg) - (10 : Int32)))]) (st' := [.int (-3 : Int32), .ref 0]) 2 rfl ?_
            obtain ⟨v18, M20, hv19, h⟩ := kx_bd_some h
            refine kx_q_callV (as := [.int (-3 : Int32)]) (rest := []) (M1 := M20) (rv := some (.int v18)) kmo_0 rfl klk_X5_89 kse_X5_no rfl rfl rfl rfl (Nat.le_of_ble_eq_true rfl) (Nat.le_of_ble_eq_true rfl) (c_X5_no (d := d + 2) (-3 : Int32) M v18 M20 hv19) ?_
            show kx_Rn _ _ _ (83, [some (.ref 0), some (.int a0), some (.int a1), some (.int ((M.1 9 (a0).toNatClampNeg) - (10 : Int32)))], [.int v18], M20) _ _
            cases h
            exact kx_r_iret rfl rfl
        · rw [if_neg hc10] at h
          refine kx_go (pc' := 50) (L' := [some (.ref 0), some (.int a0), some (.int a1), none]) (st' := [.int (-4 : Int32), .ref 0]) 2 rfl ?_
          obtain ⟨v21, M23, hv22, h⟩ := kx_bd_some h
          refine kx_q_callV (as := [.int (-4 : Int32)]) (rest := []) (M1 := M23) (rv := some (.int v21)) kmo_0 rfl klk_X5_89 kse_X5_no rfl rfl rfl rfl (Nat.le_of_ble_eq_true rfl) (Nat.le_of_ble_eq_true rfl) (c_X5_no (d := d + 2) (-4 : Int32) M v21 M23 hv22) ?_
          show kx_Rn _ _ _ (53, [some (.ref 0), some (.int a0), some (.int a1), none], [.int v21], M23) _ _
          cases h
          exact kx_r_iret rfl rfl
      · rw [if_pos hc8] at h
        refine kx_go (pc' := 34) (L' := [some (.ref 0), some (.int a0), some (.int a1), none]) (st' := [.int (-3 : Int32), .ref 0]) 2 rfl ?_
        obtain ⟨v24, M26, hv25, h⟩ := kx_bd_some h
        refine kx_q_callV (as := [.int (-3 : Int32)]) (rest := []) (M1 := M26) (rv := some (.int v24)) kmo_0 rfl klk_X5_89 kse_X5_no rfl rfl rfl rfl (Nat.le_of_ble_eq_true rfl) (Nat.le_of_ble_eq_true rfl) (c_X5_no (d := d + 2) (-3 : Int32) M v24 M26 hv25) ?_
        show kx_Rn _ _ _ (37, [some (.ref 0), some (.int a0), some (.int a1), none], [.int v24], M26) _ _
        cases h
        exact kx_r_iret rfl rfl
    · rw [if_neg hc5] at h
      refine kx_go (pc' := 19) (L' := [some (.ref 0), some (.int a0), some (.int a1), none]) (st' := [.int (-2 : Int32), .ref 0]) 2 rfl ?_
      obtain ⟨v27, M29, hv28, h⟩ := kx_bd_some h
      refine kx_q_callV (as := [.int (-2 : Int32)]) (rest := []) (M1 := M29) (rv := some (.int v27)) kmo_0 rfl klk_X5_89 kse_X5_no rfl rfl rfl rfl (Nat.le_of_ble_eq_true rfl) (Nat.le_of_ble_eq_true rfl) (c_X5_no (d := d + 2) (-2 : Int32) M v27 M29 hv28) ?_
      show kx_Rn _ _ _ (22, [some (.ref 0), some (.int a0), some (.int a1), none], [.int v27], M29) _ _
      cases h
      exact kx_r_iret rfl rfl
theorem c_X5_says {d : Nat} (a0 : Int32) (a1 : Int32) (M : kx_M) (r : Int32) (M' : kx_M) (h : f_X5_says a0 a1 M = some (r, M')) : kx_Call EM (d + 3) T_X5_says [.ref 0, .int a0, .int a1] M (some (.int r)) M' := kx_entry kok_X5_says (Nat.le_of_ble_eq_true rfl) rfl (t_X5_says (d := d) a0 a1 M h)
set_option maxRecDepth 100000 in
set_option maxHeartbeats 4000000 in
theorem t_X5_paves {d : Nat} {r : Int32} {M' : kx_M} (a0 : Int32) (M : kx_M) (h : f_X5_paves a0 M = some (r, M')) : kx_Rn EM T_X5_paves (d + 1) (0, [some (.ref 0), some (.int a0), none], [], M) (some (.int r)) M' := by
  unfold f_X5_paves at h
  refine kx_go (pc' := 3) (L' := [some (.ref 0), some (.int a0), none]) (st' := [.ref 0, .int (4 : Int32), .int a0]) 3 rfl ?_
  refine kx_q_getI (k := 0) kmo_0 rfl kfl_X5_65 rfl ?_
  refine kx_q_max rfl kml_X5_113 kst_max kini_math kcd_max (Nat.le_of_ble_eq_true rfl) ?_
  refine kx_go (pc' := 11) (L' := [some (.ref 0), some (.int a0), none]) (st' := [.int (24 : Int32), .int (if (4 : Int32) < (M.1 0 0) then (M.1 0 0) else (4 : Int32)), .int a0]) 1 rfl ?_
  refine kx_r_callS (as := [.int a0, .int (if (4 : Int32) < (M.1 0 0) then (M.1 0 0) else (4 : Int32)), .int (24 : Int32)]) (rest := []) (M1 := M) (rv := some (.int (kx_bi (f_X5_within a0 (if (4 : Int32) < (M.1 0 0) then (M.1 0 0) else (4 : Int32)) (24 : Int32))))) rfl klk_X5_78 kst_X5_within rfl rfl (Nat.le_of_ble_eq_true rfl) (Nat.le_of_ble_eq_true rfl) (c_X5_within (d := d + 0) a0 (if (4 : Int32) < (M.1 0 0) then (M.1 0 0) else (4 : Int32)) (24 : Int32) M (f_X5_within a0 (if (4 : Int32) < (M.1 0 0) then (M.1 0 0) else (4 : Int32)) (24 : Int32)) rfl) ?_
  show kx_Rn _ _ _ (14, [some (.ref 0), some (.int a0), none], [.int (kx_bi (f_X5_within a0 (if (4 : Int32) < (M.1 0 0) then (M.1 0 0) else (4 : Int32)) (24 : Int32)))], M) _ _
  refine kx_q_zne rfl (fun hc1 => ?_) (fun hc1 => ?_)
  · rw [if_pos hc1] at h
    refine kx_go (pc' := 25) (L' := [some (.ref 0), some (.int a0), none]) (st' := [.ref 0]) 1 rfl ?_
    refine kx_q_getI (k := 0) kmo_0 rfl kfl_X5_65 rfl ?_
    refine kx_go (pc' := 31) (L' := [some (.ref 0), some (.int a0), some (.int (M.1 0 0))]) (st' := [.int a0, .ref 0]) 3 rfl ?_
    refine kx_q_putI (k := 0) kmo_0 rfl kfw_X5_65 rfl ?_
    refine kx_go (pc' := 35) (L' := [some (.ref 0), some (.int a0), some (.int (M.1 0 0))]) (st' := [.int (M.1 0 0)]) 1 rfl ?_
    cases h
    exact kx_r_iret rfl rfl
  · rw [if_neg hc1] at h
    refine kx_go (pc' := 20) (L' := [some (.ref 0), some (.int a0), none]) (st' := [.int (-2 : Int32), .ref 0]) 2 rfl ?_
    obtain ⟨v2, M4, hv3, h⟩ := kx_bd_some h
    refine kx_q_callV (as := [.int (-2 : Int32)]) (rest := []) (M1 := M4) (rv := some (.int v2)) kmo_0 rfl klk_X5_89 kse_X5_no rfl rfl rfl rfl (Nat.le_of_ble_eq_true rfl) (Nat.le_of_ble_eq_true rfl) (c_X5_no (d := d + 0) (-2 : Int32) M v2 M4 hv3) ?_
    show kx_Rn _ _ _ (23, [some (.ref 0), some (.int a0), none], [.int v2], M4) _ _
    cases h
    exact kx_r_iret rfl rfl
theorem c_X5_paves {d : Nat} (a0 : Int32) (M : kx_M) (r : Int32) (M' : kx_M) (h : f_X5_paves a0 M = some (r, M')) : kx_Call EM (d + 1) T_X5_paves [.ref 0, .int a0] M (some (.int r)) M' := kx_entry kok_X5_paves (Nat.le_of_ble_eq_true rfl) rfl (t_X5_paves (d := d) a0 M h)
set_option maxRecDepth 100000 in
set_option maxHeartbeats 4000000 in
theorem t_X5_newOne {d : Nat} {r : Int32} {M' : kx_M} (a0 : Int32) (a1 : Int32) (a2 : Int32) (M : kx_M) (h : f_X5_newOne a0 a1 a2 M = some (r, M')) : kx_Rn EM T_X5_newOne (d + 0) (0, [some (.ref 0), some (.int a0), some (.int a1), some (.int a2)], [], M) (some (.int r)) M' := by
  unfold f_X5_newOne at h
  refine kx_go (pc' := 1) (L' := [some (.ref 0), some (.int a0), some (.int a1), some (.int a2)]) (st' := [.ref 0]) 1 rfl ?_
  refine kx_q_getR (k := 5) (j := 4) kmo_0 rfl kfl_X5_19 rfl ?_
  refine kx_go (pc' := 5) (L' := [some (.ref 0), some (.int a0), some (.int a1), some (.int a2)]) (st' := [.ref 0, .ref 4]) 1 rfl ?_
  refine kx_q_getI (k := 4) kmo_0 rfl kfl_X5_82 rfl ?_
  refine kx_go (pc' := 9) (L' := [some (.ref 0), some (.int a0), some (.int a1), some (.int a2)]) (st' := [.int a0, .int (M.1 0 4), .ref 4]) 1 rfl ?_
  obtain ⟨hi1, h⟩ := kx_ck_some h
  refine kx_q_iast (kma_4) rfl hi1 ?_
  refine kx_go (pc' := 11) (L' := [some (.ref 0), some (.int a0), some (.int a1), some (.int a2)]) (st' := [.ref 0]) 1 rfl ?_
  refine kx_q_getR (k := 6) (j := 5) kmo_0 rfl kfl_X5_22 rfl ?_
  refine kx_go (pc' := 15) (L' := [some (.ref 0), some (.int a0), some (.int a1), some (.int a2)]) (st' := [.ref 0, .ref 5]) 1 rfl ?_
  refine kx_q_getI (k := 4) kmo_0 rfl kfl_X5_82 rfl ?_
  refine kx_go (pc' := 19) (L' := [some (.ref 0), some (.int a0), some (.int a1), some (.int a2)]) (st' := [.int a1, .int ((kx_u1 M 4 ((M.1 0 4)).toNatClampNeg a0).1 0 4), .ref 5]) 1 rfl ?_
  obtain ⟨hi2, h⟩ := kx_ck_some h
  refine kx_q_iast (kma_5) rfl hi2 ?_
  obtain ⟨M3, hM3, h⟩ := kx_lt_ex h
  rw [← hM3]
  refine kx_go (pc' := 21) (L' := [some (.ref 0), some (.int a0), some (.int a1), some (.int a2)]) (st' := [.ref 0]) 1 rfl ?_
  refine kx_q_getR (k := 7) (j := 6) kmo_0 rfl kfl_X5_25 rfl ?_
  refine kx_go (pc' := 25) (L' := [some (.ref 0), some (.int a0), some (.int a1), some (.int a2)]) (st' := [.ref 0, .ref 6]) 1 rfl ?_
  refine kx_q_getI (k := 4) kmo_0 rfl kfl_X5_82 rfl ?_
  refine kx_go (pc' := 29) (L' := [some (.ref 0), some (.int a0), some (.int a1), some (.int a2)]) (st' := [.int a2, .int (M3.1 0 4), .ref 6]) 1 rfl ?_
  obtain ⟨hi4, h⟩ := kx_ck_some h
  refine kx_q_iast (kma_6) rfl hi4 ?_
  refine kx_go (pc' := 31) (L' := [some (.ref 0), some (.int a0), some (.int a1), some (.int a2)]) (st' := [.ref 0]) 1 rfl ?_
  refine kx_q_getR (k := 8) (j := 7) kmo_0 rfl kfl_X5_28 rfl ?_
  refine kx_go (pc' := 35) (L' := [some (.ref 0), some (.int a0), some (.int a1), some (.int a2)]) (st' := [.ref 0, .ref 7]) 1 rfl ?_
  refine kx_q_getI (k := 4) kmo_0 rfl kfl_X5_82 rfl ?_
  refine kx_go (pc' := 39) (L' := [some (.ref 0), some (.int a0), some (.int a1), some (.int a2)]) (st' := [.int (0 : Int32), .int ((kx_u1 M3 6 ((M3.1 0 4)).toNatClampNeg a2).1 0 4), .ref 7]) 1 rfl ?_
  obtain ⟨hi5, h⟩ := kx_ck_some h
  refine kx_q_iast (kma_7) rfl hi5 ?_
  obtain ⟨M6, hM6, h⟩ := kx_lt_ex h
  rw [← hM6]
  refine kx_go (pc' := 42) (L' := [some (.ref 0), some (.int a0), some (.int a1), some (.int a2)]) (st' := [.ref 0, .ref 0]) 2 rfl ?_
  refine kx_q_getI (k := 4) kmo_0 rfl kfl_X5_82 rfl ?_
  refine kx_go (pc' := 48) (L' := [some (.ref 0), some (.int a0), some (.int a1), some (.int a2)]) (st' := [.int ((M6.1 0 4) + (1 : Int32)), .ref 0, .int (M6.1 0 4)]) 3 rfl ?_
  refine kx_q_putI (k := 4) kmo_0 rfl kfw_X5_82 rfl ?_
  cases h
  exact kx_r_iret rfl rfl
theorem c_X5_newOne {d : Nat} (a0 : Int32) (a1 : Int32) (a2 : Int32) (M : kx_M) (r : Int32) (M' : kx_M) (h : f_X5_newOne a0 a1 a2 M = some (r, M')) : kx_Call EM (d + 0) T_X5_newOne [.ref 0, .int a0, .int a1, .int a2] M (some (.int r)) M' := kx_entry kok_X5_newOne (Nat.le_of_ble_eq_true rfl) rfl (t_X5_newOne (d := d) a0 a1 a2 M h)
set_option maxRecDepth 100000 in
set_option maxHeartbeats 4000000 in
theorem t_X5_visitor {d : Nat} {r : Int32} {M' : kx_M} (a0 : Int32) (a1 : Int32) (a2 : Int32) (M : kx_M) (h : f_X5_visitor a0 a1 a2 M = some (r, M')) : kx_Rn EM T_X5_visitor (d + 1) (0, [some (.ref 0), some (.int a0), some (.int a1), some (.int a2)], [], M) (some (.int r)) M' := by
  unfold f_X5_visitor at h
  refine kx_go (pc' := 3) (L' := [some (.ref 0), some (.int a0), some (.int a1), some (.int a2)]) (st' := [.int (5 : Int32), .int (0 : Int32), .int a0]) 3 rfl ?_
  refine kx_r_callS (as := [.int a0, .int (0 : Int32), .int (5 : Int32)]) (rest := []) (M1 := M) (rv := some (.int (kx_bi (f_X5_within a0 (0 : Int32) (5 : Int32))))) rfl klk_X5_78 kst_X5_within rfl rfl (Nat.le_of_ble_eq_true rfl) (Nat.le_of_ble_eq_true rfl) (c_X5_within (d := d + 0) a0 (0 : Int32) (5 : Int32) M (f_X5_within a0 (0 : Int32) (5 : Int32)) rfl) ?_
  show kx_Rn _ _ _ (6, [some (.ref 0), some (.int a0), some (.int a1), some (.int a2)], [.int (kx_bi (f_X5_within a0 (0 : Int32) (5 : Int32)))], M) _ _
  refine kx_q_zeq rfl (fun hc1 => ?_) (fun hc1 => ?_)
  · rw [if_neg hc1] at h
    refine kx_go (pc' := 32) (L' := [some (.ref 0), some (.int a0), some (.int a1), some (.int a2)]) (st' := [.int (-2 : Int32), .ref 0]) 2 rfl ?_
    obtain ⟨v2, M4, hv3, h⟩ := kx_bd_some h
    refine kx_q_callV (as := [.int (-2 : Int32)]) (rest := []) (M1 := M4) (rv := some (.int v2)) kmo_0 rfl klk_X5_89 kse_X5_no rfl rfl rfl rfl (Nat.le_of_ble_eq_true rfl) (Nat.le_of_ble_eq_true rfl) (c_X5_no (d := d + 0) (-2 : Int32) M v2 M4 hv3) ?_
    show kx_Rn _ _ _ (35, [some (.ref 0), some (.int a0), some (.int a1), some (.int a2)], [.int v2], M4) _ _
    cases h
    exact kx_r_iret rfl rfl
  · rw [if_pos hc1] at h
    refine kx_go (pc' := 13) (L' := [some (.ref 0), some (.int a0), some (.int a1), some (.int a2)]) (st' := [.int (9 : Int32), .int (0 : Int32), .int a1]) 3 rfl ?_
    refine kx_r_callS (as := [.int a1, .int (0 : Int32), .int (9 : Int32)]) (rest := []) (M1 := M) (rv := some (.int (kx_bi (f_X5_within a1 (0 : Int32) (9 : Int32))))) rfl klk_X5_78 kst_X5_within rfl rfl (Nat.le_of_ble_eq_true rfl) (Nat.le_of_ble_eq_true rfl) (c_X5_within (d := d + 0) a1 (0 : Int32) (9 : Int32) M (f_X5_within a1 (0 : Int32) (9 : Int32)) rfl) ?_
    show kx_Rn _ _ _ (16, [some (.ref 0), some (.int a0), some (.int a1), some (.int a2)], [.int (kx_bi (f_X5_within a1 (0 : Int32) (9 : Int32)))], M) _ _
    refine kx_q_zeq rfl (fun hc5 => ?_) (fun hc5 => ?_)
    · rw [if_neg hc5] at h
      refine kx_go (pc' := 32) (L' := [some (.ref 0), some (.int a0), some (.int a1), some (.int a2)]) (st' := [.int (-2 : Int32), .ref 0]) 2 rfl ?_
      obtain ⟨v6, M8, hv7, h⟩ := kx_bd_some h
      refine kx_q_callV (as := [.int (-2 : Int32)]) (rest := []) (M1 := M8) (rv := some (.int v6)) kmo_0 rfl klk_X5_89 kse_X5_no rfl rfl rfl rfl (Nat.le_of_ble_eq_true rfl) (Nat.le_of_ble_eq_true rfl) (c_X5_no (d := d + 0) (-2 : Int32) M v6 M8 hv7) ?_
      show kx_Rn _ _ _ (35, [some (.ref 0), some (.int a0), some (.int a1), some (.int a2)], [.int v6], M8) _ _
      cases h
      exact kx_r_iret rfl rfl
    · rw [if_pos hc5] at h
      refine kx_go (pc' := 23) (L' := [some (.ref 0), some (.int a0), some (.int a1), some (.int a2)]) (st' := [.int (20 : Int32), .int (0 : Int32), .int a2]) 3 rfl ?_
      refine kx_r_callS (as := [.int a2, .int (0 : Int32), .int (20 : Int32)]) (rest := []) (M1 := M) (rv := some (.int (kx_bi (f_X5_within a2 (0 : Int32) (20 : Int32))))) rfl klk_X5_78 kst_X5_within rfl rfl (Nat.le_of_ble_eq_true rfl) (Nat.le_of_ble_eq_true rfl) (c_X5_within (d := d + 0) a2 (0 : Int32) (20 : Int32) M (f_X5_within a2 (0 : Int32) (20 : Int32)) rfl) ?_
      show kx_Rn _ _ _ (26, [some (.ref 0), some (.int a0), some (.int a1), some (.int a2)], [.int (kx_bi (f_X5_within a2 (0 : Int32) (20 : Int32)))], M) _ _
      refine kx_q_zne rfl (fun hc9 => ?_) (fun hc9 => ?_)
      · rw [if_pos hc9] at h
        refine kx_go (pc' := 37) (L' := [some (.ref 0), some (.int a0), some (.int a1), some (.int a2)]) (st' := [.ref 0]) 1 rfl ?_
        refine kx_q_getI (k := 4) kmo_0 rfl kfl_X5_82 rfl ?_
        refine kx_go (pc' := 42) (L' := [some (.ref 0), some (.int a0), some (.int a1), some (.int a2)]) (st' := [.int (8 : Int32), .int (M.1 0 4)]) 1 rfl ?_
        refine kx_r_icmp_ne rfl (fun hc10 => ?_) (fun hc10 => ?_)
        · rw [if_neg hc10] at h
          refine kx_go (pc' := 58) (L' := [some (.ref 0), some (.int a0), some (.int a1), some (.int a2)]) (st' := [.int a2, .int a1, .int a0, .ref 0]) 4 rfl ?_
          obtain ⟨v11, M13, hv12, h⟩ := kx_bd_some h
          refine kx_q_callV (as := [.int a0, .int a1, .int a2]) (rest := []) (M1 := M13) (rv := some (.int v11)) kmo_0 rfl klk_X5_116 kse_X5_newOne rfl rfl rfl rfl (Nat.le_of_ble_eq_true rfl) (Nat.le_of_ble_eq_true rfl) (c_X5_newOne (d := d + 0) a0 a1 a2 M v11 M13 hv12) ?_
          show kx_Rn _ _ _ (61, [some (.ref 0), some (.int a0), some (.int a1), some (.int a2)], [.int v11], M13) _ _
          cases h
          exact kx_r_iret rfl rfl
        · rw [if_pos hc10] at h
          refine kx_go (pc' := 48) (L' := [some (.ref 0), some (.int a0), some (.int a1), some (.int a2)]) (st' := [.int (-6 : Int32), .ref 0]) 2 rfl ?_
          obtain ⟨v14, M16, hv15, h⟩ := kx_bd_some h
          refine kx_q_callV (as := [.int (-6 : Int32)]) (rest := []) (M1 := M16) (rv := some (.int v14)) kmo_0 rfl klk_X5_89 kse_X5_no rfl rfl rfl rfl (Nat.le_of_ble_eq_true rfl) (Nat.le_of_ble_eq_true rfl) (c_X5_no (d := d + 0) (-6 : Int32) M v14 M16 hv15) ?_
          show kx_Rn _ _ _ (51, [some (.ref 0), some (.int a0), some (.int a1), some (.int a2)], [.int v14], M16) _ _
          refine kx_r_goto rfl ?_
          cases h
          exact kx_r_iret rfl rfl
      · rw [if_neg hc9] at h
        refine kx_go (pc' := 32) (L' := [some (.ref 0), some (.int a0), some (.int a1), some (.int a2)]) (st' := [.int (-2 : Int32), .ref 0]) 2 rfl ?_
        obtain ⟨v17, M19, hv18, h⟩ := kx_bd_some h
        refine kx_q_callV (as := [.int (-2 : Int32)]) (rest := []) (M1 := M19) (rv := some (.int v17)) kmo_0 rfl klk_X5_89 kse_X5_no rfl rfl rfl rfl (Nat.le_of_ble_eq_true rfl) (Nat.le_of_ble_eq_true rfl) (c_X5_no (d := d + 0) (-2 : Int32) M v17 M19 hv18) ?_
        show kx_Rn _ _ _ (35, [some (.ref 0), some (.int a0), some (.int a1), some (.int a2)], [.int v17], M19) _ _
        cases h
        exact kx_r_iret rfl rfl
theorem c_X5_visitor {d : Nat} (a0 : Int32) (a1 : Int32) (a2 : Int32) (M : kx_M) (r : Int32) (M' : kx_M) (h : f_X5_visitor a0 a1 a2 M = some (r, M')) : kx_Call EM (d + 1) T_X5_visitor [.ref 0, .int a0, .int a1, .int a2] M (some (.int r)) M' := kx_entry kok_X5_visitor (Nat.le_of_ble_eq_true rfl) rfl (t_X5_visitor (d := d) a0 a1 a2 M h)
set_option maxRecDepth 100000 in
set_option maxHeartbeats 4000000 in
theorem t_X5_wants {d : Nat} {r : Int32} {M' : kx_M} (a0 : Int32) (a1 : Int32) (M : kx_M) (h : f_X5_wants a0 a1 M = some (r, M')) : kx_Rn EM T_X5_wants (d + 2) (0, [some (.ref 0), some (.int a0), some (.int a1), none], [], M) (some (.int r)) M' := by
  unfold f_X5_wants at h
  refine kx_go (pc' := 2) (L' := [some (.ref 0), some (.int a0), some (.int a1), none]) (st' := [.int a0, .ref 0]) 2 rfl ?_
  refine kx_q_callV (as := [.int a0]) (rest := []) (M1 := M) (rv := some (.int (kx_bi (f_X5_isOne M a0)))) kmo_0 rfl klk_X5_103 kse_X5_isOne rfl rfl rfl rfl (Nat.le_of_ble_eq_true rfl) (Nat.le_of_ble_eq_true rfl) (c_X5_isOne (d := d + 0) a0 M (f_X5_isOne M a0) rfl) ?_
  show kx_Rn _ _ _ (5, [some (.ref 0), some (.int a0), some (.int a1), none], [.int (kx_bi (f_X5_isOne M a0))], M) _ _
  refine kx_q_zeq rfl (fun hc1 => ?_) (fun hc1 => ?_)
  · rw [if_neg hc1] at h
    refine kx_go (pc' := 21) (L' := [some (.ref 0), some (.int a0), some (.int a1), none]) (st' := [.int (-2 : Int32), .ref 0]) 2 rfl ?_
    obtain ⟨v2, M4, hv3, h⟩ := kx_bd_some h
    refine kx_q_callV (as := [.int (-2 : Int32)]) (rest := []) (M1 := M4) (rv := some (.int v2)) kmo_0 rfl klk_X5_89 kse_X5_no rfl rfl rfl rfl (Nat.le_of_ble_eq_true rfl) (Nat.le_of_ble_eq_true rfl) (c_X5_no (d := d + 1) (-2 : Int32) M v2 M4 hv3) ?_
    show kx_Rn _ _ _ (24, [some (.ref 0), some (.int a0), some (.int a1), none], [.int v2], M4) _ _
    cases h
    exact kx_r_iret rfl rfl
  · rw [if_pos hc1] at h
    refine kx_go (pc' := 12) (L' := [some (.ref 0), some (.int a0), some (.int a1), none]) (st' := [.int (20 : Int32), .int (0 : Int32), .int a1]) 3 rfl ?_
    refine kx_r_callS (as := [.int a1, .int (0 : Int32), .int (20 : Int32)]) (rest := []) (M1 := M) (rv := some (.int (kx_bi (f_X5_within a1 (0 : Int32) (20 : Int32))))) rfl klk_X5_78 kst_X5_within rfl rfl (Nat.le_of_ble_eq_true rfl) (Nat.le_of_ble_eq_true rfl) (c_X5_within (d := d + 1) a1 (0 : Int32) (20 : Int32) M (f_X5_within a1 (0 : Int32) (20 : Int32)) rfl) ?_
    show kx_Rn _ _ _ (15, [some (.ref 0), some (.int a0), some (.int a1), none], [.int (kx_bi (f_X5_within a1 (0 : Int32) (20 : Int32)))], M) _ _
    refine kx_q_zne rfl (fun hc5 => ?_) (fun hc5 => ?_)
    · rw [if_pos hc5] at h
      refine kx_go (pc' := 26) (L' := [some (.ref 0), some (.int a0), some (.int a1), none]) (st' := [.ref 0]) 1 rfl ?_
      refine kx_q_getR (k := 7) (j := 6) kmo_0 rfl kfl_X5_25 rfl ?_
      refine kx_go (pc' := 30) (L' := [some (.ref 0), some (.int a0), some (.int a1), none]) (st' := [.int a0, .ref 6]) 1 rfl ?_
      obtain ⟨hi6, h⟩ := kx_ck_some h
      refine kx_q_iald (kma_6) rfl hi6 ?_
      refine kx_go (pc' := 33) (L' := [some (.ref 0), some (.int a0), some (.int a1), some (.int (M.1 6 (a0).toNatClampNeg))]) (st' := [.ref 0]) 2 rfl ?_
      refine kx_q_getR (k := 7) (j := 6) kmo_0 rfl kfl_X5_25 rfl ?_
      refine kx_go (pc' := 38) (L' := [some (.ref 0), some (.int a0), some (.int a1), some (.int (M.1 6 (a0).toNatClampNeg))]) (st' := [.int a1, .int a0, .ref 6]) 2 rfl ?_
      obtain ⟨hi7, h⟩ := kx_ck_some h
      refine kx_q_iast (kma_6) rfl hi7 ?_
      refine kx_go (pc' := 40) (L' := [some (.ref 0), some (.int a0), some (.int a1), some (.int (M.1 6 (a0).toNatClampNeg))]) (st' := [.int (M.1 6 (a0).toNatClampNeg)]) 1 rfl ?_
      cases h
      exact kx_r_iret rfl rfl
    · rw [if_neg hc5] at h
      refine kx_go (pc' := 21) (L' := [some (.ref 0), some (.int a0), some (.int a1), none]) (st' := [.int (-2 : Int32), .ref 0]) 2 rfl ?_
      obtain ⟨v8, M10, hv9, h⟩ := kx_bd_some h
      refine kx_q_callV (as := [.int (-2 : Int32)]) (rest := []) (M1 := M10) (rv := some (.int v8)) kmo_0 rfl klk_X5_89 kse_X5_no rfl rfl rfl rfl (Nat.le_of_ble_eq_true rfl) (Nat.le_of_ble_eq_true rfl) (c_X5_no (d := d + 1) (-2 : Int32) M v8 M10 hv9) ?_
      show kx_Rn _ _ _ (24, [some (.ref 0), some (.int a0), some (.int a1), none], [.int v8], M10) _ _
      cases h
      exact kx_r_iret rfl rfl
theorem c_X5_wants {d : Nat} (a0 : Int32) (a1 : Int32) (M : kx_M) (r : Int32) (M' : kx_M) (h : f_X5_wants a0 a1 M = some (r, M')) : kx_Call EM (d + 2) T_X5_wants [.ref 0, .int a0, .int a1] M (some (.int r)) M' := kx_entry kok_X5_wants (Nat.le_of_ble_eq_true rfl) rfl (t_X5_wants (d := d) a0 a1 M h)
set_option maxRecDepth 100000 in
set_option maxHeartbeats 4000000 in
theorem t_X5_mark_62 {d : Nat} {r : Int32} {M' : kx_M} (x1 : Int32) (x2 : Int32) (x3 : Int32) (s0 : Int32) (M : kx_M) (h : f_X5_mark_62 x1 x2 x3 s0 M = some (r, M')) : kx_Rn EM T_X5_mark (d + 2) (62, [some (.ref 0), some (.int x1), some (.int x2), some (.int x3), none], [.int s0], M) (some (.int r)) M' := by
  unfold f_X5_mark_62 at h
  refine kx_go (pc' := 65) (L' := [some (.ref 0), some (.int x1), some (.int x2), some (.int x3), some (.int s0)]) (st' := [.int x2]) 2 rfl ?_
  refine kx_r_if_ne rfl (fun hc1 => ?_) (fun hc1 => ?_)
  · rw [if_neg hc1] at h
    refine kx_go (pc' := 79) (L' := [some (.ref 0), some (.int x1), some (.int x2), some (.int x3), some (.int s0)]) (st' := [.ref 0]) 1 rfl ?_
    refine kx_q_getR (k := 2) (j := 2) kmo_0 rfl kfl_X5_13 rfl ?_
    refine kx_go (pc' := 84) (L' := [some (.ref 0), some (.int x1), some (.int x2), some (.int x3), some (.int s0)]) (st' := [.int x3, .int x1, .ref 2]) 2 rfl ?_
    obtain ⟨hi2, h⟩ := kx_ck_some h
    refine kx_q_iast (kma_2) rfl hi2 ?_
    refine kx_go (pc' := 87) (L' := [some (.ref 0), some (.int x1), some (.int x2), some (.int x3), some (.int s0)]) (st' := [.int s0]) 1 rfl ?_
    cases h
    exact kx_r_iret rfl rfl
  · rw [if_pos hc1] at h
    refine kx_go (pc' := 69) (L' := [some (.ref 0), some (.int x1), some (.int x2), some (.int x3), some (.int s0)]) (st' := [.ref 0]) 1 rfl ?_
    refine kx_q_getR (k := 1) (j := 1) kmo_0 rfl kfl_X5_7 rfl ?_
    refine kx_go (pc' := 74) (L' := [some (.ref 0), some (.int x1), some (.int x2), some (.int x3), some (.int s0)]) (st' := [.int x3, .int x1, .ref 1]) 2 rfl ?_
    obtain ⟨hi3, h⟩ := kx_ck_some h
    refine kx_q_iast (kma_1) rfl hi3 ?_
    refine kx_r_goto rfl ?_
    refine kx_go (pc' := 87) (L' := [some (.ref 0), some (.int x1), some (.int x2), some (.int x3), some (.int s0)]) (st' := [.int s0]) 1 rfl ?_
    cases h
    exact kx_r_iret rfl rfl
set_option maxRecDepth 100000 in
set_option maxHeartbeats 4000000 in
theorem t_X5_mark_30 {d : Nat} {r : Int32} {M' : kx_M} (x1 : Int32) (x2 : Int32) (x3 : Int32) (s0 : Int32) (s1 : Int32) (s2 : Int32) (M : kx_M) (h : f_X5_mark_30 x1 x2 x3 s0 s1 s2 M = some (r, M')) : kx_Rn EM T_X5_mark (d + 2) (30, [some (.ref 0), some (.int x1), some (.int x2), some (.int x3), none], [.int s0, .int s1, .int s2], M) (some (.int r)) M' := by
  unfold f_X5_mark_30 at h
  refine kx_r_callS (as := [.int s2, .int s1, .int s0]) (rest := []) (M1 := M) (rv := some (.int (kx_bi (f_X5_within s2 s1 s0)))) rfl klk_X5_78 kst_X5_within rfl rfl (Nat.le_of_ble_eq_true rfl) (Nat.le_of_ble_eq_true rfl) (c_X5_within (d := d + 1) s2 s1 s0 M (f_X5_within s2 s1 s0) rfl) ?_
  show kx_Rn _ _ _ (33, [some (.ref 0), some (.int x1), some (.int x2), some (.int x3), none], [.int (kx_bi (f_X5_within s2 s1 s0))], M) _ _
  refine kx_q_zne rfl (fun hc1 => ?_) (fun hc1 => ?_)
  · rw [if_pos hc1] at h
    refine kx_go (pc' := 44) (L' := [some (.ref 0), some (.int x1), some (.int x2), some (.int x3), none]) (st' := [.int x2]) 1 rfl ?_
    refine kx_r_if_ne rfl (fun hc2 => ?_) (fun hc2 => ?_)
    · rw [if_neg hc2] at h
      refine kx_go (pc' := 57) (L' := [some (.ref 0), some (.int x1), some (.int x2), some (.int x3), none]) (st' := [.ref 0]) 1 rfl ?_
      refine kx_q_getR (k := 2) (j := 2) kmo_0 rfl kfl_X5_13 rfl ?_
      refine kx_go (pc' := 61) (L' := [some (.ref 0), some (.int x1), some (.int x2), some (.int x3), none]) (st' := [.int x1, .ref 2]) 1 rfl ?_
      obtain ⟨hi3, h⟩ := kx_ck_some h
      refine kx_q_iald (kma_2) rfl hi3 ?_
      refine kx_wk [true, true, true, true, false] ?_
      exact t_X5_mark_62 x1 x2 x3 (M.1 2 (x1).toNatClampNeg) M h
    · rw [if_pos hc2] at h
      refine kx_go (pc' := 48) (L' := [some (.ref 0), some (.int x1), some (.int x2), some (.int x3), none]) (st' := [.ref 0]) 1 rfl ?_
      refine kx_q_getR (k := 1) (j := 1) kmo_0 rfl kfl_X5_7 rfl ?_
      refine kx_go (pc' := 52) (L' := [some (.ref 0), some (.int x1), some (.int x2), some (.int x3), none]) (st' := [.int x1, .ref 1]) 1 rfl ?_
      obtain ⟨hi4, h⟩ := kx_ck_some h
      refine kx_q_iald (kma_1) rfl hi4 ?_
      refine kx_r_goto rfl ?_
      refine kx_wk [true, true, true, true, false] ?_
      exact t_X5_mark_62 x1 x2 x3 (M.1 1 (x1).toNatClampNeg) M h
  · rw [if_neg hc1] at h
    refine kx_go (pc' := 39) (L' := [some (.ref 0), some (.int x1), some (.int x2), some (.int x3), none]) (st' := [.int (-2 : Int32), .ref 0]) 2 rfl ?_
    obtain ⟨v5, M7, hv6, h⟩ := kx_bd_some h
    refine kx_q_callV (as := [.int (-2 : Int32)]) (rest := []) (M1 := M7) (rv := some (.int v5)) kmo_0 rfl klk_X5_89 kse_X5_no rfl rfl rfl rfl (Nat.le_of_ble_eq_true rfl) (Nat.le_of_ble_eq_true rfl) (c_X5_no (d := d + 1) (-2 : Int32) M v5 M7 hv6) ?_
    show kx_Rn _ _ _ (42, [some (.ref 0), some (.int x1), some (.int x2), some (.int x3), none], [.int v5], M7) _ _
    cases h
    exact kx_r_iret rfl rfl
set_option maxRecDepth 100000 in
set_option maxHeartbeats 4000000 in
theorem t_X5_mark {d : Nat} {r : Int32} {M' : kx_M} (a0 : Int32) (a1 : Int32) (a2 : Int32) (M : kx_M) (h : f_X5_mark a0 a1 a2 M = some (r, M')) : kx_Rn EM T_X5_mark (d + 2) (0, [some (.ref 0), some (.int a0), some (.int a1), some (.int a2), none], [], M) (some (.int r)) M' := by
  unfold f_X5_mark at h
  refine kx_go (pc' := 2) (L' := [some (.ref 0), some (.int a0), some (.int a1), some (.int a2), none]) (st' := [.int a0, .ref 0]) 2 rfl ?_
  refine kx_q_callV (as := [.int a0]) (rest := []) (M1 := M) (rv := some (.int (kx_bi (f_X5_isCell M a0)))) kmo_0 rfl klk_X5_120 kse_X5_isCell rfl rfl rfl rfl (Nat.le_of_ble_eq_true rfl) (Nat.le_of_ble_eq_true rfl) (c_X5_isCell (d := d + 0) a0 M (f_X5_isCell M a0) rfl) ?_
  show kx_Rn _ _ _ (5, [some (.ref 0), some (.int a0), some (.int a1), some (.int a2), none], [.int (kx_bi (f_X5_isCell M a0))], M) _ _
  refine kx_q_zeq rfl (fun hc1 => ?_) (fun hc1 => ?_)
  · rw [if_neg hc1] at h
    refine kx_go (pc' := 39) (L' := [some (.ref 0), some (.int a0), some (.int a1), some (.int a2), none]) (st' := [.int (-2 : Int32), .ref 0]) 2 rfl ?_
    obtain ⟨v2, M4, hv3, h⟩ := kx_bd_some h
    refine kx_q_callV (as := [.int (-2 : Int32)]) (rest := []) (M1 := M4) (rv := some (.int v2)) kmo_0 rfl klk_X5_89 kse_X5_no rfl rfl rfl rfl (Nat.le_of_ble_eq_true rfl) (Nat.le_of_ble_eq_true rfl) (c_X5_no (d := d + 1) (-2 : Int32) M v2 M4 hv3) ?_
    show kx_Rn _ _ _ (42, [some (.ref 0), some (.int a0), some (.int a1), some (.int a2), none], [.int v2], M4) _ _
    cases h
    exact kx_r_iret rfl rfl
  · rw [if_pos hc1] at h
    refine kx_go (pc' := 11) (L' := [some (.ref 0), some (.int a0), some (.int a1), some (.int a2), none]) (st' := [.int (1 : Int32), .int (0 : Int32), .int a1]) 3 rfl ?_
    refine kx_r_callS (as := [.int a1, .int (0 : Int32), .int (1 : Int32)]) (rest := []) (M1 := M) (rv := some (.int (kx_bi (f_X5_within a1 (0 : Int32) (1 : Int32))))) rfl klk_X5_78 kst_X5_within rfl rfl (Nat.le_of_ble_eq_true rfl) (Nat.le_of_ble_eq_true rfl) (c_X5_within (d := d + 1) a1 (0 : Int32) (1 : Int32) M (f_X5_within a1 (0 : Int32) (1 : Int32)) rfl) ?_
    show kx_Rn _ _ _ (14, [some (.ref 0), some (.int a0), some (.int a1), some (.int a2), none], [.int (kx_bi (f_X5_within a1 (0 : Int32) (1 : Int32)))], M) _ _
    refine kx_q_zeq rfl (fun hc5 => ?_) (fun hc5 => ?_)
    · rw [if_neg hc5] at h
      refine kx_go (pc' := 39) (L' := [some (.ref 0), some (.int a0), some (.int a1), some (.int a2), none]) (st' := [.int (-2 : Int32), .ref 0]) 2 rfl ?_
      obtain ⟨v6, M8, hv7, h⟩ := kx_bd_some h
      refine kx_q_callV (as := [.int (-2 : Int32)]) (rest := []) (M1 := M8) (rv := some (.int v6)) kmo_0 rfl klk_X5_89 kse_X5_no rfl rfl rfl rfl (Nat.le_of_ble_eq_true rfl) (Nat.le_of_ble_eq_true rfl) (c_X5_no (d := d + 1) (-2 : Int32) M v6 M8 hv7) ?_
      show kx_Rn _ _ _ (42, [some (.ref 0), some (.int a0), some (.int a1), some (.int a2), none], [.int v6], M8) _ _
      cases h
      exact kx_r_iret rfl rfl
    · rw [if_pos hc5] at h
      refine kx_go (pc' := 20) (L' := [some (.ref 0), some (.int a0), some (.int a1), some (.int a2), none]) (st' := [.int a1, .int (0 : Int32), .int a2]) 3 rfl ?_
      refine kx_r_if_ne rfl (fun hc9 => ?_) (fun hc9 => ?_)
      · rw [if_neg hc9] at h
        refine kx_go (pc' := 30) (L' := [some (.ref 0), some (.int a0), some (.int a1), some (.int a2), none]) (st' := [.int (9 : Int32), .int (0 : Int32), .int a2]) 1 rfl ?_
        refine kx_wk [true, true, true, true, false] ?_
        exact t_X5_mark_30 a0 a1 a2 (9 : Int32) (0 : Int32) a2 M h
      · rw [if_pos hc9] at h
        refine kx_go (pc' := 25) (L' := [some (.ref 0), some (.int a0), some (.int a1), some (.int a2), none]) (st' := [.int (20 : Int32), .int (0 : Int32), .int a2]) 1 rfl ?_
        refine kx_r_goto rfl ?_
        refine kx_wk [true, true, true, true, false] ?_
        exact t_X5_mark_30 a0 a1 a2 (20 : Int32) (0 : Int32) a2 M h
theorem c_X5_mark {d : Nat} (a0 : Int32) (a1 : Int32) (a2 : Int32) (M : kx_M) (r : Int32) (M' : kx_M) (h : f_X5_mark a0 a1 a2 M = some (r, M')) : kx_Call EM (d + 2) T_X5_mark [.ref 0, .int a0, .int a1, .int a2] M (some (.int r)) M' := kx_entry kok_X5_mark (Nat.le_of_ble_eq_true rfl) rfl (t_X5_mark (d := d) a0 a1 a2 M h)
set_option maxRecDepth 100000 in
set_option maxHeartbeats 4000000 in
theorem t_X5_tell_23 {d : Nat} {r : Int32} {M' : kx_M} (x1 : Int32) (x2 : Int32) (s0 : Int32) (s1 : Int32) (s2 : Int32) (M : kx_M) (h : f_X5_tell_23 x1 x2 s0 s1 s2 M = some (r, M')) : kx_Rn EM T_X5_tell (d + 1) (23, [some (.ref 0), some (.int x1), some (.int x2), none], [.int s0, .int s1, .int s2], M) (some (.int r)) M' := by
  unfold f_X5_tell_23 at h
  refine kx_r_callS (as := [.int s2, .int s1, .int s0]) (rest := []) (M1 := M) (rv := some (.int (kx_bi (f_X5_within s2 s1 s0)))) rfl klk_X5_78 kst_X5_within rfl rfl (Nat.le_of_ble_eq_true rfl) (Nat.le_of_ble_eq_true rfl) (c_X5_within (d := d + 0) s2 s1 s0 M (f_X5_within s2 s1 s0) rfl) ?_
  show kx_Rn _ _ _ (26, [some (.ref 0), some (.int x1), some (.int x2), none], [.int (kx_bi (f_X5_within s2 s1 s0))], M) _ _
  refine kx_q_zne rfl (fun hc1 => ?_) (fun hc1 => ?_)
  · rw [if_pos hc1] at h
    refine kx_go (pc' := 37) (L' := [some (.ref 0), some (.int x1), some (.int x2), none]) (st' := [.ref 0]) 1 rfl ?_
    refine kx_q_getR (k := 3) (j := 3) kmo_0 rfl kfl_X5_16 rfl ?_
    refine kx_go (pc' := 41) (L' := [some (.ref 0), some (.int x1), some (.int x2), none]) (st' := [.int x1, .ref 3]) 1 rfl ?_
    obtain ⟨hi2, h⟩ := kx_ck_some h
    refine kx_q_iald (kma_3) rfl hi2 ?_
    refine kx_go (pc' := 44) (L' := [some (.ref 0), some (.int x1), some (.int x2), some (.int (M.1 3 (x1).toNatClampNeg))]) (st' := [.ref 0]) 2 rfl ?_
    refine kx_q_getR (k := 3) (j := 3) kmo_0 rfl kfl_X5_16 rfl ?_
    refine kx_go (pc' := 49) (L' := [some (.ref 0), some (.int x1), some (.int x2), some (.int (M.1 3 (x1).toNatClampNeg))]) (st' := [.int x2, .int x1, .ref 3]) 2 rfl ?_
    obtain ⟨hi3, h⟩ := kx_ck_some h
    refine kx_q_iast (kma_3) rfl hi3 ?_
    refine kx_go (pc' := 51) (L' := [some (.ref 0), some (.int x1), some (.int x2), some (.int (M.1 3 (x1).toNatClampNeg))]) (st' := [.int (M.1 3 (x1).toNatClampNeg)]) 1 rfl ?_
    cases h
    exact kx_r_iret rfl rfl
  · rw [if_neg hc1] at h
    refine kx_go (pc' := 32) (L' := [some (.ref 0), some (.int x1), some (.int x2), none]) (st' := [.int (-2 : Int32), .ref 0]) 2 rfl ?_
    obtain ⟨v4, M6, hv5, h⟩ := kx_bd_some h
    refine kx_q_callV (as := [.int (-2 : Int32)]) (rest := []) (M1 := M6) (rv := some (.int v4)) kmo_0 rfl klk_X5_89 kse_X5_no rfl rfl rfl rfl (Nat.le_of_ble_eq_true rfl) (Nat.le_of_ble_eq_true rfl) (c_X5_no (d := d + 0) (-2 : Int32) M v4 M6 hv5) ?_
    show kx_Rn _ _ _ (35, [some (.ref 0), some (.int x1), some (.int x2), none], [.int v4], M6) _ _
    cases h
    exact kx_r_iret rfl rfl
set_option maxRecDepth 100000 in
set_option maxHeartbeats 4000000 in
theorem t_X5_tell {d : Nat} {r : Int32} {M' : kx_M} (a0 : Int32) (a1 : Int32) (M : kx_M) (h : f_X5_tell a0 a1 M = some (r, M')) : kx_Rn EM T_X5_tell (d + 1) (0, [some (.ref 0), some (.int a0), some (.int a1), none], [], M) (some (.int r)) M' := by
  unfold f_X5_tell at h
  refine kx_go (pc' := 3) (L' := [some (.ref 0), some (.int a0), some (.int a1), none]) (st' := [.int (1 : Int32), .int (0 : Int32), .int a0]) 3 rfl ?_
  refine kx_r_callS (as := [.int a0, .int (0 : Int32), .int (1 : Int32)]) (rest := []) (M1 := M) (rv := some (.int (kx_bi (f_X5_within a0 (0 : Int32) (1 : Int32))))) rfl klk_X5_78 kst_X5_within rfl rfl (Nat.le_of_ble_eq_true rfl) (Nat.le_of_ble_eq_true rfl) (c_X5_within (d := d + 0) a0 (0 : Int32) (1 : Int32) M (f_X5_within a0 (0 : Int32) (1 : Int32)) rfl) ?_
  show kx_Rn _ _ _ (6, [some (.ref 0), some (.int a0), some (.int a1), none], [.int (kx_bi (f_X5_within a0 (0 : Int32) (1 : Int32)))], M) _ _
  refine kx_q_zeq rfl (fun hc1 => ?_) (fun hc1 => ?_)
  · rw [if_neg hc1] at h
    refine kx_go (pc' := 32) (L' := [some (.ref 0), some (.int a0), some (.int a1), none]) (st' := [.int (-2 : Int32), .ref 0]) 2 rfl ?_
    obtain ⟨v2, M4, hv3, h⟩ := kx_bd_some h
    refine kx_q_callV (as := [.int (-2 : Int32)]) (rest := []) (M1 := M4) (rv := some (.int v2)) kmo_0 rfl klk_X5_89 kse_X5_no rfl rfl rfl rfl (Nat.le_of_ble_eq_true rfl) (Nat.le_of_ble_eq_true rfl) (c_X5_no (d := d + 0) (-2 : Int32) M v2 M4 hv3) ?_
    show kx_Rn _ _ _ (35, [some (.ref 0), some (.int a0), some (.int a1), none], [.int v2], M4) _ _
    cases h
    exact kx_r_iret rfl rfl
  · rw [if_pos hc1] at h
    refine kx_go (pc' := 12) (L' := [some (.ref 0), some (.int a0), some (.int a1), none]) (st' := [.int a0, .int (0 : Int32), .int a1]) 3 rfl ?_
    refine kx_r_if_ne rfl (fun hc5 => ?_) (fun hc5 => ?_)
    · rw [if_neg hc5] at h
      refine kx_go (pc' := 23) (L' := [some (.ref 0), some (.int a0), some (.int a1), none]) (st' := [.int (999 : Int32), .int (0 : Int32), .int a1]) 1 rfl ?_
      refine kx_wk [true, true, true, false] ?_
      exact t_X5_tell_23 a0 a1 (999 : Int32) (0 : Int32) a1 M h
    · rw [if_pos hc5] at h
      refine kx_go (pc' := 17) (L' := [some (.ref 0), some (.int a0), some (.int a1), none]) (st' := [.int (20 : Int32), .int (0 : Int32), .int a1]) 1 rfl ?_
      refine kx_r_goto rfl ?_
      refine kx_wk [true, true, true, false] ?_
      exact t_X5_tell_23 a0 a1 (20 : Int32) (0 : Int32) a1 M h
theorem c_X5_tell {d : Nat} (a0 : Int32) (a1 : Int32) (M : kx_M) (r : Int32) (M' : kx_M) (h : f_X5_tell a0 a1 M = some (r, M')) : kx_Call EM (d + 1) T_X5_tell [.ref 0, .int a0, .int a1] M (some (.int r)) M' := kx_entry kok_X5_tell (Nat.le_of_ble_eq_true rfl) rfl (t_X5_tell (d := d) a0 a1 M h)
set_option maxRecDepth 100000 in
set_option maxHeartbeats 4000000 in
theorem t_X5_feed {d : Nat} {r : Int32} {M' : kx_M} (a0 : Int32) (M : kx_M) (h : f_X5_feed a0 M = some (r, M')) : kx_Rn EM T_X5_feed (d + 1) (0, [some (.ref 0), some (.int a0)], [], M) (some (.int r)) M' := by
  unfold f_X5_feed at h
  refine kx_go (pc' := 5) (L' := [some (.ref 0), some (.int a0)]) (st' := [.int (255 : Int32), .int (0 : Int32), .int a0]) 3 rfl ?_
  refine kx_r_callS (as := [.int a0, .int (0 : Int32), .int (255 : Int32)]) (rest := []) (M1 := M) (rv := some (.int (kx_bi (f_X5_within a0 (0 : Int32) (255 : Int32))))) rfl klk_X5_78 kst_X5_within rfl rfl (Nat.le_of_ble_eq_true rfl) (Nat.le_of_ble_eq_true rfl) (c_X5_within (d := d + 0) a0 (0 : Int32) (255 : Int32) M (f_X5_within a0 (0 : Int32) (255 : Int32)) rfl) ?_
  show kx_Rn _ _ _ (8, [some (.ref 0), some (.int a0)], [.int (kx_bi (f_X5_within a0 (0 : Int32) (255 : Int32)))], M) _ _
  refine kx_q_zne rfl (fun hc1 => ?_) (fun hc1 => ?_)
  · rw [if_pos hc1] at h
    refine kx_go (pc' := 19) (L' := [some (.ref 0), some (.int a0)]) (st' := [.ref 0]) 1 rfl ?_
    refine kx_q_getI (k := 10) kmo_0 rfl kfl_X5_123 rfl ?_
    refine kx_go (pc' := 25) (L' := [some (.ref 0), some (.int a0)]) (st' := [.int (250 : Int32), .int (M.1 0 10)]) 1 rfl ?_
    refine kx_r_icmp_ne rfl (fun hc2 => ?_) (fun hc2 => ?_)
    · rw [if_neg hc2] at h
      refine kx_go (pc' := 36) (L' := [some (.ref 0), some (.int a0)]) (st' := [.ref 0]) 1 rfl ?_
      refine kx_q_getR (k := 11) (j := 8) kmo_0 rfl kfl_X5_31 rfl ?_
      refine kx_go (pc' := 41) (L' := [some (.ref 0), some (.int a0)]) (st' := [.ref 0, .ref 0, .ref 8]) 2 rfl ?_
      refine kx_q_getI (k := 10) kmo_0 rfl kfl_X5_123 rfl ?_
      refine kx_go (pc' := 47) (L' := [some (.ref 0), some (.int a0)]) (st' := [.int ((M.1 0 10) + (1 : Int32)), .ref 0, .int (M.1 0 10), .ref 8]) 3 rfl ?_
      refine kx_q_putI (k := 10) kmo_0 rfl kfw_X5_123 rfl ?_
      refine kx_go (pc' := 51) (L' := [some (.ref 0), some (.int a0)]) (st' := [.int a0, .int (M.1 0 10), .ref 8]) 1 rfl ?_
      obtain ⟨hi3, h⟩ := kx_ck_some h
      refine kx_q_iast (kma_8) rfl hi3 ?_
      refine kx_go (pc' := 53) (L' := [some (.ref 0), some (.int a0)]) (st' := [.ref 0]) 1 rfl ?_
      refine kx_q_getI (k := 10) kmo_0 rfl kfl_X5_123 rfl ?_
      cases h
      exact kx_r_iret rfl rfl
    · rw [if_pos hc2] at h
      refine kx_go (pc' := 31) (L' := [some (.ref 0), some (.int a0)]) (st' := [.int (-6 : Int32), .ref 0]) 2 rfl ?_
      obtain ⟨v4, M6, hv5, h⟩ := kx_bd_some h
      refine kx_q_callV (as := [.int (-6 : Int32)]) (rest := []) (M1 := M6) (rv := some (.int v4)) kmo_0 rfl klk_X5_89 kse_X5_no rfl rfl rfl rfl (Nat.le_of_ble_eq_true rfl) (Nat.le_of_ble_eq_true rfl) (c_X5_no (d := d + 0) (-6 : Int32) M v4 M6 hv5) ?_
      show kx_Rn _ _ _ (34, [some (.ref 0), some (.int a0)], [.int v4], M6) _ _
      cases h
      exact kx_r_iret rfl rfl
  · rw [if_neg hc1] at h
    refine kx_go (pc' := 14) (L' := [some (.ref 0), some (.int a0)]) (st' := [.int (-2 : Int32), .ref 0]) 2 rfl ?_
    obtain ⟨v7, M9, hv8, h⟩ := kx_bd_some h
    refine kx_q_callV (as := [.int (-2 : Int32)]) (rest := []) (M1 := M9) (rv := some (.int v7)) kmo_0 rfl klk_X5_89 kse_X5_no rfl rfl rfl rfl (Nat.le_of_ble_eq_true rfl) (Nat.le_of_ble_eq_true rfl) (c_X5_no (d := d + 0) (-2 : Int32) M v7 M9 hv8) ?_
    show kx_Rn _ _ _ (17, [some (.ref 0), some (.int a0)], [.int v7], M9) _ _
    cases h
    exact kx_r_iret rfl rfl
theorem c_X5_feed {d : Nat} (a0 : Int32) (M : kx_M) (r : Int32) (M' : kx_M) (h : f_X5_feed a0 M = some (r, M')) : kx_Call EM (d + 1) T_X5_feed [.ref 0, .int a0] M (some (.int r)) M' := kx_entry kok_X5_feed (Nat.le_of_ble_eq_true rfl) rfl (t_X5_feed (d := d) a0 M h)
set_option maxRecDepth 100000 in
set_option maxHeartbeats 4000000 in
theorem t_X5_wipe {d : Nat} {r : Int32} {M' : kx_M} (M : kx_M) (h : f_X5_wipe M = some (r, M')) : kx_Rn EM T_X5_wipe (d + 0) (0, [some (.ref 0), none], [], M) (some (.int r)) M' := by
  unfold f_X5_wipe at h
  refine kx_go (pc' := 1) (L' := [some (.ref 0), none]) (st' := [.ref 0]) 1 rfl ?_
  refine kx_q_getI (k := 10) kmo_0 rfl kfl_X5_123 rfl ?_
  refine kx_go (pc' := 7) (L' := [some (.ref 0), some (.int (M.1 0 10))]) (st' := [.int (0 : Int32), .ref 0]) 3 rfl ?_
  refine kx_q_putI (k := 10) kmo_0 rfl kfw_X5_123 rfl ?_
  refine kx_go (pc' := 11) (L' := [some (.ref 0), some (.int (M.1 0 10))]) (st' := [.int (M.1 0 10)]) 1 rfl ?_
  cases h
  exact kx_r_iret rfl rfl
theorem c_X5_wipe {d : Nat} (M : kx_M) (r : Int32) (M' : kx_M) (h : f_X5_wipe M = some (r, M')) : kx_Call EM (d + 0) T_X5_wipe [.ref 0] M (some (.int r)) M' := kx_entry kok_X5_wipe (Nat.le_of_ble_eq_true rfl) rfl (t_X5_wipe (d := d) M h)
set_option maxRecDepth 100000 in
set_option maxHeartbeats 4000000 in
theorem t_X5_isLetter {E : kx_E} {d : Nat} {r : Bool} (M : kx_M) (a0 : Int32) (h : f_X5_isLetter a0 = r) : kx_Rn E T_X5_isLetter (d + 0) (0, [some (.int a0)], [], M) (some (.int (kx_bi r))) M := by
  unfold f_X5_isLetter at h
  refine kx_go (pc' := 3) (L' := [some (.int a0)]) (st' := [.int (97 : Int32), .int a0]) 2 rfl ?_
  refine kx_r_icmp_lt rfl (fun hc1 => ?_) (fun hc1 => ?_)
  · rw [if_pos hc1] at h
    refine kx_go (pc' := 17) (L' := [some (.int a0)]) (st' := [.int (0 : Int32)]) 1 rfl ?_
    subst h
    exact kx_r_zret rfl rfl (Or.inl rfl)
  · rw [if_neg hc1] at h
    refine kx_go (pc' := 9) (L' := [some (.int a0)]) (st' := [.int (122 : Int32), .int a0]) 2 rfl ?_
    refine kx_r_icmp_gt rfl (fun hc2 => ?_) (fun hc2 => ?_)
    · rw [if_pos hc2] at h
      refine kx_go (pc' := 17) (L' := [some (.int a0)]) (st' := [.int (0 : Int32)]) 1 rfl ?_
      subst h
      exact kx_r_zret rfl rfl (Or.inl rfl)
    · rw [if_neg hc2] at h
      refine kx_go (pc' := 13) (L' := [some (.int a0)]) (st' := [.int (1 : Int32)]) 1 rfl ?_
      refine kx_r_goto rfl ?_
      subst h
      exact kx_r_zret rfl rfl (Or.inr rfl)
theorem c_X5_isLetter {E : kx_E} {d : Nat} (a0 : Int32) (M : kx_M) (r : Bool) (h : f_X5_isLetter a0 = r) : kx_Call E (d + 0) T_X5_isLetter [.int a0] M (some (.int (kx_bi r))) M := kx_entry kok_X5_isLetter (Nat.le_of_ble_eq_true rfl) rfl (t_X5_isLetter (d := d) M a0 h)
set_option maxRecDepth 100000 in
set_option maxHeartbeats 4000000 in
theorem t_X5_isDigit {E : kx_E} {d : Nat} {r : Bool} (M : kx_M) (a0 : Int32) (h : f_X5_isDigit a0 = r) : kx_Rn E T_X5_isDigit (d + 0) (0, [some (.int a0)], [], M) (some (.int (kx_bi r))) M := by
  unfold f_X5_isDigit at h
  refine kx_go (pc' := 3) (L' := [some (.int a0)]) (st' := [.int (48 : Int32), .int a0]) 2 rfl ?_
  refine kx_r_icmp_lt rfl (fun hc1 => ?_) (fun hc1 => ?_)
  · rw [if_pos hc1] at h
    refine kx_go (pc' := 17) (L' := [some (.int a0)]) (st' := [.int (0 : Int32)]) 1 rfl ?_
    subst h
    exact kx_r_zret rfl rfl (Or.inl rfl)
  · rw [if_neg hc1] at h
    refine kx_go (pc' := 9) (L' := [some (.int a0)]) (st' := [.int (57 : Int32), .int a0]) 2 rfl ?_
    refine kx_r_icmp_gt rfl (fun hc2 => ?_) (fun hc2 => ?_)
    · rw [if_pos hc2] at h
      refine kx_go (pc' := 17) (L' := [some (.int a0)]) (st' := [.int (0 : Int32)]) 1 rfl ?_
      subst h
      exact kx_r_zret rfl rfl (Or.inl rfl)
    · rw [if_neg hc2] at h
      refine kx_go (pc' := 13) (L' := [some (.int a0)]) (st' := [.int (1 : Int32)]) 1 rfl ?_
      refine kx_r_goto rfl ?_
      subst h
      exact kx_r_zret rfl rfl (Or.inr rfl)
theorem c_X5_isDigit {E : kx_E} {d : Nat} (a0 : Int32) (M : kx_M) (r : Bool) (h : f_X5_isDigit a0 = r) : kx_Call E (d + 0) T_X5_isDigit [.int a0] M (some (.int (kx_bi r))) M := kx_entry kok_X5_isDigit (Nat.le_of_ble_eq_true rfl) rfl (t_X5_isDigit (d := d) M a0 h)
set_option maxRecDepth 100000 in
set_option maxHeartbeats 4000000 in
theorem t_X5_next_235 {d : Nat} {M' : kx_M} (M : kx_M) (h : f_X5_next_235 M = some M') : kx_Rn EM T_X5_next (d + 1) (235, [some (.ref 0), none], [], M) none M' := by
  unfold f_X5_next_235 at h
  refine kx_go (pc' := 237) (L' := [some (.ref 0), none]) (st' := [.ref 0, .ref 0]) 2 rfl ?_
  refine kx_q_getI (k := 13) kmo_0 rfl kfl_X5_126 rfl ?_
  refine kx_go (pc' := 241) (L' := [some (.ref 0), none]) (st' := [.ref 0, .int (M.1 0 13), .ref 0]) 1 rfl ?_
  refine kx_q_getI (k := 12) kmo_0 rfl kfl_X5_129 rfl ?_
  refine kx_go (pc' := 246) (L' := [some (.ref 0), none]) (st' := [.int (3 : Int32), .int ((M.1 0 13) - (M.1 0 12)), .ref 0]) 2 rfl ?_
  refine kx_r_icmp_le rfl (fun hc1 => ?_) (fun hc1 => ?_)
  · rw [if_pos hc1] at h
    refine kx_go (pc' := 256) (L' := [some (.ref 0), none]) (st' := [.int (48 : Int32), .ref 0]) 1 rfl ?_
    refine kx_q_putI (k := 14) kmo_0 rfl kfw_X5_132 rfl ?_
    refine kx_r_goto rfl ?_
    cases h
    exact kx_r_vret rfl rfl
  · rw [if_neg hc1] at h
    refine kx_go (pc' := 251) (L' := [some (.ref 0), none]) (st' := [.int (120 : Int32), .ref 0]) 1 rfl ?_
    refine kx_r_goto rfl ?_
    refine kx_q_putI (k := 14) kmo_0 rfl kfw_X5_132 rfl ?_
    refine kx_r_goto rfl ?_
    cases h
    exact kx_r_vret rfl rfl
set_option maxRecDepth 100000 in
set_option maxHeartbeats 4000000 in
theorem t_X5_next_159 {d : Nat} {M' : kx_M} : ∀ (n : Nat) (M : kx_M), f_X5_next_159 n M = some M' → kx_Rn EM T_X5_next (d + 1) (159, [some (.ref 0), none], [], M) none M' := by
  intro n
  induction n with
  | zero =>
    intro M h
    cases (show (none : Option kx_M) = some _ from h)
  | succ n ih =>
    intro M h
    rw [f_X5_next_159.eq_2] at h
    refine kx_go (pc' := 160) (L' := [some (.ref 0), none]) (st' := [.ref 0]) 1 rfl ?_
    refine kx_q_getI (k := 13) kmo_0 rfl kfl_X5_126 rfl ?_
    refine kx_go (pc' := 164) (L' := [some (.ref 0), none]) (st' := [.ref 0, .int (M.1 0 13)]) 1 rfl ?_
    refine kx_q_getI (k := 10) kmo_0 rfl kfl_X5_123 rfl ?_
    refine kx_r_icmp_ge rfl (fun hc1 => ?_) (fun hc1 => ?_)
    · rw [if_pos hc1] at h
      refine kx_wk [true, false] ?_
      exact t_X5_next_235 M h
    · rw [if_neg hc1] at h
      refine kx_go (pc' := 171) (L' := [some (.ref 0), none]) (st' := [.ref 0]) 1 rfl ?_
      refine kx_q_getR (k := 11) (j := 8) kmo_0 rfl kfl_X5_31 rfl ?_
      refine kx_go (pc' := 175) (L' := [some (.ref 0), none]) (st' := [.ref 0, .ref 8]) 1 rfl ?_
      refine kx_q_getI (k := 13) kmo_0 rfl kfl_X5_126 rfl ?_
      obtain ⟨hi2, h⟩ := kx_ck_some h
      refine kx_q_iald (kma_8) rfl hi2 ?_
      refine kx_r_callS (as := [.int (M.1 8 ((M.1 0 13)).toNatClampNeg)]) (rest := []) (M1 := M) (rv := some (.int (kx_bi (f_X5_isDigit (M.1 8 ((M.1 0 13)).toNatClampNeg))))) rfl klk_X5_138 kst_X5_isDigit rfl rfl (Nat.le_of_ble_eq_true rfl) (Nat.le_of_ble_eq_true rfl) (c_X5_isDigit (d := d + 0) (M.1 8 ((M.1 0 13)).toNatClampNeg) M (f_X5_isDigit (M.1 8 ((M.1 0 13)).toNatClampNeg)) rfl) ?_
      show kx_Rn _ _ _ (182, [some (.ref 0), none], [.int (kx_bi (f_X5_isDigit (M.1 8 ((M.1 0 13)).toNatClampNeg)))], M) _ _
      refine kx_q_zeq rfl (fun hc3 => ?_) (fun hc3 => ?_)
      · rw [if_neg hc3] at h
        refine kx_wk [true, false] ?_
        exact t_X5_next_235 M h
      · rw [if_pos hc3] at h
        refine kx_go (pc' := 186) (L' := [some (.ref 0), none]) (st' := [.ref 0]) 1 rfl ?_
        refine kx_q_getI (k := 13) kmo_0 rfl kfl_X5_126 rfl ?_
        refine kx_go (pc' := 190) (L' := [some (.ref 0), none]) (st' := [.ref 0, .int (M.1 0 13)]) 1 rfl ?_
        refine kx_q_getI (k := 12) kmo_0 rfl kfl_X5_129 rfl ?_
        refine kx_go (pc' := 195) (L' := [some (.ref 0), none]) (st' := [.int (3 : Int32), .int ((M.1 0 13) - (M.1 0 12))]) 2 rfl ?_
        refine kx_r_icmp_ge rfl (fun hc4 => ?_) (fun hc4 => ?_)
        · rw [if_pos hc4] at h
          refine kx_go (pc' := 224) (L' := [some (.ref 0), none]) (st' := [.ref 0, .ref 0]) 2 rfl ?_
          refine kx_q_getI (k := 13) kmo_0 rfl kfl_X5_126 rfl ?_
          refine kx_go (pc' := 229) (L' := [some (.ref 0), none]) (st' := [.int ((M.1 0 13) + (1 : Int32)), .ref 0]) 2 rfl ?_
          refine kx_q_putI (k := 13) kmo_0 rfl kfw_X5_126 rfl ?_
          refine kx_r_goto rfl ?_
          refine kx_wk [true, false] ?_
          exact ih (kx_u1 M 0 13 ((M.1 0 13) + (1 : Int32))) h
        · rw [if_neg hc4] at h
          refine kx_go (pc' := 202) (L' := [some (.ref 0), none]) (st' := [.ref 0, .int (10 : Int32), .ref 0]) 3 rfl ?_
          refine kx_q_getI (k := 15) kmo_0 rfl kfl_X5_141 rfl ?_
          refine kx_go (pc' := 207) (L' := [some (.ref 0), none]) (st' := [.ref 0, .int ((10 : Int32) * (M.1 0 15)), .ref 0]) 2 rfl ?_
          refine kx_q_getR (k := 11) (j := 8) kmo_0 rfl kfl_X5_31 rfl ?_
          refine kx_go (pc' := 211) (L' := [some (.ref 0), none]) (st' := [.ref 0, .ref 8, .int ((10 : Int32) * (M.1 0 15)), .ref 0]) 1 rfl ?_
          refine kx_q_getI (k := 13) kmo_0 rfl kfl_X5_126 rfl ?_
          obtain ⟨hi5, h⟩ := kx_ck_some h
          refine kx_q_iald (kma_8) rfl hi5 ?_
          refine kx_go (pc' := 219) (L' := [some (.ref 0), none]) (st' := [.int ((((10 : Int32) * (M.1 0 15)) + (M.1 8 ((M.1 0 13)).toNatClampNeg)) - (48 : Int32)), .ref 0]) 3 rfl ?_
          refine kx_q_putI (k := 15) kmo_0 rfl kfw_X5_141 rfl ?_
          refine kx_go (pc' := 224) (L' := [some (.ref 0), none]) (st' := [.ref 0, .ref 0]) 2 rfl ?_
          refine kx_q_getI (k := 13) kmo_0 rfl kfl_X5_126 rfl ?_
          refine kx_go (pc' := 229) (L' := [some (.ref 0), none]) (st' := [.int (((kx_u1 M 0 15 ((((10 : Int32) * (M.1 0 15)) + (M.1 8 ((M.1 0 13)).toNatClampNeg)) - (48 : Int32))).1 0 13) + (1 : Int32)), .ref 0]) 2 rfl ?_
          refine kx_q_putI (k := 13) kmo_0 rfl kfw_X5_126 rfl ?_
          obtain ⟨M6, hM6, h⟩ := kx_lt_ex h
          rw [← hM6]
          refine kx_r_goto rfl ?_
          refine kx_wk [true, false] ?_
          exact ih M6 h
set_option maxRecDepth 100000 in
set_option maxHeartbeats 4000000 in
theorem t_X5_next_96 {d : Nat} {M' : kx_M} : ∀ (n : Nat) (M : kx_M), f_X5_next_96 n M = some M' → kx_Rn EM T_X5_next (d + 1) (96, [some (.ref 0), none], [], M) none M' := by
  intro n
  induction n with
  | zero =>
    intro M h
    cases (show (none : Option kx_M) = some _ from h)
  | succ n ih =>
    intro M h
    rw [f_X5_next_96.eq_2] at h
    refine kx_go (pc' := 97) (L' := [some (.ref 0), none]) (st' := [.ref 0]) 1 rfl ?_
    refine kx_q_getI (k := 13) kmo_0 rfl kfl_X5_126 rfl ?_
    refine kx_go (pc' := 101) (L' := [some (.ref 0), none]) (st' := [.ref 0, .int (M.1 0 13)]) 1 rfl ?_
    refine kx_q_getI (k := 10) kmo_0 rfl kfl_X5_123 rfl ?_
    refine kx_r_icmp_ge rfl (fun hc1 => ?_) (fun hc1 => ?_)
    · rw [if_pos hc1] at h
      refine kx_go (pc' := 138) (L' := [some (.ref 0), none]) (st' := [.int (119 : Int32), .ref 0]) 2 rfl ?_
      refine kx_q_putI (k := 14) kmo_0 rfl kfw_X5_132 rfl ?_
      refine kx_r_goto rfl ?_
      cases h
      exact kx_r_vret rfl rfl
    · rw [if_neg hc1] at h
      refine kx_go (pc' := 108) (L' := [some (.ref 0), none]) (st' := [.ref 0]) 1 rfl ?_
      refine kx_q_getR (k := 11) (j := 8) kmo_0 rfl kfl_X5_31 rfl ?_
      refine kx_go (pc' := 112) (L' := [some (.ref 0), none]) (st' := [.ref 0, .ref 8]) 1 rfl ?_
      refine kx_q_getI (k := 13) kmo_0 rfl kfl_X5_126 rfl ?_
      obtain ⟨hi2, h⟩ := kx_ck_some h
      refine kx_q_iald (kma_8) rfl hi2 ?_
      refine kx_r_callS (as := [.int (M.1 8 ((M.1 0 13)).toNatClampNeg)]) (rest := []) (M1 := M) (rv := some (.int (kx_bi (f_X5_isLetter (M.1 8 ((M.1 0 13)).toNatClampNeg))))) rfl klk_X5_135 kst_X5_isLetter rfl rfl (Nat.le_of_ble_eq_true rfl) (Nat.le_of_ble_eq_true rfl) (c_X5_isLetter (d := d + 0) (M.1 8 ((M.1 0 13)).toNatClampNeg) M (f_X5_isLetter (M.1 8 ((M.1 0 13)).toNatClampNeg)) rfl) ?_
      show kx_Rn _ _ _ (119, [some (.ref 0), none], [.int (kx_bi (f_X5_isLetter (M.1 8 ((M.1 0 13)).toNatClampNeg)))], M) _ _
      refine kx_q_zeq rfl (fun hc3 => ?_) (fun hc3 => ?_)
      · rw [if_neg hc3] at h
        refine kx_go (pc' := 138) (L' := [some (.ref 0), none]) (st' := [.int (119 : Int32), .ref 0]) 2 rfl ?_
        refine kx_q_putI (k := 14) kmo_0 rfl kfw_X5_132 rfl ?_
        refine kx_r_goto rfl ?_
        cases h
        exact kx_r_vret rfl rfl
      · rw [if_pos hc3] at h
        refine kx_go (pc' := 124) (L' := [some (.ref 0), none]) (st' := [.ref 0, .ref 0]) 2 rfl ?_
        refine kx_q_getI (k := 13) kmo_0 rfl kfl_X5_126 rfl ?_
        refine kx_go (pc' := 129) (L' := [some (.ref 0), none]) (st' := [.int ((M.1 0 13) + (1 : Int32)), .ref 0]) 2 rfl ?_
        refine kx_q_putI (k := 13) kmo_0 rfl kfw_X5_126 rfl ?_
        refine kx_r_goto rfl ?_
        refine kx_wk [true, false] ?_
        exact ih (kx_u1 M 0 13 ((M.1 0 13) + (1 : Int32))) h
set_option maxRecDepth 100000 in
set_option maxHeartbeats 4000000 in
theorem t_X5_next_46 {d : Nat} {M' : kx_M} (M : kx_M) (h : f_X5_next_46 M = some M') : kx_Rn EM T_X5_next (d + 1) (46, [some (.ref 0), none], [], M) none M' := by
  unfold f_X5_next_46 at h
  refine kx_go (pc' := 48) (L' := [some (.ref 0), none]) (st' := [.ref 0, .ref 0]) 2 rfl ?_
  refine kx_q_getI (k := 12) kmo_0 rfl kfl_X5_129 rfl ?_
  refine kx_q_putI (k := 13) kmo_0 rfl kfw_X5_126 rfl ?_
  refine kx_go (pc' := 55) (L' := [some (.ref 0), none]) (st' := [.ref 0]) 1 rfl ?_
  refine kx_q_getI (k := 12) kmo_0 rfl kfl_X5_129 rfl ?_
  refine kx_go (pc' := 59) (L' := [some (.ref 0), none]) (st' := [.ref 0, .int ((kx_u1 M 0 13 (M.1 0 12)).1 0 12)]) 1 rfl ?_
  refine kx_q_getI (k := 10) kmo_0 rfl kfl_X5_123 rfl ?_
  refine kx_r_icmp_ne rfl (fun hc1 => ?_) (fun hc1 => ?_)
  · rw [if_neg hc1] at h
    refine kx_go (pc' := 73) (L' := [some (.ref 0), none]) (st' := [.ref 0]) 1 rfl ?_
    refine kx_q_getR (k := 11) (j := 8) kmo_0 rfl kfl_X5_31 rfl ?_
    refine kx_go (pc' := 78) (L' := [some (.ref 0), none]) (st' := [.ref 0, .ref 0, .ref 8]) 2 rfl ?_
    refine kx_q_getI (k := 13) kmo_0 rfl kfl_X5_126 rfl ?_
    refine kx_go (pc' := 84) (L' := [some (.ref 0), none]) (st' := [.int (((kx_u1 M 0 13 (M.1 0 12)).1 0 13) + (1 : Int32)), .ref 0, .int ((kx_u1 M 0 13 (M.1 0 12)).1 0 13), .ref 8]) 3 rfl ?_
    refine kx_q_putI (k := 13) kmo_0 rfl kfw_X5_126 rfl ?_
    obtain ⟨hi2, h⟩ := kx_ck_some h
    refine kx_q_iald (kma_8) rfl hi2 ?_
    refine kx_go (pc' := 89) (L' := [some (.ref 0), some (.int ((kx_u1 (kx_u1 M 0 13 (M.1 0 12)) 0 13 (((kx_u1 M 0 13 (M.1 0 12)).1 0 13) + (1 : Int32))).1 8 (((kx_u1 M 0 13 (M.1 0 12)).1 0 13)).toNatClampNeg))]) (st' := []) 1 rfl ?_
    obtain ⟨y3, hy3, h⟩ := kx_lt_ex h
    rw [← hy3]
    refine kx_go (pc' := 90) (L' := [some (.ref 0), some (.int y3)]) (st' := [.int y3]) 1 rfl ?_
    refine kx_r_callS (as := [.int y3]) (rest := []) (M1 := (kx_u1 (kx_u1 M 0 13 (M.1 0 12)) 0 13 (((kx_u1 M 0 13 (M.1 0 12)).1 0 13) + (1 : Int32)))) (rv := some (.int (kx_bi (f_X5_isLetter y3)))) rfl klk_X5_135 kst_X5_isLetter rfl rfl (Nat.le_of_ble_eq_true rfl) (Nat.le_of_ble_eq_true rfl) (c_X5_isLetter (d := d + 0) y3 (kx_u1 (kx_u1 M 0 13 (M.1 0 12)) 0 13 (((kx_u1 M 0 13 (M.1 0 12)).1 0 13) + (1 : Int32))) (f_X5_isLetter y3) rfl) ?_
    show kx_Rn _ _ _ (93, [some (.ref 0), some (.int y3)], [.int (kx_bi (f_X5_isLetter y3))], (kx_u1 (kx_u1 M 0 13 (M.1 0 12)) 0 13 (((kx_u1 M 0 13 (M.1 0 12)).1 0 13) + (1 : Int32)))) _ _
    refine kx_q_zeq rfl (fun hc4 => ?_) (fun hc4 => ?_)
    · rw [if_neg hc4] at h
      refine kx_go (pc' := 145) (L' := [some (.ref 0), some (.int y3)]) (st' := [.int y3]) 1 rfl ?_
      refine kx_r_callS (as := [.int y3]) (rest := []) (M1 := (kx_u1 (kx_u1 M 0 13 (M.1 0 12)) 0 13 (((kx_u1 M 0 13 (M.1 0 12)).1 0 13) + (1 : Int32)))) (rv := some (.int (kx_bi (f_X5_isDigit y3)))) rfl klk_X5_138 kst_X5_isDigit rfl rfl (Nat.le_of_ble_eq_true rfl) (Nat.le_of_ble_eq_true rfl) (c_X5_isDigit (d := d + 0) y3 (kx_u1 (kx_u1 M 0 13 (M.1 0 12)) 0 13 (((kx_u1 M 0 13 (M.1 0 12)).1 0 13) + (1 : Int32))) (f_X5_isDigit y3) rfl) ?_
      show kx_Rn _ _ _ (148, [some (.ref 0), some (.int y3)], [.int (kx_bi (f_X5_isDigit y3))], (kx_u1 (kx_u1 M 0 13 (M.1 0 12)) 0 13 (((kx_u1 M 0 13 (M.1 0 12)).1 0 13) + (1 : Int32)))) _ _
      refine kx_q_zeq rfl (fun hc5 => ?_) (fun hc5 => ?_)
      · rw [if_neg hc5] at h
        refine kx_go (pc' := 266) (L' := [some (.ref 0), some (.int y3)]) (st' := [.int (59 : Int32), .int y3, .ref 0]) 3 rfl ?_
        refine kx_r_icmp_ne rfl (fun hc6 => ?_) (fun hc6 => ?_)
        · rw [if_neg hc6] at h
          refine kx_go (pc' := 276) (L' := [some (.ref 0), some (.int y3)]) (st' := [.int (120 : Int32), .ref 0]) 1 rfl ?_
          refine kx_q_putI (k := 14) kmo_0 rfl kfw_X5_132 rfl ?_
          obtain ⟨M7, hM7, h⟩ := kx_lt_ex h
          rw [← hM7]
          cases h
          exact kx_r_vret rfl rfl
        · rw [if_pos hc6] at h
          refine kx_go (pc' := 271) (L' := [some (.ref 0), some (.int y3)]) (st' := [.int (59 : Int32), .ref 0]) 1 rfl ?_
          refine kx_r_goto rfl ?_
          refine kx_q_putI (k := 14) kmo_0 rfl kfw_X5_132 rfl ?_
          obtain ⟨M8, hM8, h⟩ := kx_lt_ex h
          rw [← hM8]
          cases h
          exact kx_r_vret rfl rfl
      · rw [if_pos hc5] at h
        refine kx_go (pc' := 156) (L' := [some (.ref 0), some (.int y3)]) (st' := [.int (y3 - (48 : Int32)), .ref 0]) 4 rfl ?_
        refine kx_q_putI (k := 15) kmo_0 rfl kfw_X5_141 rfl ?_
        obtain ⟨M9, hM9, h⟩ := kx_lt_ex h
        rw [← hM9]
        refine kx_wk [true, false] ?_
        exact t_X5_next_159 kx_fuel M9 h
    · rw [if_pos hc4] at h
      refine kx_wk [true, false] ?_
      exact t_X5_next_96 kx_fuel (kx_u1 (kx_u1 M 0 13 (M.1 0 12)) 0 13 (((kx_u1 M 0 13 (M.1 0 12)).1 0 13) + (1 : Int32))) h
  · rw [if_pos hc1] at h
    refine kx_go (pc' := 68) (L' := [some (.ref 0), none]) (st' := [.int (101 : Int32), .ref 0]) 2 rfl ?_
    refine kx_q_putI (k := 14) kmo_0 rfl kfw_X5_132 rfl ?_
    cases h
    exact kx_r_vret rfl rfl
set_option maxRecDepth 100000 in
set_option maxHeartbeats 4000000 in
theorem t_X5_next_8 {d : Nat} {M' : kx_M} : ∀ (n : Nat) (M : kx_M), f_X5_next_8 n M = some M' → kx_Rn EM T_X5_next (d + 1) (8, [some (.ref 0), none], [], M) none M' := by
  intro n
  induction n with
  | zero =>
    intro M h
    cases (show (none : Option kx_M) = some _ from h)
  | succ n ih =>
    intro M h
    rw [f_X5_next_8.eq_2] at h
    refine kx_go (pc' := 9) (L' := [some (.ref 0), none]) (st' := [.ref 0]) 1 rfl ?_
    refine kx_q_getI (k := 12) kmo_0 rfl kfl_X5_129 rfl ?_
    refine kx_go (pc' := 13) (L' := [some (.ref 0), none]) (st' := [.ref 0, .int (M.1 0 12)]) 1 rfl ?_
    refine kx_q_getI (k := 10) kmo_0 rfl kfl_X5_123 rfl ?_
    refine kx_r_icmp_ge rfl (fun hc1 => ?_) (fun hc1 => ?_)
    · rw [if_pos hc1] at h
      refine kx_wk [true, false] ?_
      exact t_X5_next_46 M h
    · rw [if_neg hc1] at h
      refine kx_go (pc' := 20) (L' := [some (.ref 0), none]) (st' := [.ref 0]) 1 rfl ?_
      refine kx_q_getR (k := 11) (j := 8) kmo_0 rfl kfl_X5_31 rfl ?_
      refine kx_go (pc' := 24) (L' := [some (.ref 0), none]) (st' := [.ref 0, .ref 8]) 1 rfl ?_
      refine kx_q_getI (k := 12) kmo_0 rfl kfl_X5_129 rfl ?_
      obtain ⟨hi2, h⟩ := kx_ck_some h
      refine kx_q_iald (kma_8) rfl hi2 ?_
      refine kx_go (pc' := 30) (L' := [some (.ref 0), none]) (st' := [.int (32 : Int32), .int (M.1 8 ((M.1 0 12)).toNatClampNeg)]) 1 rfl ?_
      refine kx_r_icmp_ne rfl (fun hc3 => ?_) (fun hc3 => ?_)
      · rw [if_neg hc3] at h
        refine kx_wk [true, false] ?_
        exact t_X5_next_46 M h
      · rw [if_pos hc3] at h
        refine kx_go (pc' := 35) (L' := [some (.ref 0), none]) (st' := [.ref 0, .ref 0]) 2 rfl ?_
        refine kx_q_getI (k := 12) kmo_0 rfl kfl_X5_129 rfl ?_
        refine kx_go (pc' := 40) (L' := [some (.ref 0), none]) (st' := [.int ((M.1 0 12) + (1 : Int32)), .ref 0]) 2 rfl ?_
        refine kx_q_putI (k := 12) kmo_0 rfl kfw_X5_129 rfl ?_
        refine kx_r_goto rfl ?_
        refine kx_wk [true, false] ?_
        exact ih (kx_u1 M 0 12 ((M.1 0 12) + (1 : Int32))) h
set_option maxRecDepth 100000 in
set_option maxHeartbeats 4000000 in
theorem t_X5_next {d : Nat} {M' : kx_M} (M : kx_M) (h : f_X5_next M = some M') : kx_Rn EM T_X5_next (d + 1) (0, [some (.ref 0), none], [], M) none M' := by
  unfold f_X5_next at h
  refine kx_go (pc' := 2) (L' := [some (.ref 0), none]) (st' := [.ref 0, .ref 0]) 2 rfl ?_
  refine kx_q_getI (k := 13) kmo_0 rfl kfl_X5_126 rfl ?_
  refine kx_q_putI (k := 12) kmo_0 rfl kfw_X5_129 rfl ?_
  refine kx_wk [true, false] ?_
  exact t_X5_next_8 kx_fuel (kx_u1 M 0 12 (M.1 0 13)) h
theorem c_X5_next {d : Nat} (M : kx_M) (M' : kx_M) (h : f_X5_next M = some M') : kx_Call EM (d + 1) T_X5_next [.ref 0] M none M' := kx_entry kok_X5_next (Nat.le_of_ble_eq_true rfl) rfl (t_X5_next (d := d) M h)
set_option maxRecDepth 100000 in
set_option maxHeartbeats 4000000 in
theorem t_X5_number {d : Nat} {r : Int32} {M' : kx_M} (a0 : Int32) (a1 : Int32) (M : kx_M) (h : f_X5_number a0 a1 M = some (r, M')) : kx_Rn EM T_X5_number (d + 2) (0, [some (.ref 0), some (.int a0), some (.int a1)], [], M) (some (.int r)) M' := by
  unfold f_X5_number at h
  refine kx_go (pc' := 1) (L' := [some (.ref 0), some (.int a0), some (.int a1)]) (st' := [.ref 0]) 1 rfl ?_
  obtain ⟨M3, hv2, h⟩ := kx_bn_some h
  refine kx_q_callV (as := []) (rest := []) (M1 := M3) (rv := none) kmo_0 rfl klk_X5_154 kse_X5_next rfl rfl rfl rfl (Nat.le_of_ble_eq_true rfl) (Nat.le_of_ble_eq_true rfl) (c_X5_next (d := d + 0) M M3 hv2) ?_
  show kx_Rn _ _ _ (4, [some (.ref 0), some (.int a0), some (.int a1)], [], M3) _ _
  refine kx_go (pc' := 5) (L' := [some (.ref 0), some (.int a0), some (.int a1)]) (st' := [.ref 0]) 1 rfl ?_
  refine kx_q_getI (k := 14) kmo_0 rfl kfl_X5_132 rfl ?_
  refine kx_go (pc' := 10) (L' := [some (.ref 0), some (.int a0), some (.int a1)]) (st' := [.int (48 : Int32), .int (M3.1 0 14)]) 1 rfl ?_
  refine kx_r_icmp_ne rfl (fun hc4 => ?_) (fun hc4 => ?_)
  · rw [if_neg hc4] at h
    refine kx_go (pc' := 33) (L' := [some (.ref 0), some (.int a0), some (.int a1)]) (st' := [.int (-1 : Int32)]) 1 rfl ?_
    cases h
    exact kx_r_iret rfl rfl
  · rw [if_pos hc4] at h
    refine kx_go (pc' := 14) (L' := [some (.ref 0), some (.int a0), some (.int a1)]) (st' := [.ref 0]) 1 rfl ?_
    refine kx_q_getI (k := 15) kmo_0 rfl kfl_X5_141 rfl ?_
    refine kx_go (pc' := 19) (L' := [some (.ref 0), some (.int a0), some (.int a1)]) (st' := [.int a1, .int a0, .int (M3.1 0 15)]) 2 rfl ?_
    refine kx_r_callS (as := [.int (M3.1 0 15), .int a0, .int a1]) (rest := []) (M1 := M3) (rv := some (.int (kx_bi (f_X5_within (M3.1 0 15) a0 a1)))) rfl klk_X5_78 kst_X5_within rfl rfl (Nat.le_of_ble_eq_true rfl) (Nat.le_of_ble_eq_true rfl) (c_X5_within (d := d + 1) (M3.1 0 15) a0 a1 M3 (f_X5_within (M3.1 0 15) a0 a1) rfl) ?_
    show kx_Rn _ _ _ (22, [some (.ref 0), some (.int a0), some (.int a1)], [.int (kx_bi (f_X5_within (M3.1 0 15) a0 a1))], M3) _ _
    refine kx_q_zeq rfl (fun hc5 => ?_) (fun hc5 => ?_)
    · rw [if_neg hc5] at h
      refine kx_go (pc' := 33) (L' := [some (.ref 0), some (.int a0), some (.int a1)]) (st' := [.int (-1 : Int32)]) 1 rfl ?_
      cases h
      exact kx_r_iret rfl rfl
    · rw [if_pos hc5] at h
      refine kx_go (pc' := 26) (L' := [some (.ref 0), some (.int a0), some (.int a1)]) (st' := [.ref 0]) 1 rfl ?_
      refine kx_q_getI (k := 15) kmo_0 rfl kfl_X5_141 rfl ?_
      refine kx_r_goto rfl ?_
      cases h
      exact kx_r_iret rfl rfl
theorem c_X5_number {d : Nat} (a0 : Int32) (a1 : Int32) (M : kx_M) (r : Int32) (M' : kx_M) (h : f_X5_number a0 a1 M = some (r, M')) : kx_Call EM (d + 2) T_X5_number [.ref 0, .int a0, .int a1] M (some (.int r)) M' := kx_entry kok_X5_number (Nat.le_of_ble_eq_true rfl) rfl (t_X5_number (d := d) a0 a1 M h)
set_option maxRecDepth 100000 in
set_option maxHeartbeats 4000000 in
theorem t_X5_comesOne_51 {d : Nat} {r : Bool} {M' : kx_M} (x1 : Int32) (x2 : Int32) (s0 : Int32) (M : kx_M) (h : f_X5_comesOne_51 x1 x2 s0 M = some (r, M')) : kx_Rn EM T_X5_comesOne (d + 3) (51, [some (.ref 0), some (.int x1), some (.int x2), none], [.int s0], M) (some (.int (kx_bi r))) M' := by
  unfold f_X5_comesOne_51 at h
  refine kx_go (pc' := 54) (L' := [some (.ref 0), some (.int x1), some (.int x2), some (.int s0)]) (st' := [.int (-1 : Int32), .int s0]) 3 rfl ?_
  refine kx_r_icmp_ne rfl (fun hc1 => ?_) (fun hc1 => ?_)
  · rw [if_neg hc1] at h
    refine kx_go (pc' := 63) (L' := [some (.ref 0), some (.int x1), some (.int x2), some (.int s0)]) (st' := [.int s0, .int x2, .int x1, .ref 0]) 4 rfl ?_
    obtain ⟨v2, M4, hv3, h⟩ := kx_bd_some h
    refine kx_q_callV (as := [.int x1, .int x2, .int s0]) (rest := []) (M1 := M4) (rv := some (.int v2)) kmo_0 rfl klk_X5_116 kse_X5_newOne rfl rfl rfl rfl (Nat.le_of_ble_eq_true rfl) (Nat.le_of_ble_eq_true rfl) (c_X5_newOne (d := d + 2) x1 x2 s0 M v2 M4 hv3) ?_
    show kx_Rn _ _ _ (66, [some (.ref 0), some (.int x1), some (.int x2), some (.int s0)], [.int v2], M4) _ _
    refine kx_go (pc' := 68) (L' := [some (.ref 0), some (.int x1), some (.int x2), some (.int s0)]) (st' := [.int (1 : Int32)]) 2 rfl ?_
    cases h
    exact kx_r_zret rfl rfl (Or.inr rfl)
  · rw [if_pos hc1] at h
    refine kx_go (pc' := 58) (L' := [some (.ref 0), some (.int x1), some (.int x2), some (.int s0)]) (st' := [.int (0 : Int32)]) 1 rfl ?_
    cases h
    exact kx_r_zret rfl rfl (Or.inl rfl)
set_option maxRecDepth 100000 in
set_option maxHeartbeats 4000000 in
theorem t_X5_comesOne_34 {d : Nat} {r : Bool} {M' : kx_M} (x1 : Int32) (s0 : Int32) (M : kx_M) (h : f_X5_comesOne_34 x1 s0 M = some (r, M')) : kx_Rn EM T_X5_comesOne (d + 3) (34, [some (.ref 0), some (.int x1), none, none], [.int s0], M) (some (.int (kx_bi r))) M' := by
  unfold f_X5_comesOne_34 at h
  refine kx_go (pc' := 37) (L' := [some (.ref 0), some (.int x1), some (.int s0), none]) (st' := [.int (-1 : Int32), .int s0]) 3 rfl ?_
  refine kx_r_icmp_ne rfl (fun hc1 => ?_) (fun hc1 => ?_)
  · rw [if_neg hc1] at h
    refine kx_go (pc' := 48) (L' := [some (.ref 0), some (.int x1), some (.int s0), none]) (st' := [.int (20 : Int32), .int (0 : Int32), .ref 0]) 3 rfl ?_
    obtain ⟨v2, M4, hv3, h⟩ := kx_bd_some h
    refine kx_q_callV (as := [.int (0 : Int32), .int (20 : Int32)]) (rest := []) (M1 := M4) (rv := some (.int v2)) kmo_0 rfl klk_X5_157 kse_X5_number rfl rfl rfl rfl (Nat.le_of_ble_eq_true rfl) (Nat.le_of_ble_eq_true rfl) (c_X5_number (d := d + 0) (0 : Int32) (20 : Int32) M v2 M4 hv3) ?_
    show kx_Rn _ _ _ (51, [some (.ref 0), some (.int x1), some (.int s0), none], [.int v2], M4) _ _
    refine kx_wk [true, true, true, false] ?_
    exact t_X5_comesOne_51 x1 s0 v2 M4 h
  · rw [if_pos hc1] at h
    refine kx_go (pc' := 41) (L' := [some (.ref 0), some (.int x1), some (.int s0), none]) (st' := [.int (-1 : Int32)]) 1 rfl ?_
    refine kx_r_goto rfl ?_
    refine kx_wk [true, true, true, false] ?_
    exact t_X5_comesOne_51 x1 s0 (-1 : Int32) M h
set_option maxRecDepth 100000 in
set_option maxHeartbeats 4000000 in
theorem t_X5_comesOne {d : Nat} {r : Bool} {M' : kx_M} (M : kx_M) (h : f_X5_comesOne M = some (r, M')) : kx_Rn EM T_X5_comesOne (d + 3) (0, [some (.ref 0), none, none, none], [], M) (some (.int (kx_bi r))) M' := by
  unfold f_X5_comesOne at h
  refine kx_go (pc' := 1) (L' := [some (.ref 0), none, none, none]) (st' := [.ref 0]) 1 rfl ?_
  refine kx_q_getI (k := 4) kmo_0 rfl kfl_X5_82 rfl ?_
  refine kx_go (pc' := 6) (L' := [some (.ref 0), none, none, none]) (st' := [.int (8 : Int32), .int (M.1 0 4)]) 1 rfl ?_
  refine kx_r_icmp_ne rfl (fun hc1 => ?_) (fun hc1 => ?_)
  · rw [if_neg hc1] at h
    refine kx_go (pc' := 14) (L' := [some (.ref 0), none, none, none]) (st' := [.int (5 : Int32), .int (0 : Int32), .ref 0]) 3 rfl ?_
    obtain ⟨v2, M4, hv3, h⟩ := kx_bd_some h
    refine kx_q_callV (as := [.int (0 : Int32), .int (5 : Int32)]) (rest := []) (M1 := M4) (rv := some (.int v2)) kmo_0 rfl klk_X5_157 kse_X5_number rfl rfl rfl rfl (Nat.le_of_ble_eq_true rfl) (Nat.le_of_ble_eq_true rfl) (c_X5_number (d := d + 0) (0 : Int32) (5 : Int32) M v2 M4 hv3) ?_
    show kx_Rn _ _ _ (17, [some (.ref 0), none, none, none], [.int v2], M4) _ _
    refine kx_go (pc' := 20) (L' := [some (.ref 0), some (.int v2), none, none]) (st' := [.int (-1 : Int32), .int v2]) 3 rfl ?_
    refine kx_r_icmp_ne rfl (fun hc5 => ?_) (fun hc5 => ?_)
    · rw [if_neg hc5] at h
      refine kx_go (pc' := 31) (L' := [some (.ref 0), some (.int v2), none, none]) (st' := [.int (9 : Int32), .int (0 : Int32), .ref 0]) 3 rfl ?_
      obtain ⟨v6, M8, hv7, h⟩ := kx_bd_some h
      refine kx_q_callV (as := [.int (0 : Int32), .int (9 : Int32)]) (rest := []) (M1 := M8) (rv := some (.int v6)) kmo_0 rfl klk_X5_157 kse_X5_number rfl rfl rfl rfl (Nat.le_of_ble_eq_true rfl) (Nat.le_of_ble_eq_true rfl) (c_X5_number (d := d + 0) (0 : Int32) (9 : Int32) M4 v6 M8 hv7) ?_
      show kx_Rn _ _ _ (34, [some (.ref 0), some (.int v2), none, none], [.int v6], M8) _ _
      refine kx_wk [true, true, false, false] ?_
      exact t_X5_comesOne_34 v2 v6 M8 h
    · rw [if_pos hc5] at h
      refine kx_go (pc' := 24) (L' := [some (.ref 0), some (.int v2), none, none]) (st' := [.int (-1 : Int32)]) 1 rfl ?_
      refine kx_r_goto rfl ?_
      refine kx_wk [true, true, false, false] ?_
      exact t_X5_comesOne_34 v2 (-1 : Int32) M4 h
  · rw [if_pos hc1] at h
    refine kx_go (pc' := 10) (L' := [some (.ref 0), none, none, none]) (st' := [.int (0 : Int32)]) 1 rfl ?_
    cases h
    exact kx_r_zret rfl rfl (Or.inl rfl)
theorem c_X5_comesOne {d : Nat} (M : kx_M) (r : Bool) (M' : kx_M) (h : f_X5_comesOne M = some (r, M')) : kx_Call EM (d + 3) T_X5_comesOne [.ref 0] M (some (.int (kx_bi r))) M' := kx_entry kok_X5_comesOne (Nat.le_of_ble_eq_true rfl) rfl (t_X5_comesOne (d := d) M h)
set_option maxRecDepth 100000 in
set_option maxHeartbeats 4000000 in
theorem t_X5_tellsOf_27 {d : Nat} {r : Bool} {M' : kx_M} (w : Nat) (hw : kx_ar EM w 0 24) (x3 : Int32) (s0 : Int32) (M : kx_M) (h : f_X5_tellsOf_27 w x3 s0 M = some (r, M')) : kx_Rn EM T_X5_tellsOf (d + 3) (27, [none, some (.ref w), none, some (.int x3), none], [.int s0], M) (some (.int (kx_bi r))) M' := by
  unfold f_X5_tellsOf_27 at h
  refine kx_go (pc' := 32) (L' := [none, some (.ref w), none, some (.int x3), some (.int s0)]) (st' := [.int (-1 : Int32), .int s0]) 3 rfl ?_
  refine kx_r_icmp_ne rfl (fun hc1 => ?_) (fun hc1 => ?_)
  · rw [if_neg hc1] at h
    refine kx_go (pc' := 41) (L' := [none, some (.ref w), none, some (.int x3), some (.int s0)]) (st' := [.int s0, .int x3, .ref w]) 3 rfl ?_
    obtain ⟨hi2, h⟩ := kx_ck_some h
    refine kx_q_iast (hw) rfl hi2 ?_
    refine kx_go (pc' := 43) (L' := [none, some (.ref w), none, some (.int x3), some (.int s0)]) (st' := [.int (1 : Int32)]) 1 rfl ?_
    cases h
    exact kx_r_zret rfl rfl (Or.inr rfl)
  · rw [if_pos hc1] at h
    refine kx_go (pc' := 36) (L' := [none, some (.ref w), none, some (.int x3), some (.int s0)]) (st' := [.int (0 : Int32)]) 1 rfl ?_
    cases h
    exact kx_r_zret rfl rfl (Or.inl rfl)
set_option maxRecDepth 100000 in
set_option maxHeartbeats 4000000 in
theorem t_X5_tellsOf {d : Nat} {r : Bool} {M' : kx_M} (w : Nat) (hw : kx_ar EM w 0 24) (a1 : Int32) (M : kx_M) (h : f_X5_tellsOf w a1 M = some (r, M')) : kx_Rn EM T_X5_tellsOf (d + 3) (0, [some (.ref 0), some (.ref w), some (.int a1), none, none], [], M) (some (.int (kx_bi r))) M' := by
  unfold f_X5_tellsOf at h
  refine kx_go (pc' := 3) (L' := [some (.ref 0), some (.ref w), some (.int a1), none, none]) (st' := [.ref 0, .int (0 : Int32), .ref 0]) 3 rfl ?_
  refine kx_q_getI (k := 0) kmo_0 rfl kfl_X5_65 rfl ?_
  refine kx_go (pc' := 8) (L' := [some (.ref 0), some (.ref w), some (.int a1), none, none]) (st' := [.int ((M.1 0 0) - (1 : Int32)), .int (0 : Int32), .ref 0]) 2 rfl ?_
  obtain ⟨v1, M3, hv2, h⟩ := kx_bd_some h
  refine kx_q_callV (as := [.int (0 : Int32), .int ((M.1 0 0) - (1 : Int32))]) (rest := []) (M1 := M3) (rv := some (.int v1)) kmo_0 rfl klk_X5_157 kse_X5_number rfl rfl rfl rfl (Nat.le_of_ble_eq_true rfl) (Nat.le_of_ble_eq_true rfl) (c_X5_number (d := d + 0) (0 : Int32) ((M.1 0 0) - (1 : Int32)) M v1 M3 hv2) ?_
  show kx_Rn _ _ _ (11, [some (.ref 0), some (.ref w), some (.int a1), none, none], [.int v1], M3) _ _
  refine kx_go (pc' := 14) (L' := [some (.ref 0), some (.ref w), some (.int a1), some (.int v1), none]) (st' := [.int (-1 : Int32), .int v1]) 3 rfl ?_
  refine kx_r_icmp_ne rfl (fun hc4 => ?_) (fun hc4 => ?_)
  · rw [if_neg hc4] at h
    refine kx_go (pc' := 24) (L' := [some (.ref 0), some (.ref w), some (.int a1), some (.int v1), none]) (st' := [.int a1, .int (0 : Int32), .ref 0]) 3 rfl ?_
    obtain ⟨v5, M7, hv6, h⟩ := kx_bd_some h
    refine kx_q_callV (as := [.int (0 : Int32), .int a1]) (rest := []) (M1 := M7) (rv := some (.int v5)) kmo_0 rfl klk_X5_157 kse_X5_number rfl rfl rfl rfl (Nat.le_of_ble_eq_true rfl) (Nat.le_of_ble_eq_true rfl) (c_X5_number (d := d + 0) (0 : Int32) a1 M3 v5 M7 hv6) ?_
    show kx_Rn _ _ _ (27, [some (.ref 0), some (.ref w), some (.int a1), some (.int v1), none], [.int v5], M7) _ _
    refine kx_wk [false, true, false, true, false] ?_
    exact t_X5_tellsOf_27 w hw v1 v5 M7 h
  · rw [if_pos hc4] at h
    refine kx_go (pc' := 18) (L' := [some (.ref 0), some (.ref w), some (.int a1), some (.int v1), none]) (st' := [.int (-1 : Int32)]) 1 rfl ?_
    refine kx_r_goto rfl ?_
    refine kx_wk [false, true, false, true, false] ?_
    exact t_X5_tellsOf_27 w hw v1 (-1 : Int32) M3 h
theorem c_X5_tellsOf {d : Nat} (w : Nat) (hw : kx_ar EM w 0 24) (a1 : Int32) (M : kx_M) (r : Bool) (M' : kx_M) (h : f_X5_tellsOf w a1 M = some (r, M')) : kx_Call EM (d + 3) T_X5_tellsOf [.ref 0, .ref w, .int a1] M (some (.int (kx_bi r))) M' := kx_entry kok_X5_tellsOf (Nat.le_of_ble_eq_true rfl) rfl (t_X5_tellsOf (d := d) w hw a1 M h)
set_option maxRecDepth 100000 in
set_option maxHeartbeats 4000000 in
theorem t_X5_again_37 {d : Nat} {M' : kx_M} (w : Nat) (hw : kx_ar EM w 0 85) : ∀ (n : Nat) (x2 : Int32) (M : kx_M), f_X5_again_37 w n x2 M = some M' → kx_Rn EM T_X5_again (d + 0) (37, [some (.ref 0), some (.ref w), some (.int x2)], [], M) none M' := by
  intro n
  induction n with
  | zero =>
    intro x2 M h
    cases (show (none : Option kx_M) = some _ from h)
  | succ n ih =>
    intro x2 M h
    rw [f_X5_again_37.eq_2] at h
    refine kx_go (pc' := 40) (L' := [some (.ref 0), some (.ref w), some (.int x2)]) (st' := [.int (8 : Int32), .int x2]) 2 rfl ?_
    refine kx_r_icmp_ge rfl (fun hc1 => ?_) (fun hc1 => ?_)
    · rw [if_pos hc1] at h
      refine kx_go (pc' := 101) (L' := [some (.ref 0), some (.ref w), some (.int x2)]) (st' := [.int (80 : Int32), .ref w, .ref 0]) 3 rfl ?_
      obtain ⟨hi2, h⟩ := kx_ck_some h
      refine kx_q_iald (hw) rfl hi2 ?_
      refine kx_q_putI (k := 0) kmo_0 rfl kfw_X5_65 rfl ?_
      refine kx_go (pc' := 106) (L' := [some (.ref 0), some (.ref w), some (.int x2)]) (st' := [.ref 0]) 1 rfl ?_
      refine kx_q_getR (k := 3) (j := 3) kmo_0 rfl kfl_X5_16 rfl ?_
      refine kx_go (pc' := 113) (L' := [some (.ref 0), some (.ref w), some (.int x2)]) (st' := [.int (81 : Int32), .ref w, .int (0 : Int32), .ref 3]) 3 rfl ?_
      obtain ⟨hi3, h⟩ := kx_ck_some h
      refine kx_q_iald (hw) rfl hi3 ?_
      obtain ⟨hi4, h⟩ := kx_ck_some h
      refine kx_q_iast (kma_3) rfl hi4 ?_
      obtain ⟨M5, hM5, h⟩ := kx_lt_ex h
      rw [← hM5]
      refine kx_go (pc' := 116) (L' := [some (.ref 0), some (.ref w), some (.int x2)]) (st' := [.ref 0]) 1 rfl ?_
      refine kx_q_getR (k := 3) (j := 3) kmo_0 rfl kfl_X5_16 rfl ?_
      refine kx_go (pc' := 123) (L' := [some (.ref 0), some (.ref w), some (.int x2)]) (st' := [.int (82 : Int32), .ref w, .int (1 : Int32), .ref 3]) 3 rfl ?_
      obtain ⟨hi6, h⟩ := kx_ck_some h
      refine kx_q_iald (hw) rfl hi6 ?_
      obtain ⟨hi7, h⟩ := kx_ck_some h
      refine kx_q_iast (kma_3) rfl hi7 ?_
      refine kx_go (pc' := 129) (L' := [some (.ref 0), some (.ref w), some (.int x2)]) (st' := [.int (83 : Int32), .ref w, .ref 0]) 3 rfl ?_
      obtain ⟨hi8, h⟩ := kx_ck_some h
      refine kx_q_iald (hw) rfl hi8 ?_
      refine kx_q_putI (k := 4) kmo_0 rfl kfw_X5_82 rfl ?_
      obtain ⟨M9, hM9, h⟩ := kx_lt_ex h
      rw [← hM9]
      refine kx_go (pc' := 137) (L' := [some (.ref 0), some (.ref w), some (.int x2)]) (st' := [.int (84 : Int32), .ref w, .ref 0]) 3 rfl ?_
      obtain ⟨hi10, h⟩ := kx_ck_some h
      refine kx_q_iald (hw) rfl hi10 ?_
      refine kx_q_putI (k := 9) kmo_0 rfl kfw_X5_75 rfl ?_
      cases h
      exact kx_r_vret rfl rfl
    · rw [if_neg hc1] at h
      refine kx_go (pc' := 44) (L' := [some (.ref 0), some (.ref w), some (.int x2)]) (st' := [.ref 0]) 1 rfl ?_
      refine kx_q_getR (k := 5) (j := 4) kmo_0 rfl kfl_X5_19 rfl ?_
      refine kx_go (pc' := 53) (L' := [some (.ref 0), some (.ref w), some (.int x2)]) (st' := [.int ((48 : Int32) + x2), .ref w, .int x2, .ref 4]) 5 rfl ?_
      obtain ⟨hi11, h⟩ := kx_ck_some h
      refine kx_q_iald (hw) rfl hi11 ?_
      obtain ⟨hi12, h⟩ := kx_ck_some h
      refine kx_q_iast (kma_4) rfl hi12 ?_
      refine kx_go (pc' := 56) (L' := [some (.ref 0), some (.ref w), some (.int x2)]) (st' := [.ref 0]) 1 rfl ?_
      refine kx_q_getR (k := 6) (j := 5) kmo_0 rfl kfl_X5_22 rfl ?_
      refine kx_go (pc' := 65) (L' := [some (.ref 0), some (.ref w), some (.int x2)]) (st' := [.int ((56 : Int32) + x2), .ref w, .int x2, .ref 5]) 5 rfl ?_
      obtain ⟨hi13, h⟩ := kx_ck_some h
      refine kx_q_iald (hw) rfl hi13 ?_
      obtain ⟨hi14, h⟩ := kx_ck_some h
      refine kx_q_iast (kma_5) rfl hi14 ?_
      obtain ⟨M15, hM15, h⟩ := kx_lt_ex h
      rw [← hM15]
      refine kx_go (pc' := 68) (L' := [some (.ref 0), some (.ref w), some (.int x2)]) (st' := [.ref 0]) 1 rfl ?_
      refine kx_q_getR (k := 7) (j := 6) kmo_0 rfl kfl_X5_25 rfl ?_
      refine kx_go (pc' := 77) (L' := [some (.ref 0), some (.ref w), some (.int x2)]) (st' := [.int ((64 : Int32) + x2), .ref w, .int x2, .ref 6]) 5 rfl ?_
      obtain ⟨hi16, h⟩ := kx_ck_some h
      refine kx_q_iald (hw) rfl hi16 ?_
      obtain ⟨hi17, h⟩ := kx_ck_some h
      refine kx_q_iast (kma_6) rfl hi17 ?_
      refine kx_go (pc' := 80) (L' := [some (.ref 0), some (.ref w), some (.int x2)]) (st' := [.ref 0]) 1 rfl ?_
      refine kx_q_getR (k := 8) (j := 7) kmo_0 rfl kfl_X5_28 rfl ?_
      refine kx_go (pc' := 89) (L' := [some (.ref 0), some (.ref w), some (.int x2)]) (st' := [.int ((72 : Int32) + x2), .ref w, .int x2, .ref 7]) 5 rfl ?_
      obtain ⟨hi18, h⟩ := kx_ck_some h
      refine kx_q_iald (hw) rfl hi18 ?_
      obtain ⟨hi19, h⟩ := kx_ck_some h
      refine kx_q_iast (kma_7) rfl hi19 ?_
      obtain ⟨M20, hM20, h⟩ := kx_lt_ex h
      rw [← hM20]
      refine kx_go (pc' := 94) (L' := [some (.ref 0), some (.ref w), some (.int (x2 + (1)))]) (st' := []) 1 rfl ?_
      refine kx_r_goto rfl ?_
      refine kx_wk [true, true, true] ?_
      exact ih (x2 + (1)) M20 h
set_option maxRecDepth 100000 in
set_option maxHeartbeats 4000000 in
theorem t_X5_again_2 {d : Nat} {M' : kx_M} (w : Nat) (hw : kx_ar EM w 0 85) : ∀ (n : Nat) (x2 : Int32) (M : kx_M), f_X5_again_2 w n x2 M = some M' → kx_Rn EM T_X5_again (d + 0) (2, [some (.ref 0), some (.ref w), some (.int x2)], [], M) none M' := by
  intro n
  induction n with
  | zero =>
    intro x2 M h
    cases (show (none : Option kx_M) = some _ from h)
  | succ n ih =>
    intro x2 M h
    rw [f_X5_again_2.eq_2] at h
    refine kx_go (pc' := 5) (L' := [some (.ref 0), some (.ref w), some (.int x2)]) (st' := [.int (24 : Int32), .int x2]) 2 rfl ?_
    refine kx_r_icmp_ge rfl (fun hc1 => ?_) (fun hc1 => ?_)
    · rw [if_pos hc1] at h
      refine kx_go (pc' := 37) (L' := [some (.ref 0), some (.ref w), some (.int (0 : Int32))]) (st' := []) 2 rfl ?_
      refine kx_wk [true, true, true] ?_
      exact t_X5_again_37 w hw kx_fuel (0 : Int32) M h
    · rw [if_neg hc1] at h
      refine kx_go (pc' := 9) (L' := [some (.ref 0), some (.ref w), some (.int x2)]) (st' := [.ref 0]) 1 rfl ?_
      refine kx_q_getR (k := 1) (j := 1) kmo_0 rfl kfl_X5_7 rfl ?_
      refine kx_go (pc' := 15) (L' := [some (.ref 0), some (.ref w), some (.int x2)]) (st' := [.int x2, .ref w, .int x2, .ref 1]) 3 rfl ?_
      obtain ⟨hi2, h⟩ := kx_ck_some h
      refine kx_q_iald (hw) rfl hi2 ?_
      obtain ⟨hi3, h⟩ := kx_ck_some h
      refine kx_q_iast (kma_1) rfl hi3 ?_
      refine kx_go (pc' := 18) (L' := [some (.ref 0), some (.ref w), some (.int x2)]) (st' := [.ref 0]) 1 rfl ?_
      refine kx_q_getR (k := 2) (j := 2) kmo_0 rfl kfl_X5_13 rfl ?_
      refine kx_go (pc' := 27) (L' := [some (.ref 0), some (.ref w), some (.int x2)]) (st' := [.int ((24 : Int32) + x2), .ref w, .int x2, .ref 2]) 5 rfl ?_
      obtain ⟨hi4, h⟩ := kx_ck_some h
      refine kx_q_iald (hw) rfl hi4 ?_
      obtain ⟨hi5, h⟩ := kx_ck_some h
      refine kx_q_iast (kma_2) rfl hi5 ?_
      obtain ⟨M6, hM6, h⟩ := kx_lt_ex h
      rw [← hM6]
      refine kx_go (pc' := 32) (L' := [some (.ref 0), some (.ref w), some (.int (x2 + (1)))]) (st' := []) 1 rfl ?_
      refine kx_r_goto rfl ?_
      refine kx_wk [true, true, true] ?_
      exact ih (x2 + (1)) M6 h
set_option maxRecDepth 100000 in
set_option maxHeartbeats 4000000 in
theorem t_X5_again {d : Nat} {M' : kx_M} (w : Nat) (hw : kx_ar EM w 0 85) (M : kx_M) (h : f_X5_again w M = some M') : kx_Rn EM T_X5_again (d + 0) (0, [some (.ref 0), some (.ref w), none], [], M) none M' := by
  unfold f_X5_again at h
  refine kx_go (pc' := 2) (L' := [some (.ref 0), some (.ref w), some (.int (0 : Int32))]) (st' := []) 2 rfl ?_
  refine kx_wk [true, true, true] ?_
  exact t_X5_again_2 w hw kx_fuel (0 : Int32) M h
theorem c_X5_again {d : Nat} (w : Nat) (hw : kx_ar EM w 0 85) (M : kx_M) (M' : kx_M) (h : f_X5_again w M = some M') : kx_Call EM (d + 0) T_X5_again [.ref 0, .ref w] M none M' := kx_entry kok_X5_again (Nat.le_of_ble_eq_true rfl) rfl (t_X5_again (d := d) w hw M h)
set_option maxRecDepth 100000 in
set_option maxHeartbeats 4000000 in
theorem t_X5_keep_37 {d : Nat} {M' : kx_M} (w : Nat) (hw : kx_ar EM w 0 85) : ∀ (n : Nat) (x2 : Int32) (M : kx_M), f_X5_keep_37 w n x2 M = some M' → kx_Rn EM T_X5_keep (d + 0) (37, [some (.ref 0), some (.ref w), some (.int x2)], [], M) none M' := by
  intro n
  induction n with
  | zero =>
    intro x2 M h
    cases (show (none : Option kx_M) = some _ from h)
  | succ n ih =>
    intro x2 M h
    rw [f_X5_keep_37.eq_2] at h
    refine kx_go (pc' := 40) (L' := [some (.ref 0), some (.ref w), some (.int x2)]) (st' := [.int (8 : Int32), .int x2]) 2 rfl ?_
    refine kx_r_icmp_ge rfl (fun hc1 => ?_) (fun hc1 => ?_)
    · rw [if_pos hc1] at h
      refine kx_go (pc' := 101) (L' := [some (.ref 0), some (.ref w), some (.int x2)]) (st' := [.ref 0, .int (80 : Int32), .ref w]) 3 rfl ?_
      refine kx_q_getI (k := 0) kmo_0 rfl kfl_X5_65 rfl ?_
      obtain ⟨hi2, h⟩ := kx_ck_some h
      refine kx_q_iast (hw) rfl hi2 ?_
      refine kx_go (pc' := 109) (L' := [some (.ref 0), some (.ref w), some (.int x2)]) (st' := [.ref 0, .int (81 : Int32), .ref w]) 3 rfl ?_
      refine kx_q_getR (k := 3) (j := 3) kmo_0 rfl kfl_X5_16 rfl ?_
      refine kx_go (pc' := 113) (L' := [some (.ref 0), some (.ref w), some (.int x2)]) (st' := [.int (0 : Int32), .ref 3, .int (81 : Int32), .ref w]) 1 rfl ?_
      obtain ⟨hi3, h⟩ := kx_ck_some h
      refine kx_q_iald (kma_3) rfl hi3 ?_
      obtain ⟨hi4, h⟩ := kx_ck_some h
      refine kx_q_iast (hw) rfl hi4 ?_
      obtain ⟨M5, hM5, h⟩ := kx_lt_ex h
      rw [← hM5]
      refine kx_go (pc' := 119) (L' := [some (.ref 0), some (.ref w), some (.int x2)]) (st' := [.ref 0, .int (82 : Int32), .ref w]) 3 rfl ?_
      refine kx_q_getR (k := 3) (j := 3) kmo_0 rfl kfl_X5_16 rfl ?_
      refine kx_go (pc' := 123) (L' := [some (.ref 0), some (.ref w), some (.int x2)]) (st' := [.int (1 : Int32), .ref 3, .int (82 : Int32), .ref w]) 1 rfl ?_
      obtain ⟨hi6, h⟩ := kx_ck_some h
      refine kx_q_iald (kma_3) rfl hi6 ?_
      obtain ⟨hi7, h⟩ := kx_ck_some h
      refine kx_q_iast (hw) rfl hi7 ?_
      refine kx_go (pc' := 129) (L' := [some (.ref 0), some (.ref w), some (.int x2)]) (st' := [.ref 0, .int (83 : Int32), .ref w]) 3 rfl ?_
      refine kx_q_getI (k := 4) kmo_0 rfl kfl_X5_82 rfl ?_
      obtain ⟨hi8, h⟩ := kx_ck_some h
      refine kx_q_iast (hw) rfl hi8 ?_
      obtain ⟨M9, hM9, h⟩ := kx_lt_ex h
      rw [← hM9]
      refine kx_go (pc' := 137) (L' := [some (.ref 0), some (.ref w), some (.int x2)]) (st' := [.ref 0, .int (84 : Int32), .ref w]) 3 rfl ?_
      refine kx_q_getI (k := 9) kmo_0 rfl kfl_X5_75 rfl ?_
      obtain ⟨hi10, h⟩ := kx_ck_some h
      refine kx_q_iast (hw) rfl hi10 ?_
      cases h
      exact kx_r_vret rfl rfl
    · rw [if_neg hc1] at h
      refine kx_go (pc' := 49) (L' := [some (.ref 0), some (.ref w), some (.int x2)]) (st' := [.ref 0, .int ((48 : Int32) + x2), .ref w]) 5 rfl ?_
      refine kx_q_getR (k := 5) (j := 4) kmo_0 rfl kfl_X5_19 rfl ?_
      refine kx_go (pc' := 53) (L' := [some (.ref 0), some (.ref w), some (.int x2)]) (st' := [.int x2, .ref 4, .int ((48 : Int32) + x2), .ref w]) 1 rfl ?_
      obtain ⟨hi11, h⟩ := kx_ck_some h
      refine kx_q_iald (kma_4) rfl hi11 ?_
      obtain ⟨hi12, h⟩ := kx_ck_some h
      refine kx_q_iast (hw) rfl hi12 ?_
      refine kx_go (pc' := 61) (L' := [some (.ref 0), some (.ref w), some (.int x2)]) (st' := [.ref 0, .int ((56 : Int32) + x2), .ref w]) 5 rfl ?_
      refine kx_q_getR (k := 6) (j := 5) kmo_0 rfl kfl_X5_22 rfl ?_
      refine kx_go (pc' := 65) (L' := [some (.ref 0), some (.ref w), some (.int x2)]) (st' := [.int x2, .ref 5, .int ((56 : Int32) + x2), .ref w]) 1 rfl ?_
      obtain ⟨hi13, h⟩ := kx_ck_some h
      refine kx_q_iald (kma_5) rfl hi13 ?_
      obtain ⟨hi14, h⟩ := kx_ck_some h
      refine kx_q_iast (hw) rfl hi14 ?_
      obtain ⟨M15, hM15, h⟩ := kx_lt_ex h
      rw [← hM15]
      refine kx_go (pc' := 73) (L' := [some (.ref 0), some (.ref w), some (.int x2)]) (st' := [.ref 0, .int ((64 : Int32) + x2), .ref w]) 5 rfl ?_
      refine kx_q_getR (k := 7) (j := 6) kmo_0 rfl kfl_X5_25 rfl ?_
      refine kx_go (pc' := 77) (L' := [some (.ref 0), some (.ref w), some (.int x2)]) (st' := [.int x2, .ref 6, .int ((64 : Int32) + x2), .ref w]) 1 rfl ?_
      obtain ⟨hi16, h⟩ := kx_ck_some h
      refine kx_q_iald (kma_6) rfl hi16 ?_
      obtain ⟨hi17, h⟩ := kx_ck_some h
      refine kx_q_iast (hw) rfl hi17 ?_
      refine kx_go (pc' := 85) (L' := [some (.ref 0), some (.ref w), some (.int x2)]) (st' := [.ref 0, .int ((72 : Int32) + x2), .ref w]) 5 rfl ?_
      refine kx_q_getR (k := 8) (j := 7) kmo_0 rfl kfl_X5_28 rfl ?_
      refine kx_go (pc' := 89) (L' := [some (.ref 0), some (.ref w), some (.int x2)]) (st' := [.int x2, .ref 7, .int ((72 : Int32) + x2), .ref w]) 1 rfl ?_
      obtain ⟨hi18, h⟩ := kx_ck_some h
      refine kx_q_iald (kma_7) rfl hi18 ?_
      obtain ⟨hi19, h⟩ := kx_ck_some h
      refine kx_q_iast (hw) rfl hi19 ?_
      obtain ⟨M20, hM20, h⟩ := kx_lt_ex h
      rw [← hM20]
      refine kx_go (pc' := 94) (L' := [some (.ref 0), some (.ref w), some (.int (x2 + (1)))]) (st' := []) 1 rfl ?_
      refine kx_r_goto rfl ?_
      refine kx_wk [true, true, true] ?_
      exact ih (x2 + (1)) M20 h
set_option maxRecDepth 100000 in
set_option maxHeartbeats 4000000 in
theorem t_X5_keep_2 {d : Nat} {M' : kx_M} (w : Nat) (hw : kx_ar EM w 0 85) : ∀ (n : Nat) (x2 : Int32) (M : kx_M), f_X5_keep_2 w n x2 M = some M' → kx_Rn EM T_X5_keep (d + 0) (2, [some (.ref 0), some (.ref w), some (.int x2)], [], M) none M' := by
  intro n
  induction n with
  | zero =>
    intro x2 M h
    cases (show (none : Option kx_M) = some _ from h)
  | succ n ih =>
    intro x2 M h
    rw [f_X5_keep_2.eq_2] at h
    refine kx_go (pc' := 5) (L' := [some (.ref 0), some (.ref w), some (.int x2)]) (st' := [.int (24 : Int32), .int x2]) 2 rfl ?_
    refine kx_r_icmp_ge rfl (fun hc1 => ?_) (fun hc1 => ?_)
    · rw [if_pos hc1] at h
      refine kx_go (pc' := 37) (L' := [some (.ref 0), some (.ref w), some (.int (0 : Int32))]) (st' := []) 2 rfl ?_
      refine kx_wk [true, true, true] ?_
      exact t_X5_keep_37 w hw kx_fuel (0 : Int32) M h
    · rw [if_neg hc1] at h
      refine kx_go (pc' := 11) (L' := [some (.ref 0), some (.ref w), some (.int x2)]) (st' := [.ref 0, .int x2, .ref w]) 3 rfl ?_
      refine kx_q_getR (k := 1) (j := 1) kmo_0 rfl kfl_X5_7 rfl ?_
      refine kx_go (pc' := 15) (L' := [some (.ref 0), some (.ref w), some (.int x2)]) (st' := [.int x2, .ref 1, .int x2, .ref w]) 1 rfl ?_
      obtain ⟨hi2, h⟩ := kx_ck_some h
      refine kx_q_iald (kma_1) rfl hi2 ?_
      obtain ⟨hi3, h⟩ := kx_ck_some h
      refine kx_q_iast (hw) rfl hi3 ?_
      refine kx_go (pc' := 23) (L' := [some (.ref 0), some (.ref w), some (.int x2)]) (st' := [.ref 0, .int ((24 : Int32) + x2), .ref w]) 5 rfl ?_
      refine kx_q_getR (k := 2) (j := 2) kmo_0 rfl kfl_X5_13 rfl ?_
      refine kx_go (pc' := 27) (L' := [some (.ref 0), some (.ref w), some (.int x2)]) (st' := [.int x2, .ref 2, .int ((24 : Int32) + x2), .ref w]) 1 rfl ?_
      obtain ⟨hi4, h⟩ := kx_ck_some h
      refine kx_q_iald (kma_2) rfl hi4 ?_
      obtain ⟨hi5, h⟩ := kx_ck_some h
      refine kx_q_iast (hw) rfl hi5 ?_
      obtain ⟨M6, hM6, h⟩ := kx_lt_ex h
      rw [← hM6]
      refine kx_go (pc' := 32) (L' := [some (.ref 0), some (.ref w), some (.int (x2 + (1)))]) (st' := []) 1 rfl ?_
      refine kx_r_goto rfl ?_
      refine kx_wk [true, true, true] ?_
      exact ih (x2 + (1)) M6 h
set_option maxRecDepth 100000 in
set_option maxHeartbeats 4000000 in
theorem t_X5_keep {d : Nat} {M' : kx_M} (w : Nat) (hw : kx_ar EM w 0 85) (M : kx_M) (h : f_X5_keep w M = some M') : kx_Rn EM T_X5_keep (d + 0) (0, [some (.ref 0), some (.ref w), none], [], M) none M' := by
  unfold f_X5_keep at h
  refine kx_go (pc' := 2) (L' := [some (.ref 0), some (.ref w), some (.int (0 : Int32))]) (st' := []) 2 rfl ?_
  refine kx_wk [true, true, true] ?_
  exact t_X5_keep_2 w hw kx_fuel (0 : Int32) M h
theorem c_X5_keep {d : Nat} (w : Nat) (hw : kx_ar EM w 0 85) (M : kx_M) (M' : kx_M) (h : f_X5_keep w M = some M') : kx_Call EM (d + 0) T_X5_keep [.ref 0, .ref w] M none M' := kx_entry kok_X5_keep (Nat.le_of_ble_eq_true rfl) rfl (t_X5_keep (d := d) w hw M h)
set_option maxRecDepth 100000 in
set_option maxHeartbeats 4000000 in
theorem t_X5_visitorOf {d : Nat} {r : Int32} {M' : kx_M} (a0 : Int32) (a1 : Int32) (M : kx_M) (h : f_X5_visitorOf a0 a1 M = some (r, M')) : kx_Rn EM T_X5_visitorOf (d + 2) (0, [some (.ref 0), some (.int a0), some (.int a1)], [], M) (some (.int r)) M' := by
  unfold f_X5_visitorOf at h
  refine kx_go (pc' := 2) (L' := [some (.ref 0), some (.int a0), some (.int a1)]) (st' := [.int a0, .ref 0]) 2 rfl ?_
  refine kx_q_callV (as := [.int a0]) (rest := []) (M1 := M) (rv := some (.int (kx_bi (f_X5_isOne M a0)))) kmo_0 rfl klk_X5_103 kse_X5_isOne rfl rfl rfl rfl (Nat.le_of_ble_eq_true rfl) (Nat.le_of_ble_eq_true rfl) (c_X5_isOne (d := d + 0) a0 M (f_X5_isOne M a0) rfl) ?_
  show kx_Rn _ _ _ (5, [some (.ref 0), some (.int a0), some (.int a1)], [.int (kx_bi (f_X5_isOne M a0))], M) _ _
  refine kx_q_zne rfl (fun hc1 => ?_) (fun hc1 => ?_)
  · rw [if_pos hc1] at h
    refine kx_go (pc' := 16) (L' := [some (.ref 0), some (.int a0), some (.int a1)]) (st' := [.int a1]) 1 rfl ?_
    by_cases hc2 : a1 = (0 : Int32)
    · rw [if_pos hc2] at h
      refine kx_q_tsI (0 : Int32) (tgt := 52) (show decode T_X5_visitorOf.2.1 16 = .ok (.tableswitch 74 0 4 #[36, 43, 50, 57, 64], 36) from by decide +kernel) hc2 (by decide) (by decide) rfl (by decide) ?_
      refine kx_go (pc' := 53) (L' := [some (.ref 0), some (.int a0), some (.int a1)]) (st' := [.ref 0]) 1 rfl ?_
      refine kx_q_getR (k := 5) (j := 4) kmo_0 rfl kfl_X5_19 rfl ?_
      refine kx_go (pc' := 57) (L' := [some (.ref 0), some (.int a0), some (.int a1)]) (st' := [.int a0, .ref 4]) 1 rfl ?_
      obtain ⟨hi3, h⟩ := kx_ck_some h
      refine kx_q_iald (kma_4) rfl hi3 ?_
      cases h
      exact kx_r_iret rfl rfl
    · rw [if_neg hc2] at h
      by_cases hc4 : a1 = (1 : Int32)
      · rw [if_pos hc4] at h
        refine kx_q_tsI (1 : Int32) (tgt := 59) (show decode T_X5_visitorOf.2.1 16 = .ok (.tableswitch 74 0 4 #[36, 43, 50, 57, 64], 36) from by decide +kernel) hc4 (by decide) (by decide) rfl (by decide) ?_
        refine kx_go (pc' := 60) (L' := [some (.ref 0), some (.int a0), some (.int a1)]) (st' := [.ref 0]) 1 rfl ?_
        refine kx_q_getR (k := 6) (j := 5) kmo_0 rfl kfl_X5_22 rfl ?_
        refine kx_go (pc' := 64) (L' := [some (.ref 0), some (.int a0), some (.int a1)]) (st' := [.int a0, .ref 5]) 1 rfl ?_
        obtain ⟨hi5, h⟩ := kx_ck_some h
        refine kx_q_iald (kma_5) rfl hi5 ?_
        cases h
        exact kx_r_iret rfl rfl
      · rw [if_neg hc4] at h
        by_cases hc6 : a1 = (2 : Int32)
        · rw [if_pos hc6] at h
          refine kx_q_tsI (2 : Int32) (tgt := 66) (show decode T_X5_visitorOf.2.1 16 = .ok (.tableswitch 74 0 4 #[36, 43, 50, 57, 64], 36) from by decide +kernel) hc6 (by decide) (by decide) rfl (by decide) ?_
          refine kx_go (pc' := 67) (L' := [some (.ref 0), some (.int a0), some (.int a1)]) (st' := [.ref 0]) 1 rfl ?_
          refine kx_q_getR (k := 7) (j := 6) kmo_0 rfl kfl_X5_25 rfl ?_
          refine kx_go (pc' := 71) (L' := [some (.ref 0), some (.int a0), some (.int a1)]) (st' := [.int a0, .ref 6]) 1 rfl ?_
          obtain ⟨hi7, h⟩ := kx_ck_some h
          refine kx_q_iald (kma_6) rfl hi7 ?_
          cases h
          exact kx_r_iret rfl rfl
        · rw [if_neg hc6] at h
          by_cases hc8 : a1 = (3 : Int32)
          · rw [if_pos hc8] at h
            refine kx_q_tsI (3 : Int32) (tgt := 73) (show decode T_X5_visitorOf.2.1 16 = .ok (.tableswitch 74 0 4 #[36, 43, 50, 57, 64], 36) from by decide +kernel) hc8 (by decide) (by decide) rfl (by decide) ?_
            refine kx_go (pc' := 74) (L' := [some (.ref 0), some (.int a0), some (.int a1)]) (st' := [.ref 0]) 1 rfl ?_
            refine kx_q_getR (k := 8) (j := 7) kmo_0 rfl kfl_X5_28 rfl ?_
            refine kx_go (pc' := 78) (L' := [some (.ref 0), some (.int a0), some (.int a1)]) (st' := [.int a0, .ref 7]) 1 rfl ?_
            obtain ⟨hi9, h⟩ := kx_ck_some h
            refine kx_q_iald (kma_7) rfl hi9 ?_
            cases h
            exact kx_r_iret rfl rfl
          · rw [if_neg hc8] at h
            by_cases hc10 : a1 = (4 : Int32)
            · rw [if_pos hc10] at h
              refine kx_q_tsI (4 : Int32) (tgt := 80) (show decode T_X5_visitorOf.2.1 16 = .ok (.tableswitch 74 0 4 #[36, 43, 50, 57, 64], 36) from by decide +kernel) hc10 (by decide) (by decide) rfl (by decide) ?_
              refine kx_go (pc' := 81) (L' := [some (.ref 0), some (.int a0), some (.int a1)]) (st' := [.ref 0]) 1 rfl ?_
              refine kx_q_getR (k := 8) (j := 7) kmo_0 rfl kfl_X5_28 rfl ?_
              refine kx_go (pc' := 85) (L' := [some (.ref 0), some (.int a0), some (.int a1)]) (st' := [.int a0, .ref 7]) 1 rfl ?_
              obtain ⟨hi11, h⟩ := kx_ck_some h
              refine kx_q_iald (kma_7) rfl hi11 ?_
              refine kx_r_callS (as := [.int (M.1 7 (a0).toNatClampNeg)]) (rest := []) (M1 := M) (rv := some (.int (f_J6_bitCount_0f7a4 (M.1 7 (a0).toNatClampNeg)))) rfl klk_X5_194 kst_J6_bitCount_0f7a4 rfl rfl (Nat.le_of_ble_eq_true rfl) (Nat.le_of_ble_eq_true rfl) (c_J6_bitCount_0f7a4 (d := d + 1) (M.1 7 (a0).toNatClampNeg) M (f_J6_bitCount_0f7a4 (M.1 7 (a0).toNatClampNeg)) rfl) ?_
              show kx_Rn _ _ _ (89, [some (.ref 0), some (.int a0), some (.int a1)], [.int (f_J6_bitCount_0f7a4 (M.1 7 (a0).toNatClampNeg))], M) _ _
              cases h
              exact kx_r_iret rfl rfl
            · rw [if_neg hc10] at h
              have ghc2 : ¬ (a1).toInt = 0 := fun q => hc2 (Int32.toInt_inj.mp (q.trans (by decide)))
              have ghc4 : ¬ (a1).toInt = 1 := fun q => hc4 (Int32.toInt_inj.mp (q.trans (by decide)))
              have ghc6 : ¬ (a1).toInt = 2 := fun q => hc6 (Int32.toInt_inj.mp (q.trans (by decide)))
              have ghc8 : ¬ (a1).toInt = 3 := fun q => hc8 (Int32.toInt_inj.mp (q.trans (by decide)))
              have ghc10 : ¬ (a1).toInt = 4 := fun q => hc10 (Int32.toInt_inj.mp (q.trans (by decide)))
              refine kx_q_tsO (tgt := 90) (show decode T_X5_visitorOf.2.1 16 = .ok (.tableswitch 74 0 4 #[36, 43, 50, 57, 64], 36) from by decide +kernel) (by omega) (by decide) ?_
              refine kx_go (pc' := 93) (L' := [some (.ref 0), some (.int a0), some (.int a1)]) (st' := [.int (-2 : Int32), .ref 0]) 2 rfl ?_
              obtain ⟨v12, M14, hv13, h⟩ := kx_bd_some h
              refine kx_q_callV (as := [.int (-2 : Int32)]) (rest := []) (M1 := M14) (rv := some (.int v12)) kmo_0 rfl klk_X5_89 kse_X5_no rfl rfl rfl rfl (Nat.le_of_ble_eq_true rfl) (Nat.le_of_ble_eq_true rfl) (c_X5_no (d := d + 1) (-2 : Int32) M v12 M14 hv13) ?_
              show kx_Rn _ _ _ (96, [some (.ref 0), some (.int a0), some (.int a1)], [.int v12], M14) _ _
              cases h
              exact kx_r_iret rfl rfl
  · rw [if_neg hc1] at h
    refine kx_go (pc' := 11) (L' := [some (.ref 0), some (.int a0), some (.int a1)]) (st' := [.int (-2 : Int32), .ref 0]) 2 rfl ?_
    obtain ⟨v15, M17, hv16, h⟩ := kx_bd_some h
    refine kx_q_callV (as := [.int (-2 : Int32)]) (rest := []) (M1 := M17) (rv := some (.int v15)) kmo_0 rfl klk_X5_89 kse_X5_no rfl rfl rfl rfl (Nat.le_of_ble_eq_true rfl) (Nat.le_of_ble_eq_true rfl) (c_X5_no (d := d + 1) (-2 : Int32) M v15 M17 hv16) ?_
    show kx_Rn _ _ _ (14, [some (.ref 0), some (.int a0), some (.int a1)], [.int v15], M17) _ _
    cases h
    exact kx_r_iret rfl rfl
theorem c_X5_visitorOf {d : Nat} (a0 : Int32) (a1 : Int32) (M : kx_M) (r : Int32) (M' : kx_M) (h : f_X5_visitorOf a0 a1 M = some (r, M')) : kx_Call EM (d + 2) T_X5_visitorOf [.ref 0, .int a0, .int a1] M (some (.int r)) M' := kx_entry kok_X5_visitorOf (Nat.le_of_ble_eq_true rfl) rfl (t_X5_visitorOf (d := d) a0 a1 M h)
set_option maxRecDepth 100000 in
set_option maxHeartbeats 4000000 in
theorem t_X5_seenBy_4 {d : Nat} {r : Int32} (M : kx_M) : ∀ (n : Nat) (x1 : Int32) (x2 : Int32) (x3 : Int32), f_X5_seenBy_4 M n x1 x2 x3 = some r → kx_Rn EM T_X5_seenBy (d + 1) (4, [some (.ref 0), some (.int x1), some (.int x2), some (.int x3)], [], M) (some (.int r)) M := by
  intro n
  induction n with
  | zero =>
    intro x1 x2 x3 h
    cases (show (none : Option Int32) = some _ from h)
  | succ n ih =>
    intro x1 x2 x3 h
    rw [f_X5_seenBy_4.eq_2] at h
    refine kx_go (pc' := 6) (L' := [some (.ref 0), some (.int x1), some (.int x2), some (.int x3)]) (st' := [.ref 0, .int x3]) 2 rfl ?_
    refine kx_q_getI (k := 4) kmo_0 rfl kfl_X5_82 rfl ?_
    refine kx_r_icmp_ge rfl (fun hc1 => ?_) (fun hc1 => ?_)
    · rw [if_pos hc1] at h
      refine kx_go (pc' := 38) (L' := [some (.ref 0), some (.int x1), some (.int x2), some (.int x3)]) (st' := [.int x2]) 1 rfl ?_
      cases h
      exact kx_r_iret rfl rfl
    · rw [if_neg hc1] at h
      refine kx_go (pc' := 13) (L' := [some (.ref 0), some (.int x1), some (.int x2), some (.int x3)]) (st' := [.ref 0]) 1 rfl ?_
      refine kx_q_getR (k := 8) (j := 7) kmo_0 rfl kfl_X5_28 rfl ?_
      refine kx_go (pc' := 17) (L' := [some (.ref 0), some (.int x1), some (.int x2), some (.int x3)]) (st' := [.int x3, .ref 7]) 1 rfl ?_
      obtain ⟨hi2, h⟩ := kx_ck_some h
      refine kx_q_iald (kma_7) rfl hi2 ?_
      refine kx_go (pc' := 19) (L' := [some (.ref 0), some (.int x1), some (.int x2), some (.int x3)]) (st' := [.int x1, .int (M.1 7 (x3).toNatClampNeg)]) 1 rfl ?_
      refine kx_r_callS (as := [.int (M.1 7 (x3).toNatClampNeg), .int x1]) (rest := []) (M1 := M) (rv := some (.int (kx_bi (f_X5_has (M.1 7 (x3).toNatClampNeg) x1)))) rfl klk_X5_199 kst_X5_has rfl rfl (Nat.le_of_ble_eq_true rfl) (Nat.le_of_ble_eq_true rfl) (c_X5_has (d := d + 0) (M.1 7 (x3).toNatClampNeg) x1 M (f_X5_has (M.1 7 (x3).toNatClampNeg) x1) rfl) ?_
      show kx_Rn _ _ _ (22, [some (.ref 0), some (.int x1), some (.int x2), some (.int x3)], [.int (kx_bi (f_X5_has (M.1 7 (x3).toNatClampNeg) x1))], M) _ _
      refine kx_q_zeq rfl (fun hc3 => ?_) (fun hc3 => ?_)
      · rw [if_neg hc3] at h
        refine kx_go (pc' := 34) (L' := [some (.ref 0), some (.int x1), some (.int x2), some (.int (x3 + (1)))]) (st' := []) 1 rfl ?_
        refine kx_r_goto rfl ?_
        refine kx_wk [true, true, true, true] ?_
        exact ih x1 x2 (x3 + (1)) h
      · rw [if_pos hc3] at h
        refine kx_go (pc' := 34) (L' := [some (.ref 0), some (.int x1), some (.int (x2 ||| ((1 : Int32) <<< (x3 &&& 31)))), some (.int (x3 + (1)))]) (st' := []) 7 rfl ?_
        refine kx_r_goto rfl ?_
        refine kx_wk [true, true, true, true] ?_
        exact ih x1 (x2 ||| ((1 : Int32) <<< (x3 &&& 31))) (x3 + (1)) h
set_option maxRecDepth 100000 in
set_option maxHeartbeats 4000000 in
theorem t_X5_seenBy {d : Nat} {r : Int32} (M : kx_M) (a0 : Int32) (h : f_X5_seenBy M a0 = some r) : kx_Rn EM T_X5_seenBy (d + 1) (0, [some (.ref 0), some (.int a0), none, none], [], M) (some (.int r)) M := by
  unfold f_X5_seenBy at h
  refine kx_go (pc' := 4) (L' := [some (.ref 0), some (.int a0), some (.int (0 : Int32)), some (.int (0 : Int32))]) (st' := []) 4 rfl ?_
  refine kx_wk [true, true, true, true] ?_
  exact t_X5_seenBy_4 M kx_fuel a0 (0 : Int32) (0 : Int32) h
theorem c_X5_seenBy {d : Nat} (a0 : Int32) (M : kx_M) (r : Int32) (h : f_X5_seenBy M a0 = some r) : kx_Call EM (d + 1) T_X5_seenBy [.ref 0, .int a0] M (some (.int r)) M := kx_entry kok_X5_seenBy (Nat.le_of_ble_eq_true rfl) rfl (t_X5_seenBy (d := d) M a0 h)
set_option maxRecDepth 100000 in
set_option maxHeartbeats 4000000 in
theorem t_X5_cellOf {d : Nat} {r : Int32} {M' : kx_M} (a0 : Int32) (a1 : Int32) (M : kx_M) (h : f_X5_cellOf a0 a1 M = some (r, M')) : kx_Rn EM T_X5_cellOf (d + 2) (0, [some (.ref 0), some (.int a0), some (.int a1)], [], M) (some (.int r)) M' := by
  unfold f_X5_cellOf at h
  refine kx_go (pc' := 2) (L' := [some (.ref 0), some (.int a0), some (.int a1)]) (st' := [.int a0, .ref 0]) 2 rfl ?_
  refine kx_q_callV (as := [.int a0]) (rest := []) (M1 := M) (rv := some (.int (kx_bi (f_X5_isCell M a0)))) kmo_0 rfl klk_X5_120 kse_X5_isCell rfl rfl rfl rfl (Nat.le_of_ble_eq_true rfl) (Nat.le_of_ble_eq_true rfl) (c_X5_isCell (d := d + 0) a0 M (f_X5_isCell M a0) rfl) ?_
  show kx_Rn _ _ _ (5, [some (.ref 0), some (.int a0), some (.int a1)], [.int (kx_bi (f_X5_isCell M a0))], M) _ _
  refine kx_q_zeq rfl (fun hc1 => ?_) (fun hc1 => ?_)
  · rw [if_neg hc1] at h
    refine kx_go (pc' := 20) (L' := [some (.ref 0), some (.int a0), some (.int a1)]) (st' := [.int (-2 : Int32), .ref 0]) 2 rfl ?_
    obtain ⟨v2, M4, hv3, h⟩ := kx_bd_some h
    refine kx_q_callV (as := [.int (-2 : Int32)]) (rest := []) (M1 := M4) (rv := some (.int v2)) kmo_0 rfl klk_X5_89 kse_X5_no rfl rfl rfl rfl (Nat.le_of_ble_eq_true rfl) (Nat.le_of_ble_eq_true rfl) (c_X5_no (d := d + 1) (-2 : Int32) M v2 M4 hv3) ?_
    show kx_Rn _ _ _ (23, [some (.ref 0), some (.int a0), some (.int a1)], [.int v2], M4) _ _
    cases h
    exact kx_r_iret rfl rfl
  · rw [if_pos hc1] at h
    refine kx_go (pc' := 11) (L' := [some (.ref 0), some (.int a0), some (.int a1)]) (st' := [.int (2 : Int32), .int (0 : Int32), .int a1]) 3 rfl ?_
    refine kx_r_callS (as := [.int a1, .int (0 : Int32), .int (2 : Int32)]) (rest := []) (M1 := M) (rv := some (.int (kx_bi (f_X5_within a1 (0 : Int32) (2 : Int32))))) rfl klk_X5_78 kst_X5_within rfl rfl (Nat.le_of_ble_eq_true rfl) (Nat.le_of_ble_eq_true rfl) (c_X5_within (d := d + 1) a1 (0 : Int32) (2 : Int32) M (f_X5_within a1 (0 : Int32) (2 : Int32)) rfl) ?_
    show kx_Rn _ _ _ (14, [some (.ref 0), some (.int a0), some (.int a1)], [.int (kx_bi (f_X5_within a1 (0 : Int32) (2 : Int32)))], M) _ _
    refine kx_q_zne rfl (fun hc5 => ?_) (fun hc5 => ?_)
    · rw [if_pos hc5] at h
      refine kx_go (pc' := 25) (L' := [some (.ref 0), some (.int a0), some (.int a1)]) (st' := [.int a1]) 1 rfl ?_
      refine kx_r_if_ne rfl (fun hc6 => ?_) (fun hc6 => ?_)
      · rw [if_neg hc6] at h
        refine kx_go (pc' := 39) (L' := [some (.ref 0), some (.int a0), some (.int a1)]) (st' := [.int (1 : Int32), .int a1]) 2 rfl ?_
        refine kx_r_icmp_ne rfl (fun hc7 => ?_) (fun hc7 => ?_)
        · rw [if_neg hc7] at h
          refine kx_go (pc' := 53) (L' := [some (.ref 0), some (.int a0), some (.int a1)]) (st' := [.int a0, .ref 0]) 2 rfl ?_
          obtain ⟨v8, hv9, h⟩ := kx_bn_some h
          refine kx_q_callV (as := [.int a0]) (rest := []) (M1 := M) (rv := some (.int v8)) kmo_0 rfl klk_X5_202 kse_X5_seenBy rfl rfl rfl rfl (Nat.le_of_ble_eq_true rfl) (Nat.le_of_ble_eq_true rfl) (c_X5_seenBy (d := d + 0) a0 M v8 hv9) ?_
          show kx_Rn _ _ _ (56, [some (.ref 0), some (.int a0), some (.int a1)], [.int v8], M) _ _
          cases h
          exact kx_r_iret rfl rfl
        · rw [if_pos hc7] at h
          refine kx_go (pc' := 43) (L' := [some (.ref 0), some (.int a0), some (.int a1)]) (st' := [.ref 0]) 1 rfl ?_
          refine kx_q_getR (k := 2) (j := 2) kmo_0 rfl kfl_X5_13 rfl ?_
          refine kx_go (pc' := 47) (L' := [some (.ref 0), some (.int a0), some (.int a1)]) (st' := [.int a0, .ref 2]) 1 rfl ?_
          obtain ⟨hi10, h⟩ := kx_ck_some h
          refine kx_q_iald (kma_2) rfl hi10 ?_
          refine kx_r_goto rfl ?_
          cases h
          exact kx_r_iret rfl rfl
      · rw [if_pos hc6] at h
        refine kx_go (pc' := 29) (L' := [some (.ref 0), some (.int a0), some (.int a1)]) (st' := [.ref 0]) 1 rfl ?_
        refine kx_q_getR (k := 1) (j := 1) kmo_0 rfl kfl_X5_7 rfl ?_
        refine kx_go (pc' := 33) (L' := [some (.ref 0), some (.int a0), some (.int a1)]) (st' := [.int a0, .ref 1]) 1 rfl ?_
        obtain ⟨hi11, h⟩ := kx_ck_some h
        refine kx_q_iald (kma_1) rfl hi11 ?_
        refine kx_r_goto rfl ?_
        cases h
        exact kx_r_iret rfl rfl
    · rw [if_neg hc5] at h
      refine kx_go (pc' := 20) (L' := [some (.ref 0), some (.int a0), some (.int a1)]) (st' := [.int (-2 : Int32), .ref 0]) 2 rfl ?_
      obtain ⟨v12, M14, hv13, h⟩ := kx_bd_some h
      refine kx_q_callV (as := [.int (-2 : Int32)]) (rest := []) (M1 := M14) (rv := some (.int v12)) kmo_0 rfl klk_X5_89 kse_X5_no rfl rfl rfl rfl (Nat.le_of_ble_eq_true rfl) (Nat.le_of_ble_eq_true rfl) (c_X5_no (d := d + 1) (-2 : Int32) M v12 M14 hv13) ?_
      show kx_Rn _ _ _ (23, [some (.ref 0), some (.int a0), some (.int a1)], [.int v12], M14) _ _
      cases h
      exact kx_r_iret rfl rfl
theorem c_X5_cellOf {d : Nat} (a0 : Int32) (a1 : Int32) (M : kx_M) (r : Int32) (M' : kx_M) (h : f_X5_cellOf a0 a1 M = some (r, M')) : kx_Call EM (d + 2) T_X5_cellOf [.ref 0, .int a0, .int a1] M (some (.int r)) M' := kx_entry kok_X5_cellOf (Nat.le_of_ble_eq_true rfl) rfl (t_X5_cellOf (d := d) a0 a1 M h)
set_option maxRecDepth 100000 in
set_option maxHeartbeats 4000000 in
theorem t_X5_shownTo_13 {d : Nat} {r : Int32} (M : kx_M) : ∀ (n : Nat) (x3 : Int32) (x4 : Int32) (x5 : Int32), f_X5_shownTo_13 M n x3 x4 x5 = some r → kx_Rn EM T_X5_shownTo (d + 3) (13, [some (.ref 0), none, none, some (.int x3), some (.int x4), some (.int x5)], [], M) (some (.int r)) M := by
  intro n
  induction n with
  | zero =>
    intro x3 x4 x5 h
    cases (show (none : Option Int32) = some _ from h)
  | succ n ih =>
    intro x3 x4 x5 h
    rw [f_X5_shownTo_13.eq_2] at h
    refine kx_go (pc' := 16) (L' := [some (.ref 0), none, none, some (.int x3), some (.int x4), some (.int x5)]) (st' := [.ref 0, .int x5]) 2 rfl ?_
    refine kx_q_getI (k := 0) kmo_0 rfl kfl_X5_65 rfl ?_
    refine kx_r_icmp_ge rfl (fun hc1 => ?_) (fun hc1 => ?_)
    · rw [if_pos hc1] at h
      refine kx_go (pc' := 50) (L' := [some (.ref 0), none, none, some (.int x3), some (.int x4), some (.int x5)]) (st' := [.int x4]) 1 rfl ?_
      cases h
      exact kx_r_iret rfl rfl
    · rw [if_neg hc1] at h
      refine kx_go (pc' := 23) (L' := [some (.ref 0), none, none, some (.int x3), some (.int x4), some (.int x5)]) (st' := [.ref 0]) 1 rfl ?_
      refine kx_q_getR (k := 1) (j := 1) kmo_0 rfl kfl_X5_7 rfl ?_
      refine kx_go (pc' := 28) (L' := [some (.ref 0), none, none, some (.int x3), some (.int x4), some (.int x5)]) (st' := [.int x5, .ref 1]) 1 rfl ?_
      obtain ⟨hi2, h⟩ := kx_ck_some h
      refine kx_q_iald (kma_1) rfl hi2 ?_
      refine kx_go (pc' := 30) (L' := [some (.ref 0), none, none, some (.int x3), some (.int x4), some (.int x5)]) (st' := [.int x3, .int (M.1 1 (x5).toNatClampNeg)]) 1 rfl ?_
      refine kx_r_icmp_gt rfl (fun hc3 => ?_) (fun hc3 => ?_)
      · rw [if_pos hc3] at h
        refine kx_go (pc' := 45) (L' := [some (.ref 0), none, none, some (.int x3), some (.int x4), some (.int (x5 + (1)))]) (st' := []) 1 rfl ?_
        refine kx_r_goto rfl ?_
        refine kx_wk [true, false, false, true, true, true] ?_
        exact ih x3 x4 (x5 + (1)) h
      · rw [if_neg hc3] at h
        refine kx_go (pc' := 45) (L' := [some (.ref 0), none, none, some (.int x3), some (.int (x4 ||| ((1 : Int32) <<< (x5 &&& 31)))), some (.int (x5 + (1)))]) (st' := []) 7 rfl ?_
        refine kx_r_goto rfl ?_
        refine kx_wk [true, false, false, true, true, true] ?_
        exact ih x3 (x4 ||| ((1 : Int32) <<< (x5 &&& 31))) (x5 + (1)) h
set_option maxRecDepth 100000 in
set_option maxHeartbeats 4000000 in
theorem t_X5_shownTo {d : Nat} {r : Int32} (M : kx_M) (a0 : Int32) (a1 : Int32) (h : f_X5_shownTo M a0 a1 = some r) : kx_Rn EM T_X5_shownTo (d + 3) (0, [some (.ref 0), some (.int a0), some (.int a1), none, none, none], [], M) (some (.int r)) M := by
  unfold f_X5_shownTo at h
  refine kx_go (pc' := 3) (L' := [some (.ref 0), some (.int a0), some (.int a1), none, none, none]) (st' := [.int a1, .int a0, .ref 0]) 3 rfl ?_
  obtain ⟨v1, hv2, h⟩ := kx_bn_some h
  refine kx_q_callV (as := [.int a0, .int a1]) (rest := []) (M1 := M) (rv := some (.int v1)) kmo_0 rfl klk_X5_110 kse_X5_openTo rfl rfl rfl rfl (Nat.le_of_ble_eq_true rfl) (Nat.le_of_ble_eq_true rfl) (c_X5_openTo (d := d + 0) a0 a1 M v1 hv2) ?_
  show kx_Rn _ _ _ (6, [some (.ref 0), some (.int a0), some (.int a1), none, none, none], [.int v1], M) _ _
  refine kx_go (pc' := 13) (L' := [some (.ref 0), some (.int a0), some (.int a1), some (.int v1), some (.int (0 : Int32)), some (.int (0 : Int32))]) (st' := []) 5 rfl ?_
  refine kx_wk [true, false, false, true, true, true] ?_
  exact t_X5_shownTo_13 M kx_fuel v1 (0 : Int32) (0 : Int32) h
theorem c_X5_shownTo {d : Nat} (a0 : Int32) (a1 : Int32) (M : kx_M) (r : Int32) (h : f_X5_shownTo M a0 a1 = some r) : kx_Call EM (d + 3) T_X5_shownTo [.ref 0, .int a0, .int a1] M (some (.int r)) M := kx_entry kok_X5_shownTo (Nat.le_of_ble_eq_true rfl) rfl (t_X5_shownTo (d := d) M a0 a1 h)
set_option maxRecDepth 100000 in
set_option maxHeartbeats 4000000 in
theorem t_X5_shownAlone {d : Nat} {r : Int32} (M : kx_M) (a0 : Int32) (h : f_X5_shownAlone M a0 = some r) : kx_Rn EM T_X5_shownAlone (d + 4) (0, [some (.ref 0), some (.int a0)], [], M) (some (.int r)) M := by
  unfold f_X5_shownAlone at h
  refine kx_go (pc' := 5) (L' := [some (.ref 0), some (.int a0)]) (st' := [.int ((1 : Int32) <<< (a0 &&& 31)), .int a0, .ref 0]) 5 rfl ?_
  obtain ⟨v1, hv2, h⟩ := kx_bn_some h
  refine kx_q_callV (as := [.int a0, .int ((1 : Int32) <<< (a0 &&& 31))]) (rest := []) (M1 := M) (rv := some (.int v1)) kmo_0 rfl klk_X5_215 kse_X5_shownTo rfl rfl rfl rfl (Nat.le_of_ble_eq_true rfl) (Nat.le_of_ble_eq_true rfl) (c_X5_shownTo (d := d + 0) a0 ((1 : Int32) <<< (a0 &&& 31)) M v1 hv2) ?_
  show kx_Rn _ _ _ (8, [some (.ref 0), some (.int a0)], [.int v1], M) _ _
  cases h
  exact kx_r_iret rfl rfl
theorem c_X5_shownAlone {d : Nat} (a0 : Int32) (M : kx_M) (r : Int32) (h : f_X5_shownAlone M a0 = some r) : kx_Call EM (d + 4) T_X5_shownAlone [.ref 0, .int a0] M (some (.int r)) M := kx_entry kok_X5_shownAlone (Nat.le_of_ble_eq_true rfl) rfl (t_X5_shownAlone (d := d) M a0 h)
set_option maxRecDepth 100000 in
set_option maxHeartbeats 4000000 in
theorem t_X5_shownToAll_4 {d : Nat} {r : Int32} (M : kx_M) : ∀ (n : Nat) (x1 : Int32) (x2 : Int32) (x3 : Int32), f_X5_shownToAll_4 M n x1 x2 x3 = some r → kx_Rn EM T_X5_shownToAll (d + 4) (4, [some (.ref 0), some (.int x1), some (.int x2), some (.int x3)], [], M) (some (.int r)) M := by
  intro n
  induction n with
  | zero =>
    intro x1 x2 x3 h
    cases (show (none : Option Int32) = some _ from h)
  | succ n ih =>
    intro x1 x2 x3 h
    rw [f_X5_shownToAll_4.eq_2] at h
    refine kx_go (pc' := 6) (L' := [some (.ref 0), some (.int x1), some (.int x2), some (.int x3)]) (st' := [.ref 0, .int x3]) 2 rfl ?_
    refine kx_q_getI (k := 4) kmo_0 rfl kfl_X5_82 rfl ?_
    refine kx_r_icmp_ge rfl (fun hc1 => ?_) (fun hc1 => ?_)
    · rw [if_pos hc1] at h
      refine kx_go (pc' := 36) (L' := [some (.ref 0), some (.int x1), some (.int x2), some (.int x3)]) (st' := [.int x2]) 1 rfl ?_
      cases h
      exact kx_r_iret rfl rfl
    · rw [if_neg hc1] at h
      refine kx_go (pc' := 14) (L' := [some (.ref 0), some (.int x1), some (.int x2), some (.int x3)]) (st' := [.int x3, .int x1]) 2 rfl ?_
      refine kx_r_callS (as := [.int x1, .int x3]) (rest := []) (M1 := M) (rv := some (.int (kx_bi (f_X5_has x1 x3)))) rfl klk_X5_199 kst_X5_has rfl rfl (Nat.le_of_ble_eq_true rfl) (Nat.le_of_ble_eq_true rfl) (c_X5_has (d := d + 3) x1 x3 M (f_X5_has x1 x3) rfl) ?_
      show kx_Rn _ _ _ (17, [some (.ref 0), some (.int x1), some (.int x2), some (.int x3)], [.int (kx_bi (f_X5_has x1 x3))], M) _ _
      refine kx_q_zeq rfl (fun hc2 => ?_) (fun hc2 => ?_)
      · rw [if_neg hc2] at h
        refine kx_go (pc' := 32) (L' := [some (.ref 0), some (.int x1), some (.int x2), some (.int (x3 + (1)))]) (st' := []) 1 rfl ?_
        refine kx_r_goto rfl ?_
        refine kx_wk [true, true, true, true] ?_
        exact ih x1 x2 (x3 + (1)) h
      · rw [if_pos hc2] at h
        refine kx_go (pc' := 24) (L' := [some (.ref 0), some (.int x1), some (.int x2), some (.int x3)]) (st' := [.int x1, .int x3, .ref 0, .int x2]) 4 rfl ?_
        obtain ⟨v3, hv4, h⟩ := kx_bn_some h
        refine kx_q_callV (as := [.int x3, .int x1]) (rest := [.int x2]) (M1 := M) (rv := some (.int v3)) kmo_0 rfl klk_X5_215 kse_X5_shownTo rfl rfl rfl rfl (Nat.le_of_ble_eq_true rfl) (Nat.le_of_ble_eq_true rfl) (c_X5_shownTo (d := d + 0) x3 x1 M v3 hv4) ?_
        show kx_Rn _ _ _ (27, [some (.ref 0), some (.int x1), some (.int x2), some (.int x3)], [.int v3, .int x2], M) _ _
        refine kx_go (pc' := 32) (L' := [some (.ref 0), some (.int x1), some (.int (x2 ||| v3)), some (.int (x3 + (1)))]) (st' := []) 3 rfl ?_
        refine kx_r_goto rfl ?_
        refine kx_wk [true, true, true, true] ?_
        exact ih x1 (x2 ||| v3) (x3 + (1)) h
set_option maxRecDepth 100000 in
set_option maxHeartbeats 4000000 in
theorem t_X5_shownToAll {d : Nat} {r : Int32} (M : kx_M) (a0 : Int32) (h : f_X5_shownToAll M a0 = some r) : kx_Rn EM T_X5_shownToAll (d + 4) (0, [some (.ref 0), some (.int a0), none, none], [], M) (some (.int r)) M := by
  unfold f_X5_shownToAll at h
  refine kx_go (pc' := 4) (L' := [some (.ref 0), some (.int a0), some (.int (0 : Int32)), some (.int (0 : Int32))]) (st' := []) 4 rfl ?_
  refine kx_wk [true, true, true, true] ?_
  exact t_X5_shownToAll_4 M kx_fuel a0 (0 : Int32) (0 : Int32) h
theorem c_X5_shownToAll {d : Nat} (a0 : Int32) (M : kx_M) (r : Int32) (h : f_X5_shownToAll M a0 = some r) : kx_Call EM (d + 4) T_X5_shownToAll [.ref 0, .int a0] M (some (.int r)) M := kx_entry kok_X5_shownToAll (Nat.le_of_ble_eq_true rfl) rfl (t_X5_shownToAll (d := d) M a0 h)
set_option maxRecDepth 100000 in
set_option maxHeartbeats 4000000 in
theorem t_X5_knownBy_4 {d : Nat} {r : Int32} (M : kx_M) : ∀ (n : Nat) (x1 : Int32) (x2 : Int32) (x3 : Int32), f_X5_knownBy_4 M n x1 x2 x3 = some r → kx_Rn EM T_X5_knownBy (d + 1) (4, [some (.ref 0), some (.int x1), some (.int x2), some (.int x3)], [], M) (some (.int r)) M := by
  intro n
  induction n with
  | zero =>
    intro x1 x2 x3 h
    cases (show (none : Option Int32) = some _ from h)
  | succ n ih =>
    intro x1 x2 x3 h
    rw [f_X5_knownBy_4.eq_2] at h
    refine kx_go (pc' := 6) (L' := [some (.ref 0), some (.int x1), some (.int x2), some (.int x3)]) (st' := [.ref 0, .int x3]) 2 rfl ?_
    refine kx_q_getI (k := 4) kmo_0 rfl kfl_X5_82 rfl ?_
    refine kx_r_icmp_ge rfl (fun hc1 => ?_) (fun hc1 => ?_)
    · rw [if_pos hc1] at h
      refine kx_go (pc' := 36) (L' := [some (.ref 0), some (.int x1), some (.int x2), some (.int x3)]) (st' := [.int x2]) 1 rfl ?_
      cases h
      exact kx_r_iret rfl rfl
    · rw [if_neg hc1] at h
      refine kx_go (pc' := 14) (L' := [some (.ref 0), some (.int x1), some (.int x2), some (.int x3)]) (st' := [.int x3, .int x1]) 2 rfl ?_
      refine kx_r_callS (as := [.int x1, .int x3]) (rest := []) (M1 := M) (rv := some (.int (kx_bi (f_X5_has x1 x3)))) rfl klk_X5_199 kst_X5_has rfl rfl (Nat.le_of_ble_eq_true rfl) (Nat.le_of_ble_eq_true rfl) (c_X5_has (d := d + 0) x1 x3 M (f_X5_has x1 x3) rfl) ?_
      show kx_Rn _ _ _ (17, [some (.ref 0), some (.int x1), some (.int x2), some (.int x3)], [.int (kx_bi (f_X5_has x1 x3))], M) _ _
      refine kx_q_zeq rfl (fun hc2 => ?_) (fun hc2 => ?_)
      · rw [if_neg hc2] at h
        refine kx_go (pc' := 32) (L' := [some (.ref 0), some (.int x1), some (.int x2), some (.int (x3 + (1)))]) (st' := []) 1 rfl ?_
        refine kx_r_goto rfl ?_
        refine kx_wk [true, true, true, true] ?_
        exact ih x1 x2 (x3 + (1)) h
      · rw [if_pos hc2] at h
        refine kx_go (pc' := 22) (L' := [some (.ref 0), some (.int x1), some (.int x2), some (.int x3)]) (st' := [.ref 0, .int x2]) 2 rfl ?_
        refine kx_q_getR (k := 8) (j := 7) kmo_0 rfl kfl_X5_28 rfl ?_
        refine kx_go (pc' := 26) (L' := [some (.ref 0), some (.int x1), some (.int x2), some (.int x3)]) (st' := [.int x3, .ref 7, .int x2]) 1 rfl ?_
        obtain ⟨hi3, h⟩ := kx_ck_some h
        refine kx_q_iald (kma_7) rfl hi3 ?_
        refine kx_go (pc' := 32) (L' := [some (.ref 0), some (.int x1), some (.int (x2 ||| (M.1 7 (x3).toNatClampNeg))), some (.int (x3 + (1)))]) (st' := []) 3 rfl ?_
        refine kx_r_goto rfl ?_
        refine kx_wk [true, true, true, true] ?_
        exact ih x1 (x2 ||| (M.1 7 (x3).toNatClampNeg)) (x3 + (1)) h
set_option maxRecDepth 100000 in
set_option maxHeartbeats 4000000 in
theorem t_X5_knownBy {d : Nat} {r : Int32} (M : kx_M) (a0 : Int32) (h : f_X5_knownBy M a0 = some r) : kx_Rn EM T_X5_knownBy (d + 1) (0, [some (.ref 0), some (.int a0), none, none], [], M) (some (.int r)) M := by
  unfold f_X5_knownBy at h
  refine kx_go (pc' := 4) (L' := [some (.ref 0), some (.int a0), some (.int (0 : Int32)), some (.int (0 : Int32))]) (st' := []) 4 rfl ?_
  refine kx_wk [true, true, true, true] ?_
  exact t_X5_knownBy_4 M kx_fuel a0 (0 : Int32) (0 : Int32) h
theorem c_X5_knownBy {d : Nat} (a0 : Int32) (M : kx_M) (r : Int32) (h : f_X5_knownBy M a0 = some r) : kx_Call EM (d + 1) T_X5_knownBy [.ref 0, .int a0] M (some (.int r)) M := kx_entry kok_X5_knownBy (Nat.le_of_ble_eq_true rfl) rfl (t_X5_knownBy (d := d) M a0 h)
set_option maxRecDepth 100000 in
set_option maxHeartbeats 4000000 in
theorem t_X5_all {d : Nat} {r : Int32} (M : kx_M) (h : f_X5_all M = r) : kx_Rn EM T_X5_all (d + 0) (0, [some (.ref 0)], [], M) (some (.int r)) M := by
  unfold f_X5_all at h
  refine kx_go (pc' := 2) (L' := [some (.ref 0)]) (st' := [.ref 0, .int (1 : Int32)]) 2 rfl ?_
  refine kx_q_getI (k := 4) kmo_0 rfl kfl_X5_82 rfl ?_
  refine kx_go (pc' := 8) (L' := [some (.ref 0)]) (st' := [.int (((1 : Int32) <<< ((M.1 0 4) &&& 31)) - (1 : Int32))]) 3 rfl ?_
  subst h
  exact kx_r_iret rfl rfl
theorem c_X5_all {d : Nat} (M : kx_M) (r : Int32) (h : f_X5_all M = r) : kx_Call EM (d + 0) T_X5_all [.ref 0] M (some (.int r)) M := kx_entry kok_X5_all (Nat.le_of_ble_eq_true rfl) rfl (t_X5_all (d := d) M h)
set_option maxRecDepth 100000 in
set_option maxHeartbeats 4000000 in
theorem t_X5_newOf {d : Nat} {r : Int32} (M : kx_M) (a0 : Int32) (h : f_X5_newOf M a0 = some r) : kx_Rn EM T_X5_newOf (d + 5) (0, [some (.ref 0), some (.int a0)], [], M) (some (.int r)) M := by
  unfold f_X5_newOf at h
  refine kx_go (pc' := 2) (L' := [some (.ref 0), some (.int a0)]) (st' := [.int a0, .ref 0]) 2 rfl ?_
  obtain ⟨v1, hv2, h⟩ := kx_bn_some h
  refine kx_q_callV (as := [.int a0]) (rest := []) (M1 := M) (rv := some (.int v1)) kmo_0 rfl klk_X5_218 kse_X5_shownToAll rfl rfl rfl rfl (Nat.le_of_ble_eq_true rfl) (Nat.le_of_ble_eq_true rfl) (c_X5_shownToAll (d := d + 0) a0 M v1 hv2) ?_
  show kx_Rn _ _ _ (5, [some (.ref 0), some (.int a0)], [.int v1], M) _ _
  refine kx_go (pc' := 7) (L' := [some (.ref 0), some (.int a0)]) (st' := [.ref 0, .ref 0, .int v1]) 2 rfl ?_
  refine kx_q_callV (as := []) (rest := [.ref 0, .int v1]) (M1 := M) (rv := some (.int (f_X5_all M))) kmo_0 rfl klk_X5_221 kse_X5_all rfl rfl rfl rfl (Nat.le_of_ble_eq_true rfl) (Nat.le_of_ble_eq_true rfl) (c_X5_all (d := d + 4) M (f_X5_all M) rfl) ?_
  show kx_Rn _ _ _ (10, [some (.ref 0), some (.int a0)], [.int (f_X5_all M), .ref 0, .int v1], M) _ _
  obtain ⟨v3, hv4, h⟩ := kx_bn_some h
  refine kx_q_callV (as := [.int (f_X5_all M)]) (rest := [.int v1]) (M1 := M) (rv := some (.int v3)) kmo_0 rfl klk_X5_224 kse_X5_knownBy rfl rfl rfl rfl (Nat.le_of_ble_eq_true rfl) (Nat.le_of_ble_eq_true rfl) (c_X5_knownBy (d := d + 3) (f_X5_all M) M v3 hv4) ?_
  show kx_Rn _ _ _ (13, [some (.ref 0), some (.int a0)], [.int v3, .int v1], M) _ _
  refine kx_go (pc' := 16) (L' := [some (.ref 0), some (.int a0)]) (st' := [.int (v1 &&& (v3 ^^^ (-1 : Int32)))]) 3 rfl ?_
  cases h
  exact kx_r_iret rfl rfl
theorem c_X5_newOf {d : Nat} (a0 : Int32) (M : kx_M) (r : Int32) (h : f_X5_newOf M a0 = some r) : kx_Call EM (d + 5) T_X5_newOf [.ref 0, .int a0] M (some (.int r)) M := kx_entry kok_X5_newOf (Nat.le_of_ble_eq_true rfl) rfl (t_X5_newOf (d := d) M a0 h)
set_option maxRecDepth 100000 in
set_option maxHeartbeats 4000000 in
theorem t_X5_veilBehind_9 {d : Nat} {r : Int32} (M : kx_M) : ∀ (n : Nat) (x1 : Int32) (x2 : Int32) (x3 : Int32), f_X5_veilBehind_9 M n x1 x2 x3 = some r → kx_Rn EM T_X5_veilBehind (d + 2) (9, [some (.ref 0), some (.int x1), some (.int x2), some (.int x3)], [], M) (some (.int r)) M := by
  intro n
  induction n with
  | zero =>
    intro x1 x2 x3 h
    cases (show (none : Option Int32) = some _ from h)
  | succ n ih =>
    intro x1 x2 x3 h
    rw [f_X5_veilBehind_9.eq_2] at h
    refine kx_go (pc' := 11) (L' := [some (.ref 0), some (.int x1), some (.int x2), some (.int x3)]) (st' := [.ref 0, .int x3]) 2 rfl ?_
    refine kx_q_getI (k := 4) kmo_0 rfl kfl_X5_82 rfl ?_
    refine kx_r_icmp_ge rfl (fun hc1 => ?_) (fun hc1 => ?_)
    · rw [if_pos hc1] at h
      refine kx_go (pc' := 62) (L' := [some (.ref 0), some (.int x1), some (.int x2), some (.int x3)]) (st' := [.int x2]) 1 rfl ?_
      refine kx_r_callS (as := [.int x2]) (rest := []) (M1 := M) (rv := some (.int (f_X5_held x2))) rfl klk_X5_212 kst_X5_held rfl rfl (Nat.le_of_ble_eq_true rfl) (Nat.le_of_ble_eq_true rfl) (c_X5_held (d := d + 0) x2 M (f_X5_held x2) rfl) ?_
      show kx_Rn _ _ _ (65, [some (.ref 0), some (.int x1), some (.int x2), some (.int x3)], [.int (f_X5_held x2)], M) _ _
      cases h
      exact kx_r_iret rfl rfl
    · rw [if_neg hc1] at h
      refine kx_go (pc' := 19) (L' := [some (.ref 0), some (.int x1), some (.int x2), some (.int x3)]) (st' := [.int x3, .int x1]) 2 rfl ?_
      refine kx_r_callS (as := [.int x1, .int x3]) (rest := []) (M1 := M) (rv := some (.int (kx_bi (f_X5_has x1 x3)))) rfl klk_X5_199 kst_X5_has rfl rfl (Nat.le_of_ble_eq_true rfl) (Nat.le_of_ble_eq_true rfl) (c_X5_has (d := d + 1) x1 x3 M (f_X5_has x1 x3) rfl) ?_
      show kx_Rn _ _ _ (22, [some (.ref 0), some (.int x1), some (.int x2), some (.int x3)], [.int (kx_bi (f_X5_has x1 x3))], M) _ _
      refine kx_q_zeq rfl (fun hc2 => ?_) (fun hc2 => ?_)
      · rw [if_neg hc2] at h
        refine kx_go (pc' := 58) (L' := [some (.ref 0), some (.int x1), some (.int x2), some (.int (x3 + (1)))]) (st' := []) 1 rfl ?_
        refine kx_r_goto rfl ?_
        refine kx_wk [true, true, true, true] ?_
        exact ih x1 x2 (x3 + (1)) h
      · rw [if_pos hc2] at h
        refine kx_go (pc' := 28) (L' := [some (.ref 0), some (.int x1), some (.int x2), some (.int x3)]) (st' := [.int x3, .ref 0, .int x2]) 3 rfl ?_
        obtain ⟨v3, hv4, h⟩ := kx_bn_some h
        refine kx_q_callV (as := [.int x3]) (rest := [.int x2]) (M1 := M) (rv := some (.int (kx_bi v3))) kmo_0 rfl klk_X5_209 kse_X5_asks rfl rfl rfl rfl (Nat.le_of_ble_eq_true rfl) (Nat.le_of_ble_eq_true rfl) (c_X5_asks (d := d + 1) x3 M v3 hv4) ?_
        show kx_Rn _ _ _ (31, [some (.ref 0), some (.int x1), some (.int x2), some (.int x3)], [.int (kx_bi v3), .int x2], M) _ _
        refine kx_q_zeq rfl (fun hc5 => ?_) (fun hc5 => ?_)
        · rw [if_neg hc5] at h
          refine kx_go (pc' := 39) (L' := [some (.ref 0), some (.int x1), some (.int x2), some (.int x3)]) (st' := [.ref 0, .int x2]) 1 rfl ?_
          refine kx_q_getR (k := 5) (j := 4) kmo_0 rfl kfl_X5_19 rfl ?_
          refine kx_go (pc' := 43) (L' := [some (.ref 0), some (.int x1), some (.int x2), some (.int x3)]) (st' := [.int x3, .ref 4, .int x2]) 1 rfl ?_
          obtain ⟨hi6, h⟩ := kx_ck_some h
          refine kx_q_iald (kma_4) rfl hi6 ?_
          refine kx_go (pc' := 45) (L' := [some (.ref 0), some (.int x1), some (.int x2), some (.int x3)]) (st' := [.int (5 : Int32), .int (M.1 4 (x3).toNatClampNeg), .int x2]) 1 rfl ?_
          refine kx_r_icmp_ne rfl (fun hc7 => ?_) (fun hc7 => ?_)
          · rw [if_neg hc7] at h
            refine kx_go (pc' := 58) (L' := [some (.ref 0), some (.int x1), some (.int (x2 + (0 : Int32))), some (.int (x3 + (1)))]) (st' := []) 4 rfl ?_
            refine kx_r_goto rfl ?_
            refine kx_wk [true, true, true, true] ?_
            exact ih x1 (x2 + (0 : Int32)) (x3 + (1)) h
          · rw [if_pos hc7] at h
            refine kx_go (pc' := 49) (L' := [some (.ref 0), some (.int x1), some (.int x2), some (.int x3)]) (st' := [.int (-1 : Int32), .int x2]) 1 rfl ?_
            refine kx_r_goto rfl ?_
            refine kx_go (pc' := 58) (L' := [some (.ref 0), some (.int x1), some (.int (x2 + (-1 : Int32))), some (.int (x3 + (1)))]) (st' := []) 3 rfl ?_
            refine kx_r_goto rfl ?_
            refine kx_wk [true, true, true, true] ?_
            exact ih x1 (x2 + (-1 : Int32)) (x3 + (1)) h
        · rw [if_pos hc5] at h
          refine kx_go (pc' := 35) (L' := [some (.ref 0), some (.int x1), some (.int x2), some (.int x3)]) (st' := [.int (1 : Int32), .int x2]) 1 rfl ?_
          refine kx_r_goto rfl ?_
          refine kx_go (pc' := 58) (L' := [some (.ref 0), some (.int x1), some (.int (x2 + (1 : Int32))), some (.int (x3 + (1)))]) (st' := []) 3 rfl ?_
          refine kx_r_goto rfl ?_
          refine kx_wk [true, true, true, true] ?_
          exact ih x1 (x2 + (1 : Int32)) (x3 + (1)) h
set_option maxRecDepth 100000 in
set_option maxHeartbeats 4000000 in
theorem t_X5_veilBehind {d : Nat} {r : Int32} (M : kx_M) (a0 : Int32) (h : f_X5_veilBehind M a0 = some r) : kx_Rn EM T_X5_veilBehind (d + 2) (0, [some (.ref 0), some (.int a0), none, none], [], M) (some (.int r)) M := by
  unfold f_X5_veilBehind at h
  refine kx_go (pc' := 1) (L' := [some (.ref 0), some (.int a0), none, none]) (st' := [.ref 0]) 1 rfl ?_
  refine kx_q_getR (k := 3) (j := 3) kmo_0 rfl kfl_X5_16 rfl ?_
  refine kx_go (pc' := 5) (L' := [some (.ref 0), some (.int a0), none, none]) (st' := [.int (0 : Int32), .ref 3]) 1 rfl ?_
  obtain ⟨hi1, h⟩ := kx_ck_some h
  refine kx_q_iald (kma_3) rfl hi1 ?_
  refine kx_go (pc' := 9) (L' := [some (.ref 0), some (.int a0), some (.int (M.1 3 ((0 : Int32)).toNatClampNeg)), some (.int (0 : Int32))]) (st' := []) 3 rfl ?_
  refine kx_wk [true, true, true, true] ?_
  exact t_X5_veilBehind_9 M kx_fuel a0 (M.1 3 ((0 : Int32)).toNatClampNeg) (0 : Int32) h
theorem c_X5_veilBehind {d : Nat} (a0 : Int32) (M : kx_M) (r : Int32) (h : f_X5_veilBehind M a0 = some r) : kx_Call EM (d + 2) T_X5_veilBehind [.ref 0, .int a0] M (some (.int r)) M := kx_entry kok_X5_veilBehind (Nat.le_of_ble_eq_true rfl) rfl (t_X5_veilBehind (d := d) M a0 h)
set_option maxRecDepth 100000 in
set_option maxHeartbeats 4000000 in
theorem t_X5_passesDay {d : Nat} {M' : kx_M} (M : kx_M) (h : f_X5_passesDay M = some M') : kx_Rn EM T_X5_passesDay (d + 0) (0, [some (.ref 0)], [], M) none M' := by
  unfold f_X5_passesDay at h
  refine kx_go (pc' := 1) (L' := [some (.ref 0)]) (st' := [.ref 0]) 1 rfl ?_
  refine kx_q_getR (k := 3) (j := 3) kmo_0 rfl kfl_X5_16 rfl ?_
  refine kx_go (pc' := 5) (L' := [some (.ref 0)]) (st' := [.int (1 : Int32), .ref 3]) 1 rfl ?_
  obtain ⟨hi1, h⟩ := kx_ck_some h
  refine kx_q_iald (kma_3) rfl hi1 ?_
  refine kx_go (pc' := 9) (L' := [some (.ref 0)]) (st' := [.int (999 : Int32), .int (M.1 3 ((1 : Int32)).toNatClampNeg)]) 1 rfl ?_
  refine kx_r_icmp_ge rfl (fun hc2 => ?_) (fun hc2 => ?_)
  · rw [if_pos hc2] at h
    cases h
    exact kx_r_vret rfl rfl
  · rw [if_neg hc2] at h
    refine kx_go (pc' := 13) (L' := [some (.ref 0)]) (st' := [.ref 0]) 1 rfl ?_
    refine kx_q_getR (k := 3) (j := 3) kmo_0 rfl kfl_X5_16 rfl ?_
    refine kx_go (pc' := 18) (L' := [some (.ref 0)]) (st' := [.int (1 : Int32), .ref 3, .int (1 : Int32), .ref 3]) 2 rfl ?_
    obtain ⟨hi3, h⟩ := kx_ck_some h
    refine kx_q_iald (kma_3) rfl hi3 ?_
    refine kx_go (pc' := 21) (L' := [some (.ref 0)]) (st' := [.int ((M.1 3 ((1 : Int32)).toNatClampNeg) + (1 : Int32)), .int (1 : Int32), .ref 3]) 2 rfl ?_
    obtain ⟨hi4, h⟩ := kx_ck_some h
    refine kx_q_iast (kma_3) rfl hi4 ?_
    cases h
    exact kx_r_vret rfl rfl
theorem c_X5_passesDay {d : Nat} (M : kx_M) (M' : kx_M) (h : f_X5_passesDay M = some M') : kx_Call EM (d + 0) T_X5_passesDay [.ref 0] M none M' := kx_entry kok_X5_passesDay (Nat.le_of_ble_eq_true rfl) rfl (t_X5_passesDay (d := d) M h)
set_option maxRecDepth 100000 in
set_option maxHeartbeats 4000000 in
theorem t_X5_goes_42 {d : Nat} {M' : kx_M} : ∀ (n : Nat) (x1 : Int32) (x2 : Int32) (M : kx_M), f_X5_goes_42 n x1 x2 M = some M' → kx_Rn EM T_X5_goes (d + 4) (42, [some (.ref 0), some (.int x1), some (.int x2)], [], M) none M' := by
  intro n
  induction n with
  | zero =>
    intro x1 x2 M h
    cases (show (none : Option kx_M) = some _ from h)
  | succ n ih =>
    intro x1 x2 M h
    rw [f_X5_goes_42.eq_2] at h
    refine kx_go (pc' := 44) (L' := [some (.ref 0), some (.int x1), some (.int x2)]) (st' := [.ref 0, .int x2]) 2 rfl ?_
    refine kx_q_getI (k := 4) kmo_0 rfl kfl_X5_82 rfl ?_
    refine kx_r_icmp_ge rfl (fun hc1 => ?_) (fun hc1 => ?_)
    · rw [if_pos hc1] at h
      refine kx_go (pc' := 72) (L' := [some (.ref 0), some (.int x1), some (.int x2)]) (st' := [.ref 0]) 1 rfl ?_
      refine kx_q_getR (k := 3) (j := 3) kmo_0 rfl kfl_X5_16 rfl ?_
      refine kx_go (pc' := 78) (L' := [some (.ref 0), some (.int x1), some (.int x2)]) (st' := [.int x1, .ref 0, .int (0 : Int32), .ref 3]) 3 rfl ?_
      obtain ⟨v2, hv3, h⟩ := kx_bn_some h
      refine kx_q_callV (as := [.int x1]) (rest := [.int (0 : Int32), .ref 3]) (M1 := M) (rv := some (.int v2)) kmo_0 rfl klk_X5_227 kse_X5_veilBehind rfl rfl rfl rfl (Nat.le_of_ble_eq_true rfl) (Nat.le_of_ble_eq_true rfl) (c_X5_veilBehind (d := d + 1) x1 M v2 hv3) ?_
      show kx_Rn _ _ _ (81, [some (.ref 0), some (.int x1), some (.int x2)], [.int v2, .int (0 : Int32), .ref 3], M) _ _
      obtain ⟨hi4, h⟩ := kx_ck_some h
      refine kx_q_iast (kma_3) rfl hi4 ?_
      refine kx_go (pc' := 83) (L' := [some (.ref 0), some (.int x1), some (.int x2)]) (st' := [.ref 0]) 1 rfl ?_
      obtain ⟨M7, hv6, h⟩ := kx_bn_some h
      refine kx_q_callV (as := []) (rest := []) (M1 := M7) (rv := none) kmo_0 rfl klk_X5_230 kse_X5_passesDay rfl rfl rfl rfl (Nat.le_of_ble_eq_true rfl) (Nat.le_of_ble_eq_true rfl) (c_X5_passesDay (d := d + 3) (kx_u1 M 3 ((0 : Int32)).toNatClampNeg v2) M7 hv6) ?_
      show kx_Rn _ _ _ (86, [some (.ref 0), some (.int x1), some (.int x2)], [], M7) _ _
      cases h
      exact kx_r_vret rfl rfl
    · rw [if_neg hc1] at h
      refine kx_go (pc' := 51) (L' := [some (.ref 0), some (.int x1), some (.int x2)]) (st' := [.ref 0]) 1 rfl ?_
      refine kx_q_getR (k := 8) (j := 7) kmo_0 rfl kfl_X5_28 rfl ?_
      refine kx_go (pc' := 56) (L' := [some (.ref 0), some (.int x1), some (.int x2)]) (st' := [.int x2, .ref 7, .int x2, .ref 7]) 2 rfl ?_
      obtain ⟨hi8, h⟩ := kx_ck_some h
      refine kx_q_iald (kma_7) rfl hi8 ?_
      refine kx_go (pc' := 58) (L' := [some (.ref 0), some (.int x1), some (.int x2)]) (st' := [.ref 0, .int (M.1 7 (x2).toNatClampNeg), .int x2, .ref 7]) 1 rfl ?_
      refine kx_q_getR (k := 24) (j := 16) kmo_0 rfl kfl_X5_56 rfl ?_
      refine kx_go (pc' := 62) (L' := [some (.ref 0), some (.int x1), some (.int x2)]) (st' := [.int x2, .ref 16, .int (M.1 7 (x2).toNatClampNeg), .int x2, .ref 7]) 1 rfl ?_
      obtain ⟨hi9, h⟩ := kx_ck_some h
      refine kx_q_iald (kma_16) rfl hi9 ?_
      refine kx_go (pc' := 64) (L' := [some (.ref 0), some (.int x1), some (.int x2)]) (st' := [.int ((M.1 7 (x2).toNatClampNeg) ||| (M.1 16 (x2).toNatClampNeg)), .int x2, .ref 7]) 1 rfl ?_
      obtain ⟨hi10, h⟩ := kx_ck_some h
      refine kx_q_iast (kma_7) rfl hi10 ?_
      refine kx_go (pc' := 68) (L' := [some (.ref 0), some (.int x1), some (.int (x2 + (1)))]) (st' := []) 1 rfl ?_
      refine kx_r_goto rfl ?_
      refine kx_wk [true, true, true] ?_
      exact ih x1 (x2 + (1)) (kx_u1 M 7 (x2).toNatClampNeg ((M.1 7 (x2).toNatClampNeg) ||| (M.1 16 (x2).toNatClampNeg))) h
set_option maxRecDepth 100000 in
set_option maxHeartbeats 4000000 in
theorem t_X5_goes_2 {d : Nat} {M' : kx_M} : ∀ (n : Nat) (x1 : Int32) (x2 : Int32) (M : kx_M), f_X5_goes_2 n x1 x2 M = some M' → kx_Rn EM T_X5_goes (d + 4) (2, [some (.ref 0), some (.int x1), some (.int x2)], [], M) none M' := by
  intro n
  induction n with
  | zero =>
    intro x1 x2 M h
    cases (show (none : Option kx_M) = some _ from h)
  | succ n ih =>
    intro x1 x2 M h
    rw [f_X5_goes_2.eq_2] at h
    refine kx_go (pc' := 4) (L' := [some (.ref 0), some (.int x1), some (.int x2)]) (st' := [.ref 0, .int x2]) 2 rfl ?_
    refine kx_q_getI (k := 4) kmo_0 rfl kfl_X5_82 rfl ?_
    refine kx_r_icmp_ge rfl (fun hc1 => ?_) (fun hc1 => ?_)
    · rw [if_pos hc1] at h
      refine kx_go (pc' := 42) (L' := [some (.ref 0), some (.int x1), some (.int (0 : Int32))]) (st' := []) 2 rfl ?_
      refine kx_wk [true, true, true] ?_
      exact t_X5_goes_42 kx_fuel x1 (0 : Int32) M h
    · rw [if_neg hc1] at h
      refine kx_go (pc' := 11) (L' := [some (.ref 0), some (.int x1), some (.int x2)]) (st' := [.ref 0]) 1 rfl ?_
      refine kx_q_getR (k := 24) (j := 16) kmo_0 rfl kfl_X5_56 rfl ?_
      refine kx_go (pc' := 17) (L' := [some (.ref 0), some (.int x1), some (.int x2)]) (st' := [.int x2, .int x1, .int x2, .ref 16]) 3 rfl ?_
      refine kx_r_callS (as := [.int x1, .int x2]) (rest := [.int x2, .ref 16]) (M1 := M) (rv := some (.int (kx_bi (f_X5_has x1 x2)))) rfl klk_X5_199 kst_X5_has rfl rfl (Nat.le_of_ble_eq_true rfl) (Nat.le_of_ble_eq_true rfl) (c_X5_has (d := d + 3) x1 x2 M (f_X5_has x1 x2) rfl) ?_
      show kx_Rn _ _ _ (20, [some (.ref 0), some (.int x1), some (.int x2)], [.int (kx_bi (f_X5_has x1 x2)), .int x2, .ref 16], M) _ _
      refine kx_q_zeq rfl (fun hc2 => ?_) (fun hc2 => ?_)
      · rw [if_neg hc2] at h
        refine kx_go (pc' := 33) (L' := [some (.ref 0), some (.int x1), some (.int x2)]) (st' := [.int (0 : Int32), .int x2, .ref 16]) 1 rfl ?_
        obtain ⟨hi3, h⟩ := kx_ck_some h
        refine kx_q_iast (kma_16) rfl hi3 ?_
        refine kx_go (pc' := 37) (L' := [some (.ref 0), some (.int x1), some (.int (x2 + (1)))]) (st' := []) 1 rfl ?_
        refine kx_r_goto rfl ?_
        refine kx_wk [true, true, true] ?_
        exact ih x1 (x2 + (1)) (kx_u1 M 16 (x2).toNatClampNeg (0 : Int32)) h
      · rw [if_pos hc2] at h
        refine kx_go (pc' := 26) (L' := [some (.ref 0), some (.int x1), some (.int x2)]) (st' := [.int x1, .int x2, .ref 0, .int x2, .ref 16]) 3 rfl ?_
        obtain ⟨v4, hv5, h⟩ := kx_bn_some h
        refine kx_q_callV (as := [.int x2, .int x1]) (rest := [.int x2, .ref 16]) (M1 := M) (rv := some (.int v4)) kmo_0 rfl klk_X5_215 kse_X5_shownTo rfl rfl rfl rfl (Nat.le_of_ble_eq_true rfl) (Nat.le_of_ble_eq_true rfl) (c_X5_shownTo (d := d + 0) x2 x1 M v4 hv5) ?_
        show kx_Rn _ _ _ (29, [some (.ref 0), some (.int x1), some (.int x2)], [.int v4, .int x2, .ref 16], M) _ _
        refine kx_r_goto rfl ?_
        obtain ⟨hi6, h⟩ := kx_ck_some h
        refine kx_q_iast (kma_16) rfl hi6 ?_
        refine kx_go (pc' := 37) (L' := [some (.ref 0), some (.int x1), some (.int (x2 + (1)))]) (st' := []) 1 rfl ?_
        refine kx_r_goto rfl ?_
        refine kx_wk [true, true, true] ?_
        exact ih x1 (x2 + (1)) (kx_u1 M 16 (x2).toNatClampNeg v4) h
set_option maxRecDepth 100000 in
set_option maxHeartbeats 4000000 in
theorem t_X5_goes {d : Nat} {M' : kx_M} (a0 : Int32) (M : kx_M) (h : f_X5_goes a0 M = some M') : kx_Rn EM T_X5_goes (d + 4) (0, [some (.ref 0), some (.int a0), none], [], M) none M' := by
  unfold f_X5_goes at h
  refine kx_go (pc' := 2) (L' := [some (.ref 0), some (.int a0), some (.int (0 : Int32))]) (st' := []) 2 rfl ?_
  refine kx_wk [true, true, true] ?_
  exact t_X5_goes_2 kx_fuel a0 (0 : Int32) M h
theorem c_X5_goes {d : Nat} (a0 : Int32) (M : kx_M) (M' : kx_M) (h : f_X5_goes a0 M = some M') : kx_Call EM (d + 4) T_X5_goes [.ref 0, .int a0] M none M' := kx_entry kok_X5_goes (Nat.le_of_ble_eq_true rfl) rfl (t_X5_goes (d := d) a0 M h)
set_option maxRecDepth 100000 in
set_option maxHeartbeats 4000000 in
theorem t_X5_open {d : Nat} {r : Int32} {M' : kx_M} (a0 : Int32) (a1 : Int32) (M : kx_M) (h : f_X5_open a0 a1 M = some (r, M')) : kx_Rn EM T_X5_open (d + 3) (0, [some (.ref 0), some (.int a0), some (.int a1)], [], M) (some (.int r)) M' := by
  unfold f_X5_open at h
  refine kx_go (pc' := 2) (L' := [some (.ref 0), some (.int a0), some (.int a1)]) (st' := [.int a0, .ref 0]) 2 rfl ?_
  refine kx_q_callV (as := [.int a0]) (rest := []) (M1 := M) (rv := some (.int (kx_bi (f_X5_isOne M a0)))) kmo_0 rfl klk_X5_103 kse_X5_isOne rfl rfl rfl rfl (Nat.le_of_ble_eq_true rfl) (Nat.le_of_ble_eq_true rfl) (c_X5_isOne (d := d + 1) a0 M (f_X5_isOne M a0) rfl) ?_
  show kx_Rn _ _ _ (5, [some (.ref 0), some (.int a0), some (.int a1)], [.int (kx_bi (f_X5_isOne M a0))], M) _ _
  refine kx_q_zeq rfl (fun hc1 => ?_) (fun hc1 => ?_)
  · rw [if_neg hc1] at h
    refine kx_go (pc' := 36) (L' := [some (.ref 0), some (.int a0), some (.int a1)]) (st' := [.int (-2 : Int32), .ref 0]) 2 rfl ?_
    obtain ⟨v2, M4, hv3, h⟩ := kx_bd_some h
    refine kx_q_callV (as := [.int (-2 : Int32)]) (rest := []) (M1 := M4) (rv := some (.int v2)) kmo_0 rfl klk_X5_89 kse_X5_no rfl rfl rfl rfl (Nat.le_of_ble_eq_true rfl) (Nat.le_of_ble_eq_true rfl) (c_X5_no (d := d + 2) (-2 : Int32) M v2 M4 hv3) ?_
    show kx_Rn _ _ _ (39, [some (.ref 0), some (.int a0), some (.int a1)], [.int v2], M4) _ _
    cases h
    exact kx_r_iret rfl rfl
  · rw [if_pos hc1] at h
    refine kx_go (pc' := 10) (L' := [some (.ref 0), some (.int a0), some (.int a1)]) (st' := [.int a1, .ref 0]) 2 rfl ?_
    refine kx_q_callV (as := [.int a1]) (rest := []) (M1 := M) (rv := some (.int (kx_bi (f_X5_isGroup M a1)))) kmo_0 rfl klk_X5_233 kse_X5_isGroup rfl rfl rfl rfl (Nat.le_of_ble_eq_true rfl) (Nat.le_of_ble_eq_true rfl) (c_X5_isGroup (d := d + 1) a1 M (f_X5_isGroup M a1) rfl) ?_
    show kx_Rn _ _ _ (13, [some (.ref 0), some (.int a0), some (.int a1)], [.int (kx_bi (f_X5_isGroup M a1))], M) _ _
    refine kx_q_zeq rfl (fun hc5 => ?_) (fun hc5 => ?_)
    · rw [if_neg hc5] at h
      refine kx_go (pc' := 36) (L' := [some (.ref 0), some (.int a0), some (.int a1)]) (st' := [.int (-2 : Int32), .ref 0]) 2 rfl ?_
      obtain ⟨v6, M8, hv7, h⟩ := kx_bd_some h
      refine kx_q_callV (as := [.int (-2 : Int32)]) (rest := []) (M1 := M8) (rv := some (.int v6)) kmo_0 rfl klk_X5_89 kse_X5_no rfl rfl rfl rfl (Nat.le_of_ble_eq_true rfl) (Nat.le_of_ble_eq_true rfl) (c_X5_no (d := d + 2) (-2 : Int32) M v6 M8 hv7) ?_
      show kx_Rn _ _ _ (39, [some (.ref 0), some (.int a0), some (.int a1)], [.int v6], M8) _ _
      cases h
      exact kx_r_iret rfl rfl
    · rw [if_pos hc5] at h
      refine kx_go (pc' := 18) (L' := [some (.ref 0), some (.int a0), some (.int a1)]) (st' := [.int a0, .int a1]) 2 rfl ?_
      refine kx_r_callS (as := [.int a1, .int a0]) (rest := []) (M1 := M) (rv := some (.int (kx_bi (f_X5_has a1 a0)))) rfl klk_X5_199 kst_X5_has rfl rfl (Nat.le_of_ble_eq_true rfl) (Nat.le_of_ble_eq_true rfl) (c_X5_has (d := d + 2) a1 a0 M (f_X5_has a1 a0) rfl) ?_
      show kx_Rn _ _ _ (21, [some (.ref 0), some (.int a0), some (.int a1)], [.int (kx_bi (f_X5_has a1 a0))], M) _ _
      refine kx_q_zeq rfl (fun hc9 => ?_) (fun hc9 => ?_)
      · rw [if_neg hc9] at h
        refine kx_go (pc' := 36) (L' := [some (.ref 0), some (.int a0), some (.int a1)]) (st' := [.int (-2 : Int32), .ref 0]) 2 rfl ?_
        obtain ⟨v10, M12, hv11, h⟩ := kx_bd_some h
        refine kx_q_callV (as := [.int (-2 : Int32)]) (rest := []) (M1 := M12) (rv := some (.int v10)) kmo_0 rfl klk_X5_89 kse_X5_no rfl rfl rfl rfl (Nat.le_of_ble_eq_true rfl) (Nat.le_of_ble_eq_true rfl) (c_X5_no (d := d + 2) (-2 : Int32) M v10 M12 hv11) ?_
        show kx_Rn _ _ _ (39, [some (.ref 0), some (.int a0), some (.int a1)], [.int v10], M12) _ _
        cases h
        exact kx_r_iret rfl rfl
      · rw [if_pos hc9] at h
        refine kx_go (pc' := 27) (L' := [some (.ref 0), some (.int a0), some (.int a1)]) (st' := [.int a1, .int a0, .ref 0]) 3 rfl ?_
        obtain ⟨v13, hv14, h⟩ := kx_bn_some h
        refine kx_q_callV (as := [.int a0, .int a1]) (rest := []) (M1 := M) (rv := some (.int v13)) kmo_0 rfl klk_X5_110 kse_X5_openTo rfl rfl rfl rfl (Nat.le_of_ble_eq_true rfl) (Nat.le_of_ble_eq_true rfl) (c_X5_openTo (d := d + 0) a0 a1 M v13 hv14) ?_
        show kx_Rn _ _ _ (30, [some (.ref 0), some (.int a0), some (.int a1)], [.int v13], M) _ _
        refine kx_r_goto rfl ?_
        cases h
        exact kx_r_iret rfl rfl
theorem c_X5_open {d : Nat} (a0 : Int32) (a1 : Int32) (M : kx_M) (r : Int32) (M' : kx_M) (h : f_X5_open a0 a1 M = some (r, M')) : kx_Call EM (d + 3) T_X5_open [.ref 0, .int a0, .int a1] M (some (.int r)) M' := kx_entry kok_X5_open (Nat.le_of_ble_eq_true rfl) rfl (t_X5_open (d := d) a0 a1 M h)
set_option maxRecDepth 100000 in
set_option maxHeartbeats 4000000 in
theorem t_X5_shown {d : Nat} {r : Int32} {M' : kx_M} (a0 : Int32) (a1 : Int32) (M : kx_M) (h : f_X5_shown a0 a1 M = some (r, M')) : kx_Rn EM T_X5_shown (d + 4) (0, [some (.ref 0), some (.int a0), some (.int a1)], [], M) (some (.int r)) M' := by
  unfold f_X5_shown at h
  refine kx_go (pc' := 2) (L' := [some (.ref 0), some (.int a0), some (.int a1)]) (st' := [.int a0, .ref 0]) 2 rfl ?_
  refine kx_q_callV (as := [.int a0]) (rest := []) (M1 := M) (rv := some (.int (kx_bi (f_X5_isOne M a0)))) kmo_0 rfl klk_X5_103 kse_X5_isOne rfl rfl rfl rfl (Nat.le_of_ble_eq_true rfl) (Nat.le_of_ble_eq_true rfl) (c_X5_isOne (d := d + 2) a0 M (f_X5_isOne M a0) rfl) ?_
  show kx_Rn _ _ _ (5, [some (.ref 0), some (.int a0), some (.int a1)], [.int (kx_bi (f_X5_isOne M a0))], M) _ _
  refine kx_q_zeq rfl (fun hc1 => ?_) (fun hc1 => ?_)
  · rw [if_neg hc1] at h
    refine kx_go (pc' := 36) (L' := [some (.ref 0), some (.int a0), some (.int a1)]) (st' := [.int (-2 : Int32), .ref 0]) 2 rfl ?_
    obtain ⟨v2, M4, hv3, h⟩ := kx_bd_some h
    refine kx_q_callV (as := [.int (-2 : Int32)]) (rest := []) (M1 := M4) (rv := some (.int v2)) kmo_0 rfl klk_X5_89 kse_X5_no rfl rfl rfl rfl (Nat.le_of_ble_eq_true rfl) (Nat.le_of_ble_eq_true rfl) (c_X5_no (d := d + 3) (-2 : Int32) M v2 M4 hv3) ?_
    show kx_Rn _ _ _ (39, [some (.ref 0), some (.int a0), some (.int a1)], [.int v2], M4) _ _
    cases h
    exact kx_r_iret rfl rfl
  · rw [if_pos hc1] at h
    refine kx_go (pc' := 10) (L' := [some (.ref 0), some (.int a0), some (.int a1)]) (st' := [.int a1, .ref 0]) 2 rfl ?_
    refine kx_q_callV (as := [.int a1]) (rest := []) (M1 := M) (rv := some (.int (kx_bi (f_X5_isGroup M a1)))) kmo_0 rfl klk_X5_233 kse_X5_isGroup rfl rfl rfl rfl (Nat.le_of_ble_eq_true rfl) (Nat.le_of_ble_eq_true rfl) (c_X5_isGroup (d := d + 2) a1 M (f_X5_isGroup M a1) rfl) ?_
    show kx_Rn _ _ _ (13, [some (.ref 0), some (.int a0), some (.int a1)], [.int (kx_bi (f_X5_isGroup M a1))], M) _ _
    refine kx_q_zeq rfl (fun hc5 => ?_) (fun hc5 => ?_)
    · rw [if_neg hc5] at h
      refine kx_go (pc' := 36) (L' := [some (.ref 0), some (.int a0), some (.int a1)]) (st' := [.int (-2 : Int32), .ref 0]) 2 rfl ?_
      obtain ⟨v6, M8, hv7, h⟩ := kx_bd_some h
      refine kx_q_callV (as := [.int (-2 : Int32)]) (rest := []) (M1 := M8) (rv := some (.int v6)) kmo_0 rfl klk_X5_89 kse_X5_no rfl rfl rfl rfl (Nat.le_of_ble_eq_true rfl) (Nat.le_of_ble_eq_true rfl) (c_X5_no (d := d + 3) (-2 : Int32) M v6 M8 hv7) ?_
      show kx_Rn _ _ _ (39, [some (.ref 0), some (.int a0), some (.int a1)], [.int v6], M8) _ _
      cases h
      exact kx_r_iret rfl rfl
    · rw [if_pos hc5] at h
      refine kx_go (pc' := 18) (L' := [some (.ref 0), some (.int a0), some (.int a1)]) (st' := [.int a0, .int a1]) 2 rfl ?_
      refine kx_r_callS (as := [.int a1, .int a0]) (rest := []) (M1 := M) (rv := some (.int (kx_bi (f_X5_has a1 a0)))) rfl klk_X5_199 kst_X5_has rfl rfl (Nat.le_of_ble_eq_true rfl) (Nat.le_of_ble_eq_true rfl) (c_X5_has (d := d + 3) a1 a0 M (f_X5_has a1 a0) rfl) ?_
      show kx_Rn _ _ _ (21, [some (.ref 0), some (.int a0), some (.int a1)], [.int (kx_bi (f_X5_has a1 a0))], M) _ _
      refine kx_q_zeq rfl (fun hc9 => ?_) (fun hc9 => ?_)
      · rw [if_neg hc9] at h
        refine kx_go (pc' := 36) (L' := [some (.ref 0), some (.int a0), some (.int a1)]) (st' := [.int (-2 : Int32), .ref 0]) 2 rfl ?_
        obtain ⟨v10, M12, hv11, h⟩ := kx_bd_some h
        refine kx_q_callV (as := [.int (-2 : Int32)]) (rest := []) (M1 := M12) (rv := some (.int v10)) kmo_0 rfl klk_X5_89 kse_X5_no rfl rfl rfl rfl (Nat.le_of_ble_eq_true rfl) (Nat.le_of_ble_eq_true rfl) (c_X5_no (d := d + 3) (-2 : Int32) M v10 M12 hv11) ?_
        show kx_Rn _ _ _ (39, [some (.ref 0), some (.int a0), some (.int a1)], [.int v10], M12) _ _
        cases h
        exact kx_r_iret rfl rfl
      · rw [if_pos hc9] at h
        refine kx_go (pc' := 27) (L' := [some (.ref 0), some (.int a0), some (.int a1)]) (st' := [.int a1, .int a0, .ref 0]) 3 rfl ?_
        obtain ⟨v13, hv14, h⟩ := kx_bn_some h
        refine kx_q_callV (as := [.int a0, .int a1]) (rest := []) (M1 := M) (rv := some (.int v13)) kmo_0 rfl klk_X5_215 kse_X5_shownTo rfl rfl rfl rfl (Nat.le_of_ble_eq_true rfl) (Nat.le_of_ble_eq_true rfl) (c_X5_shownTo (d := d + 0) a0 a1 M v13 hv14) ?_
        show kx_Rn _ _ _ (30, [some (.ref 0), some (.int a0), some (.int a1)], [.int v13], M) _ _
        refine kx_r_goto rfl ?_
        cases h
        exact kx_r_iret rfl rfl
theorem c_X5_shown {d : Nat} (a0 : Int32) (a1 : Int32) (M : kx_M) (r : Int32) (M' : kx_M) (h : f_X5_shown a0 a1 M = some (r, M')) : kx_Call EM (d + 4) T_X5_shown [.ref 0, .int a0, .int a1] M (some (.int r)) M' := kx_entry kok_X5_shown (Nat.le_of_ble_eq_true rfl) rfl (t_X5_shown (d := d) a0 a1 M h)
set_option maxRecDepth 100000 in
set_option maxHeartbeats 4000000 in
theorem t_X5_known {d : Nat} {r : Int32} {M' : kx_M} (a0 : Int32) (M : kx_M) (h : f_X5_known a0 M = some (r, M')) : kx_Rn EM T_X5_known (d + 2) (0, [some (.ref 0), some (.int a0)], [], M) (some (.int r)) M' := by
  unfold f_X5_known at h
  refine kx_go (pc' := 2) (L' := [some (.ref 0), some (.int a0)]) (st' := [.int a0, .ref 0]) 2 rfl ?_
  refine kx_q_callV (as := [.int a0]) (rest := []) (M1 := M) (rv := some (.int (kx_bi (f_X5_isGroup M a0)))) kmo_0 rfl klk_X5_233 kse_X5_isGroup rfl rfl rfl rfl (Nat.le_of_ble_eq_true rfl) (Nat.le_of_ble_eq_true rfl) (c_X5_isGroup (d := d + 0) a0 M (f_X5_isGroup M a0) rfl) ?_
  show kx_Rn _ _ _ (5, [some (.ref 0), some (.int a0)], [.int (kx_bi (f_X5_isGroup M a0))], M) _ _
  refine kx_q_zeq rfl (fun hc1 => ?_) (fun hc1 => ?_)
  · rw [if_neg hc1] at h
    refine kx_go (pc' := 19) (L' := [some (.ref 0), some (.int a0)]) (st' := [.int (-2 : Int32), .ref 0]) 2 rfl ?_
    obtain ⟨v2, M4, hv3, h⟩ := kx_bd_some h
    refine kx_q_callV (as := [.int (-2 : Int32)]) (rest := []) (M1 := M4) (rv := some (.int v2)) kmo_0 rfl klk_X5_89 kse_X5_no rfl rfl rfl rfl (Nat.le_of_ble_eq_true rfl) (Nat.le_of_ble_eq_true rfl) (c_X5_no (d := d + 1) (-2 : Int32) M v2 M4 hv3) ?_
    show kx_Rn _ _ _ (22, [some (.ref 0), some (.int a0)], [.int v2], M4) _ _
    cases h
    exact kx_r_iret rfl rfl
  · rw [if_pos hc1] at h
    refine kx_go (pc' := 10) (L' := [some (.ref 0), some (.int a0)]) (st' := [.int a0, .ref 0]) 2 rfl ?_
    obtain ⟨v5, hv6, h⟩ := kx_bn_some h
    refine kx_q_callV (as := [.int a0]) (rest := []) (M1 := M) (rv := some (.int v5)) kmo_0 rfl klk_X5_224 kse_X5_knownBy rfl rfl rfl rfl (Nat.le_of_ble_eq_true rfl) (Nat.le_of_ble_eq_true rfl) (c_X5_knownBy (d := d + 0) a0 M v5 hv6) ?_
    show kx_Rn _ _ _ (13, [some (.ref 0), some (.int a0)], [.int v5], M) _ _
    refine kx_r_goto rfl ?_
    cases h
    exact kx_r_iret rfl rfl
theorem c_X5_known {d : Nat} (a0 : Int32) (M : kx_M) (r : Int32) (M' : kx_M) (h : f_X5_known a0 M = some (r, M')) : kx_Call EM (d + 2) T_X5_known [.ref 0, .int a0] M (some (.int r)) M' := kx_entry kok_X5_known (Nat.le_of_ble_eq_true rfl) rfl (t_X5_known (d := d) a0 M h)
set_option maxRecDepth 100000 in
set_option maxHeartbeats 4000000 in
theorem t_X5_fresh {d : Nat} {r : Int32} {M' : kx_M} (a0 : Int32) (M : kx_M) (h : f_X5_fresh a0 M = some (r, M')) : kx_Rn EM T_X5_fresh (d + 6) (0, [some (.ref 0), some (.int a0)], [], M) (some (.int r)) M' := by
  unfold f_X5_fresh at h
  refine kx_go (pc' := 2) (L' := [some (.ref 0), some (.int a0)]) (st' := [.int a0, .ref 0]) 2 rfl ?_
  refine kx_q_callV (as := [.int a0]) (rest := []) (M1 := M) (rv := some (.int (kx_bi (f_X5_isGroup M a0)))) kmo_0 rfl klk_X5_233 kse_X5_isGroup rfl rfl rfl rfl (Nat.le_of_ble_eq_true rfl) (Nat.le_of_ble_eq_true rfl) (c_X5_isGroup (d := d + 4) a0 M (f_X5_isGroup M a0) rfl) ?_
  show kx_Rn _ _ _ (5, [some (.ref 0), some (.int a0)], [.int (kx_bi (f_X5_isGroup M a0))], M) _ _
  refine kx_q_zeq rfl (fun hc1 => ?_) (fun hc1 => ?_)
  · rw [if_neg hc1] at h
    refine kx_go (pc' := 19) (L' := [some (.ref 0), some (.int a0)]) (st' := [.int (-2 : Int32), .ref 0]) 2 rfl ?_
    obtain ⟨v2, M4, hv3, h⟩ := kx_bd_some h
    refine kx_q_callV (as := [.int (-2 : Int32)]) (rest := []) (M1 := M4) (rv := some (.int v2)) kmo_0 rfl klk_X5_89 kse_X5_no rfl rfl rfl rfl (Nat.le_of_ble_eq_true rfl) (Nat.le_of_ble_eq_true rfl) (c_X5_no (d := d + 5) (-2 : Int32) M v2 M4 hv3) ?_
    show kx_Rn _ _ _ (22, [some (.ref 0), some (.int a0)], [.int v2], M4) _ _
    cases h
    exact kx_r_iret rfl rfl
  · rw [if_pos hc1] at h
    refine kx_go (pc' := 10) (L' := [some (.ref 0), some (.int a0)]) (st' := [.int a0, .ref 0]) 2 rfl ?_
    obtain ⟨v5, hv6, h⟩ := kx_bn_some h
    refine kx_q_callV (as := [.int a0]) (rest := []) (M1 := M) (rv := some (.int v5)) kmo_0 rfl klk_X5_236 kse_X5_newOf rfl rfl rfl rfl (Nat.le_of_ble_eq_true rfl) (Nat.le_of_ble_eq_true rfl) (c_X5_newOf (d := d + 0) a0 M v5 hv6) ?_
    show kx_Rn _ _ _ (13, [some (.ref 0), some (.int a0)], [.int v5], M) _ _
    refine kx_r_goto rfl ?_
    cases h
    exact kx_r_iret rfl rfl
theorem c_X5_fresh {d : Nat} (a0 : Int32) (M : kx_M) (r : Int32) (M' : kx_M) (h : f_X5_fresh a0 M = some (r, M')) : kx_Call EM (d + 6) T_X5_fresh [.ref 0, .int a0] M (some (.int r)) M' := kx_entry kok_X5_fresh (Nat.le_of_ble_eq_true rfl) rfl (t_X5_fresh (d := d) a0 M h)
set_option maxRecDepth 100000 in
set_option maxHeartbeats 4000000 in
theorem t_X5_veilThen {d : Nat} {r : Int32} {M' : kx_M} (a0 : Int32) (M : kx_M) (h : f_X5_veilThen a0 M = some (r, M')) : kx_Rn EM T_X5_veilThen (d + 3) (0, [some (.ref 0), some (.int a0)], [], M) (some (.int r)) M' := by
  unfold f_X5_veilThen at h
  refine kx_go (pc' := 2) (L' := [some (.ref 0), some (.int a0)]) (st' := [.int a0, .ref 0]) 2 rfl ?_
  refine kx_q_callV (as := [.int a0]) (rest := []) (M1 := M) (rv := some (.int (kx_bi (f_X5_isGroup M a0)))) kmo_0 rfl klk_X5_233 kse_X5_isGroup rfl rfl rfl rfl (Nat.le_of_ble_eq_true rfl) (Nat.le_of_ble_eq_true rfl) (c_X5_isGroup (d := d + 1) a0 M (f_X5_isGroup M a0) rfl) ?_
  show kx_Rn _ _ _ (5, [some (.ref 0), some (.int a0)], [.int (kx_bi (f_X5_isGroup M a0))], M) _ _
  refine kx_q_zeq rfl (fun hc1 => ?_) (fun hc1 => ?_)
  · rw [if_neg hc1] at h
    refine kx_go (pc' := 23) (L' := [some (.ref 0), some (.int a0)]) (st' := [.int (-2 : Int32), .ref 0]) 2 rfl ?_
    obtain ⟨v2, M4, hv3, h⟩ := kx_bd_some h
    refine kx_q_callV (as := [.int (-2 : Int32)]) (rest := []) (M1 := M4) (rv := some (.int v2)) kmo_0 rfl klk_X5_89 kse_X5_no rfl rfl rfl rfl (Nat.le_of_ble_eq_true rfl) (Nat.le_of_ble_eq_true rfl) (c_X5_no (d := d + 2) (-2 : Int32) M v2 M4 hv3) ?_
    show kx_Rn _ _ _ (26, [some (.ref 0), some (.int a0)], [.int v2], M4) _ _
    cases h
    exact kx_r_iret rfl rfl
  · rw [if_pos hc1] at h
    refine kx_go (pc' := 9) (L' := [some (.ref 0), some (.int a0)]) (st' := [.int a0]) 1 rfl ?_
    refine kx_r_if_le rfl (fun hc5 => ?_) (fun hc5 => ?_)
    · rw [if_pos hc5] at h
      refine kx_go (pc' := 23) (L' := [some (.ref 0), some (.int a0)]) (st' := [.int (-2 : Int32), .ref 0]) 2 rfl ?_
      obtain ⟨v6, M8, hv7, h⟩ := kx_bd_some h
      refine kx_q_callV (as := [.int (-2 : Int32)]) (rest := []) (M1 := M8) (rv := some (.int v6)) kmo_0 rfl klk_X5_89 kse_X5_no rfl rfl rfl rfl (Nat.le_of_ble_eq_true rfl) (Nat.le_of_ble_eq_true rfl) (c_X5_no (d := d + 2) (-2 : Int32) M v6 M8 hv7) ?_
      show kx_Rn _ _ _ (26, [some (.ref 0), some (.int a0)], [.int v6], M8) _ _
      cases h
      exact kx_r_iret rfl rfl
    · rw [if_neg hc5] at h
      refine kx_go (pc' := 14) (L' := [some (.ref 0), some (.int a0)]) (st' := [.int a0, .ref 0]) 2 rfl ?_
      obtain ⟨v9, hv10, h⟩ := kx_bn_some h
      refine kx_q_callV (as := [.int a0]) (rest := []) (M1 := M) (rv := some (.int v9)) kmo_0 rfl klk_X5_227 kse_X5_veilBehind rfl rfl rfl rfl (Nat.le_of_ble_eq_true rfl) (Nat.le_of_ble_eq_true rfl) (c_X5_veilBehind (d := d + 0) a0 M v9 hv10) ?_
      show kx_Rn _ _ _ (17, [some (.ref 0), some (.int a0)], [.int v9], M) _ _
      refine kx_r_goto rfl ?_
      cases h
      exact kx_r_iret rfl rfl
theorem c_X5_veilThen {d : Nat} (a0 : Int32) (M : kx_M) (r : Int32) (M' : kx_M) (h : f_X5_veilThen a0 M = some (r, M')) : kx_Call EM (d + 3) T_X5_veilThen [.ref 0, .int a0] M (some (.int r)) M' := kx_entry kok_X5_veilThen (Nat.le_of_ble_eq_true rfl) rfl (t_X5_veilThen (d := d) a0 M h)
set_option maxRecDepth 100000 in
set_option maxHeartbeats 4000000 in
theorem t_X5_send_24 {d : Nat} {r : Int32} {M' : kx_M} : ∀ (n : Nat) (x1 : Int32) (x2 : Int32) (x3 : Int32) (x4 : Int32) (M : kx_M), f_X5_send_24 n x1 x2 x3 x4 M = some (r, M') → kx_Rn EM T_X5_send (d + 6) (24, [some (.ref 0), some (.int x1), some (.int x2), some (.int x3), some (.int x4), none], [], M) (some (.int r)) M' := by
  intro n
  induction n with
  | zero =>
    intro x1 x2 x3 x4 M h
    cases (show (none : Option (Int32 × kx_M)) = some _ from h)
  | succ n ih =>
    intro x1 x2 x3 x4 M h
    rw [f_X5_send_24.eq_2] at h
    refine kx_go (pc' := 28) (L' := [some (.ref 0), some (.int x1), some (.int x2), some (.int x3), some (.int x4), none]) (st' := [.ref 0, .int (1 : Int32), .int x4]) 3 rfl ?_
    refine kx_q_getI (k := 4) kmo_0 rfl kfl_X5_82 rfl ?_
    refine kx_go (pc' := 32) (L' := [some (.ref 0), some (.int x1), some (.int x2), some (.int x3), some (.int x4), none]) (st' := [.int ((1 : Int32) <<< ((M.1 0 4) &&& 31)), .int x4]) 1 rfl ?_
    refine kx_r_icmp_ge rfl (fun hc1 => ?_) (fun hc1 => ?_)
    · rw [if_pos hc1] at h
      refine kx_go (pc' := 80) (L' := [some (.ref 0), some (.int x1), some (.int x2), some (.int x3), some (.int x4), none]) (st' := [.int x2]) 1 rfl ?_
      cases h
      exact kx_r_iret rfl rfl
    · rw [if_neg hc1] at h
      refine kx_go (pc' := 37) (L' := [some (.ref 0), some (.int x1), some (.int x2), some (.int x3), some (.int x4), none]) (st' := [.int x4]) 1 rfl ?_
      refine kx_r_callS (as := [.int x4]) (rest := []) (M1 := M) (rv := some (.int (f_J6_bitCount_0f7a4 x4))) rfl klk_X5_194 kst_J6_bitCount_0f7a4 rfl rfl (Nat.le_of_ble_eq_true rfl) (Nat.le_of_ble_eq_true rfl) (c_J6_bitCount_0f7a4 (d := d + 5) x4 M (f_J6_bitCount_0f7a4 x4) rfl) ?_
      show kx_Rn _ _ _ (40, [some (.ref 0), some (.int x1), some (.int x2), some (.int x3), some (.int x4), none], [.int (f_J6_bitCount_0f7a4 x4)], M) _ _
      refine kx_go (pc' := 41) (L' := [some (.ref 0), some (.int x1), some (.int x2), some (.int x3), some (.int x4), none]) (st' := [.int x1, .int (f_J6_bitCount_0f7a4 x4)]) 1 rfl ?_
      refine kx_r_icmp_eq rfl (fun hc2 => ?_) (fun hc2 => ?_)
      · rw [if_pos hc2] at h
        refine kx_go (pc' := 50) (L' := [some (.ref 0), some (.int x1), some (.int x2), some (.int x3), some (.int x4), none]) (st' := [.int x4, .ref 0]) 2 rfl ?_
        obtain ⟨v3, hv4, h⟩ := kx_bn_some h
        refine kx_q_callV (as := [.int x4]) (rest := []) (M1 := M) (rv := some (.int v3)) kmo_0 rfl klk_X5_236 kse_X5_newOf rfl rfl rfl rfl (Nat.le_of_ble_eq_true rfl) (Nat.le_of_ble_eq_true rfl) (c_X5_newOf (d := d + 0) x4 M v3 hv4) ?_
        show kx_Rn _ _ _ (53, [some (.ref 0), some (.int x1), some (.int x2), some (.int x3), some (.int x4), none], [.int v3], M) _ _
        refine kx_r_callS (as := [.int v3]) (rest := []) (M1 := M) (rv := some (.int (f_J6_bitCount_0f7a4 v3))) rfl klk_X5_194 kst_J6_bitCount_0f7a4 rfl rfl (Nat.le_of_ble_eq_true rfl) (Nat.le_of_ble_eq_true rfl) (c_J6_bitCount_0f7a4 (d := d + 5) v3 M (f_J6_bitCount_0f7a4 v3) rfl) ?_
        show kx_Rn _ _ _ (56, [some (.ref 0), some (.int x1), some (.int x2), some (.int x3), some (.int x4), none], [.int (f_J6_bitCount_0f7a4 v3)], M) _ _
        refine kx_go (pc' := 61) (L' := [some (.ref 0), some (.int x1), some (.int x2), some (.int x3), some (.int x4), some (.int (f_J6_bitCount_0f7a4 v3))]) (st' := [.int x3, .int (f_J6_bitCount_0f7a4 v3)]) 3 rfl ?_
        refine kx_r_icmp_gt rfl (fun hc5 => ?_) (fun hc5 => ?_)
        · rw [if_pos hc5] at h
          refine kx_go (pc' := 76) (L' := [some (.ref 0), some (.int x1), some (.int x4), some (.int (f_J6_bitCount_0f7a4 v3)), some (.int (x4 + (1))), some (.int (f_J6_bitCount_0f7a4 v3))]) (st' := []) 5 rfl ?_
          refine kx_r_goto rfl ?_
          refine kx_wk [true, true, true, true, true, false] ?_
          exact ih x1 x4 (f_J6_bitCount_0f7a4 v3) (x4 + (1)) M h
        · rw [if_neg hc5] at h
          refine kx_r_goto rfl ?_
          refine kx_go (pc' := 76) (L' := [some (.ref 0), some (.int x1), some (.int x2), some (.int x3), some (.int (x4 + (1))), some (.int (f_J6_bitCount_0f7a4 v3))]) (st' := []) 1 rfl ?_
          refine kx_r_goto rfl ?_
          refine kx_wk [true, true, true, true, true, false] ?_
          exact ih x1 x2 x3 (x4 + (1)) M h
      · rw [if_neg hc2] at h
        refine kx_r_goto rfl ?_
        refine kx_go (pc' := 76) (L' := [some (.ref 0), some (.int x1), some (.int x2), some (.int x3), some (.int (x4 + (1))), none]) (st' := []) 1 rfl ?_
        refine kx_r_goto rfl ?_
        refine kx_wk [true, true, true, true, true, false] ?_
        exact ih x1 x2 x3 (x4 + (1)) M h
set_option maxRecDepth 100000 in
set_option maxHeartbeats 4000000 in
theorem t_X5_send {d : Nat} {r : Int32} {M' : kx_M} (a0 : Int32) (M : kx_M) (h : f_X5_send a0 M = some (r, M')) : kx_Rn EM T_X5_send (d + 6) (0, [some (.ref 0), some (.int a0), none, none, none, none], [], M) (some (.int r)) M' := by
  unfold f_X5_send at h
  refine kx_go (pc' := 4) (L' := [some (.ref 0), some (.int a0), none, none, none, none]) (st' := [.int (8 : Int32), .int (1 : Int32), .int a0]) 3 rfl ?_
  refine kx_r_callS (as := [.int a0, .int (1 : Int32), .int (8 : Int32)]) (rest := []) (M1 := M) (rv := some (.int (kx_bi (f_X5_within a0 (1 : Int32) (8 : Int32))))) rfl klk_X5_78 kst_X5_within rfl rfl (Nat.le_of_ble_eq_true rfl) (Nat.le_of_ble_eq_true rfl) (c_X5_within (d := d + 5) a0 (1 : Int32) (8 : Int32) M (f_X5_within a0 (1 : Int32) (8 : Int32)) rfl) ?_
  show kx_Rn _ _ _ (7, [some (.ref 0), some (.int a0), none, none, none, none], [.int (kx_bi (f_X5_within a0 (1 : Int32) (8 : Int32)))], M) _ _
  refine kx_q_zne rfl (fun hc1 => ?_) (fun hc1 => ?_)
  · rw [if_pos hc1] at h
    refine kx_go (pc' := 24) (L' := [some (.ref 0), some (.int a0), some (.int (-1 : Int32)), some (.int (-1 : Int32)), some (.int (0 : Int32)), none]) (st' := []) 6 rfl ?_
    refine kx_wk [true, true, true, true, true, false] ?_
    exact t_X5_send_24 kx_fuel a0 (-1 : Int32) (-1 : Int32) (0 : Int32) M h
  · rw [if_neg hc1] at h
    refine kx_go (pc' := 13) (L' := [some (.ref 0), some (.int a0), none, none, none, none]) (st' := [.int (-2 : Int32), .ref 0]) 2 rfl ?_
    obtain ⟨v2, M4, hv3, h⟩ := kx_bd_some h
    refine kx_q_callV (as := [.int (-2 : Int32)]) (rest := []) (M1 := M4) (rv := some (.int v2)) kmo_0 rfl klk_X5_89 kse_X5_no rfl rfl rfl rfl (Nat.le_of_ble_eq_true rfl) (Nat.le_of_ble_eq_true rfl) (c_X5_no (d := d + 5) (-2 : Int32) M v2 M4 hv3) ?_
    show kx_Rn _ _ _ (16, [some (.ref 0), some (.int a0), none, none, none, none], [.int v2], M4) _ _
    cases h
    exact kx_r_iret rfl rfl
theorem c_X5_send {d : Nat} (a0 : Int32) (M : kx_M) (r : Int32) (M' : kx_M) (h : f_X5_send a0 M = some (r, M')) : kx_Call EM (d + 6) T_X5_send [.ref 0, .int a0] M (some (.int r)) M' := kx_entry kok_X5_send (Nat.le_of_ble_eq_true rfl) rfl (t_X5_send (d := d) a0 M h)
set_option maxRecDepth 100000 in
set_option maxHeartbeats 4000000 in
theorem t_X5_fewest_19 {d : Nat} {r : Int32} {M' : kx_M} : ∀ (n : Nat) (x1 : Int32) (x2 : Int32) (x3 : Int32) (M : kx_M), f_X5_fewest_19 n x1 x2 x3 M = some (r, M') → kx_Rn EM T_X5_fewest (d + 5) (19, [some (.ref 0), some (.int x1), some (.int x2), some (.int x3)], [], M) (some (.int r)) M' := by
  intro n
  induction n with
  | zero =>
    intro x1 x2 x3 M h
    cases (show (none : Option (Int32 × kx_M)) = some _ from h)
  | succ n ih =>
    intro x1 x2 x3 M h
    rw [f_X5_fewest_19.eq_2] at h
    refine kx_go (pc' := 22) (L' := [some (.ref 0), some (.int x1), some (.int x2), some (.int x3)]) (st' := [.ref 0, .int (1 : Int32), .int x3]) 3 rfl ?_
    refine kx_q_getI (k := 4) kmo_0 rfl kfl_X5_82 rfl ?_
    refine kx_go (pc' := 26) (L' := [some (.ref 0), some (.int x1), some (.int x2), some (.int x3)]) (st' := [.int ((1 : Int32) <<< ((M.1 0 4) &&& 31)), .int x3]) 1 rfl ?_
    refine kx_r_icmp_ge rfl (fun hc1 => ?_) (fun hc1 => ?_)
    · rw [if_pos hc1] at h
      refine kx_go (pc' := 66) (L' := [some (.ref 0), some (.int x1), some (.int x2), some (.int x3)]) (st' := [.int x2]) 1 rfl ?_
      cases h
      exact kx_r_iret rfl rfl
    · rw [if_neg hc1] at h
      refine kx_go (pc' := 32) (L' := [some (.ref 0), some (.int x1), some (.int x2), some (.int x3)]) (st' := [.int x3, .ref 0, .int x1]) 3 rfl ?_
      obtain ⟨v2, hv3, h⟩ := kx_bn_some h
      refine kx_q_callV (as := [.int x3]) (rest := [.int x1]) (M1 := M) (rv := some (.int v2)) kmo_0 rfl klk_X5_218 kse_X5_shownToAll rfl rfl rfl rfl (Nat.le_of_ble_eq_true rfl) (Nat.le_of_ble_eq_true rfl) (c_X5_shownToAll (d := d + 0) x3 M v2 hv3) ?_
      show kx_Rn _ _ _ (35, [some (.ref 0), some (.int x1), some (.int x2), some (.int x3)], [.int v2, .int x1], M) _ _
      refine kx_go (pc' := 38) (L' := [some (.ref 0), some (.int x1), some (.int x2), some (.int x3)]) (st' := [.int (x1 &&& (v2 ^^^ (-1 : Int32)))]) 3 rfl ?_
      refine kx_r_if_ne rfl (fun hc4 => ?_) (fun hc4 => ?_)
      · rw [if_neg hc4] at h
        refine kx_go (pc' := 62) (L' := [some (.ref 0), some (.int x1), some (.int x2), some (.int (x3 + (1)))]) (st' := []) 1 rfl ?_
        refine kx_r_goto rfl ?_
        refine kx_wk [true, true, true, true] ?_
        exact ih x1 x2 (x3 + (1)) M h
      · rw [if_pos hc4] at h
        refine kx_go (pc' := 43) (L' := [some (.ref 0), some (.int x1), some (.int x2), some (.int x3)]) (st' := [.int (-1 : Int32), .int x2]) 2 rfl ?_
        refine kx_r_icmp_eq rfl (fun hc5 => ?_) (fun hc5 => ?_)
        · rw [if_pos hc5] at h
          refine kx_go (pc' := 62) (L' := [some (.ref 0), some (.int x1), some (.int x3), some (.int (x3 + (1)))]) (st' := []) 3 rfl ?_
          refine kx_r_goto rfl ?_
          refine kx_wk [true, true, true, true] ?_
          exact ih x1 x3 (x3 + (1)) M h
        · rw [if_neg hc5] at h
          refine kx_go (pc' := 47) (L' := [some (.ref 0), some (.int x1), some (.int x2), some (.int x3)]) (st' := [.int x3]) 1 rfl ?_
          refine kx_r_callS (as := [.int x3]) (rest := []) (M1 := M) (rv := some (.int (f_J6_bitCount_0f7a4 x3))) rfl klk_X5_194 kst_J6_bitCount_0f7a4 rfl rfl (Nat.le_of_ble_eq_true rfl) (Nat.le_of_ble_eq_true rfl) (c_J6_bitCount_0f7a4 (d := d + 4) x3 M (f_J6_bitCount_0f7a4 x3) rfl) ?_
          show kx_Rn _ _ _ (50, [some (.ref 0), some (.int x1), some (.int x2), some (.int x3)], [.int (f_J6_bitCount_0f7a4 x3)], M) _ _
          refine kx_go (pc' := 51) (L' := [some (.ref 0), some (.int x1), some (.int x2), some (.int x3)]) (st' := [.int x2, .int (f_J6_bitCount_0f7a4 x3)]) 1 rfl ?_
          refine kx_r_callS (as := [.int x2]) (rest := [.int (f_J6_bitCount_0f7a4 x3)]) (M1 := M) (rv := some (.int (f_J6_bitCount_0f7a4 x2))) rfl klk_X5_194 kst_J6_bitCount_0f7a4 rfl rfl (Nat.le_of_ble_eq_true rfl) (Nat.le_of_ble_eq_true rfl) (c_J6_bitCount_0f7a4 (d := d + 4) x2 M (f_J6_bitCount_0f7a4 x2) rfl) ?_
          show kx_Rn _ _ _ (54, [some (.ref 0), some (.int x1), some (.int x2), some (.int x3)], [.int (f_J6_bitCount_0f7a4 x2), .int (f_J6_bitCount_0f7a4 x3)], M) _ _
          refine kx_r_icmp_ge rfl (fun hc6 => ?_) (fun hc6 => ?_)
          · rw [if_pos hc6] at h
            refine kx_go (pc' := 62) (L' := [some (.ref 0), some (.int x1), some (.int x2), some (.int (x3 + (1)))]) (st' := []) 1 rfl ?_
            refine kx_r_goto rfl ?_
            refine kx_wk [true, true, true, true] ?_
            exact ih x1 x2 (x3 + (1)) M h
          · rw [if_neg hc6] at h
            refine kx_go (pc' := 62) (L' := [some (.ref 0), some (.int x1), some (.int x3), some (.int (x3 + (1)))]) (st' := []) 3 rfl ?_
            refine kx_r_goto rfl ?_
            refine kx_wk [true, true, true, true] ?_
            exact ih x1 x3 (x3 + (1)) M h
set_option maxRecDepth 100000 in
set_option maxHeartbeats 4000000 in
theorem t_X5_fewest {d : Nat} {r : Int32} {M' : kx_M} (a0 : Int32) (M : kx_M) (h : f_X5_fewest a0 M = some (r, M')) : kx_Rn EM T_X5_fewest (d + 5) (0, [some (.ref 0), some (.int a0), none, none], [], M) (some (.int r)) M' := by
  unfold f_X5_fewest at h
  refine kx_go (pc' := 2) (L' := [some (.ref 0), some (.int a0), none, none]) (st' := [.int a0, .ref 0]) 2 rfl ?_
  refine kx_q_callV (as := [.int a0]) (rest := []) (M1 := M) (rv := some (.int (kx_bi (f_X5_areCells M a0)))) kmo_0 rfl klk_X5_239 kse_X5_areCells rfl rfl rfl rfl (Nat.le_of_ble_eq_true rfl) (Nat.le_of_ble_eq_true rfl) (c_X5_areCells (d := d + 3) a0 M (f_X5_areCells M a0) rfl) ?_
  show kx_Rn _ _ _ (5, [some (.ref 0), some (.int a0), none, none], [.int (kx_bi (f_X5_areCells M a0))], M) _ _
  refine kx_q_zne rfl (fun hc1 => ?_) (fun hc1 => ?_)
  · rw [if_pos hc1] at h
    refine kx_go (pc' := 19) (L' := [some (.ref 0), some (.int a0), some (.int (-1 : Int32)), some (.int (0 : Int32))]) (st' := []) 4 rfl ?_
    refine kx_wk [true, true, true, true] ?_
    exact t_X5_fewest_19 kx_fuel a0 (-1 : Int32) (0 : Int32) M h
  · rw [if_neg hc1] at h
    refine kx_go (pc' := 11) (L' := [some (.ref 0), some (.int a0), none, none]) (st' := [.int (-2 : Int32), .ref 0]) 2 rfl ?_
    obtain ⟨v2, M4, hv3, h⟩ := kx_bd_some h
    refine kx_q_callV (as := [.int (-2 : Int32)]) (rest := []) (M1 := M4) (rv := some (.int v2)) kmo_0 rfl klk_X5_89 kse_X5_no rfl rfl rfl rfl (Nat.le_of_ble_eq_true rfl) (Nat.le_of_ble_eq_true rfl) (c_X5_no (d := d + 4) (-2 : Int32) M v2 M4 hv3) ?_
    show kx_Rn _ _ _ (14, [some (.ref 0), some (.int a0), none, none], [.int v2], M4) _ _
    cases h
    exact kx_r_iret rfl rfl
theorem c_X5_fewest {d : Nat} (a0 : Int32) (M : kx_M) (r : Int32) (M' : kx_M) (h : f_X5_fewest a0 M = some (r, M')) : kx_Call EM (d + 5) T_X5_fewest [.ref 0, .int a0] M (some (.int r)) M' := kx_entry kok_X5_fewest (Nat.le_of_ble_eq_true rfl) rfl (t_X5_fewest (d := d) a0 M h)
set_option maxRecDepth 100000 in
set_option maxHeartbeats 4000000 in
theorem t_X5_orders_103 {d : Nat} {M' : kx_M} (rec : Int32 → Int32 → kx_M → Option kx_M) (hrec : ∀ (a0 : Int32) (a1 : Int32) (M : kx_M) (M' : kx_M), rec a0 a1 M = some M' → kx_Call EM (d + 4) T_X5_orders [.ref 0, .int a0, .int a1] M none M') : ∀ (n : Nat) (x1 : Int32) (x2 : Int32) (x3 : Int32) (M : kx_M), f_X5_orders_103 rec n x1 x2 x3 M = some M' → kx_Rn EM T_X5_orders (d + 5) (103, [some (.ref 0), some (.int x1), some (.int x2), some (.int x3), none], [], M) none M' := by
  intro n
  induction n with
  | zero =>
    intro x1 x2 x3 M h
    cases (show (none : Option kx_M) = some _ from h)
  | succ n ih =>
    intro x1 x2 x3 M h
    rw [f_X5_orders_103.eq_2] at h
    refine kx_go (pc' := 105) (L' := [some (.ref 0), some (.int x1), some (.int x2), some (.int x3), none]) (st' := [.ref 0, .int x3]) 2 rfl ?_
    refine kx_q_getI (k := 4) kmo_0 rfl kfl_X5_82 rfl ?_
    refine kx_r_icmp_ge rfl (fun hc1 => ?_) (fun hc1 => ?_)
    · rw [if_pos hc1] at h
      cases h
      exact kx_r_vret rfl rfl
    · rw [if_neg hc1] at h
      refine kx_go (pc' := 113) (L' := [some (.ref 0), some (.int x1), some (.int x2), some (.int x3), none]) (st' := [.int x3, .int x2]) 2 rfl ?_
      refine kx_r_callS (as := [.int x2, .int x3]) (rest := []) (M1 := M) (rv := some (.int (kx_bi (f_X5_has x2 x3)))) rfl klk_X5_199 kst_X5_has rfl rfl (Nat.le_of_ble_eq_true rfl) (Nat.le_of_ble_eq_true rfl) (c_X5_has (d := d + 4) x2 x3 M (f_X5_has x2 x3) rfl) ?_
      show kx_Rn _ _ _ (116, [some (.ref 0), some (.int x1), some (.int x2), some (.int x3), none], [.int (kx_bi (f_X5_has x2 x3))], M) _ _
      refine kx_q_zne rfl (fun hc2 => ?_) (fun hc2 => ?_)
      · rw [if_pos hc2] at h
        refine kx_go (pc' := 123) (L' := [some (.ref 0), some (.int x1), some (.int x2), some (.int x3), none]) (st' := [.ref 0]) 1 rfl ?_
        refine kx_q_getR (k := 25) (j := 17) kmo_0 rfl kfl_X5_59 rfl ?_
        refine kx_go (pc' := 128) (L' := [some (.ref 0), some (.int x1), some (.int x2), some (.int x3), none]) (st' := [.int x3, .int x1, .ref 17]) 2 rfl ?_
        obtain ⟨hi3, h⟩ := kx_ck_some h
        refine kx_q_iast (kma_17) rfl hi3 ?_
        refine kx_go (pc' := 140) (L' := [some (.ref 0), some (.int x1), some (.int x2), some (.int x3), none]) (st' := [.int (x2 &&& (((1 : Int32) <<< (x3 &&& 31)) ^^^ (-1 : Int32))), .int (x1 + (1 : Int32)), .ref 0]) 11 rfl ?_
        obtain ⟨M6, hv5, h⟩ := kx_bn_some h
        refine kx_q_callV (as := [.int (x1 + (1 : Int32)), .int (x2 &&& (((1 : Int32) <<< (x3 &&& 31)) ^^^ (-1 : Int32)))]) (rest := []) (M1 := M6) (rv := none) kmo_0 rfl klk_X5_249 kse_X5_orders rfl rfl rfl rfl (Nat.le_of_ble_eq_true rfl) (Nat.le_of_ble_eq_true rfl) (hrec (x1 + (1 : Int32)) (x2 &&& (((1 : Int32) <<< (x3 &&& 31)) ^^^ (-1 : Int32))) (kx_u1 M 17 (x1).toNatClampNeg x3) M6 hv5) ?_
        show kx_Rn _ _ _ (143, [some (.ref 0), some (.int x1), some (.int x2), some (.int x3), none], [], M6) _ _
        refine kx_go (pc' := 146) (L' := [some (.ref 0), some (.int x1), some (.int x2), some (.int (x3 + (1))), none]) (st' := []) 1 rfl ?_
        refine kx_r_goto rfl ?_
        refine kx_wk [true, true, true, true, false] ?_
        exact ih x1 x2 (x3 + (1)) M6 h
      · rw [if_neg hc2] at h
        refine kx_r_goto rfl ?_
        refine kx_go (pc' := 146) (L' := [some (.ref 0), some (.int x1), some (.int x2), some (.int (x3 + (1))), none]) (st' := []) 1 rfl ?_
        refine kx_r_goto rfl ?_
        refine kx_wk [true, true, true, true, false] ?_
        exact ih x1 x2 (x3 + (1)) M h
set_option maxRecDepth 100000 in
set_option maxHeartbeats 4000000 in
theorem t_X5_orders_74 {d : Nat} {M' : kx_M} (rec : Int32 → Int32 → kx_M → Option kx_M) (hrec : ∀ (a0 : Int32) (a1 : Int32) (M : kx_M) (M' : kx_M), rec a0 a1 M = some M' → kx_Call EM (d + 4) T_X5_orders [.ref 0, .int a0, .int a1] M none M') : ∀ (n : Nat) (x1 : Int32) (x4 : Int32) (M : kx_M), f_X5_orders_74 rec n x1 x4 M = some M' → kx_Rn EM T_X5_orders (d + 5) (74, [some (.ref 0), some (.int x1), none, none, some (.int x4)], [], M) none M' := by
  intro n
  induction n with
  | zero =>
    intro x1 x4 M h
    cases (show (none : Option kx_M) = some _ from h)
  | succ n ih =>
    intro x1 x4 M h
    rw [f_X5_orders_74.eq_2] at h
    refine kx_go (pc' := 77) (L' := [some (.ref 0), some (.int x1), none, none, some (.int x4)]) (st' := [.int x1, .int x4]) 2 rfl ?_
    refine kx_r_icmp_ge rfl (fun hc1 => ?_) (fun hc1 => ?_)
    · rw [if_pos hc1] at h
      cases h
      exact kx_r_vret rfl rfl
    · rw [if_neg hc1] at h
      refine kx_go (pc' := 81) (L' := [some (.ref 0), some (.int x1), none, none, some (.int x4)]) (st' := [.ref 0]) 1 rfl ?_
      refine kx_q_getR (k := 26) (j := 18) kmo_0 rfl kfl_X5_62 rfl ?_
      refine kx_go (pc' := 87) (L' := [some (.ref 0), some (.int x1), none, none, some (.int x4)]) (st' := [.ref 0, .int x4, .ref 18]) 2 rfl ?_
      refine kx_q_getR (k := 25) (j := 17) kmo_0 rfl kfl_X5_59 rfl ?_
      refine kx_go (pc' := 92) (L' := [some (.ref 0), some (.int x1), none, none, some (.int x4)]) (st' := [.int x4, .ref 17, .int x4, .ref 18]) 1 rfl ?_
      obtain ⟨hi2, h⟩ := kx_ck_some h
      refine kx_q_iald (kma_17) rfl hi2 ?_
      obtain ⟨hi3, h⟩ := kx_ck_some h
      refine kx_q_iast (kma_18) rfl hi3 ?_
      refine kx_go (pc' := 97) (L' := [some (.ref 0), some (.int x1), none, none, some (.int (x4 + (1)))]) (st' := []) 1 rfl ?_
      refine kx_r_goto rfl ?_
      refine kx_wk [true, true, false, false, true] ?_
      exact ih x1 (x4 + (1)) (kx_u1 M 18 (x4).toNatClampNeg (M.1 17 (x4).toNatClampNeg)) h
set_option maxRecDepth 100000 in
set_option maxHeartbeats 4000000 in
theorem t_X5_orders_14 {d : Nat} {M' : kx_M} (rec : Int32 → Int32 → kx_M → Option kx_M) (hrec : ∀ (a0 : Int32) (a1 : Int32) (M : kx_M) (M' : kx_M), rec a0 a1 M = some M' → kx_Call EM (d + 4) T_X5_orders [.ref 0, .int a0, .int a1] M none M') : ∀ (n : Nat) (x1 : Int32) (x3 : Int32) (M : kx_M), f_X5_orders_14 rec n x1 x3 M = some M' → kx_Rn EM T_X5_orders (d + 5) (14, [some (.ref 0), some (.int x1), none, some (.int x3), none], [], M) none M' := by
  intro n
  induction n with
  | zero =>
    intro x1 x3 M h
    cases (show (none : Option kx_M) = some _ from h)
  | succ n ih =>
    intro x1 x3 M h
    rw [f_X5_orders_14.eq_2] at h
    refine kx_go (pc' := 16) (L' := [some (.ref 0), some (.int x1), none, some (.int x3), none]) (st' := [.int x1, .int x3]) 2 rfl ?_
    refine kx_r_icmp_ge rfl (fun hc1 => ?_) (fun hc1 => ?_)
    · rw [if_pos hc1] at h
      refine kx_go (pc' := 39) (L' := [some (.ref 0), some (.int x1), none, some (.int x3), none]) (st' := [.ref 0, .ref 0]) 2 rfl ?_
      refine kx_q_callV (as := []) (rest := [.ref 0]) (M1 := M) (rv := some (.int (f_X5_all M))) kmo_0 rfl klk_X5_221 kse_X5_all rfl rfl rfl rfl (Nat.le_of_ble_eq_true rfl) (Nat.le_of_ble_eq_true rfl) (c_X5_all (d := d + 4) M (f_X5_all M) rfl) ?_
      show kx_Rn _ _ _ (42, [some (.ref 0), some (.int x1), none, some (.int x3), none], [.int (f_X5_all M), .ref 0], M) _ _
      obtain ⟨v2, hv3, h⟩ := kx_bn_some h
      refine kx_q_callV (as := [.int (f_X5_all M)]) (rest := []) (M1 := M) (rv := some (.int v2)) kmo_0 rfl klk_X5_224 kse_X5_knownBy rfl rfl rfl rfl (Nat.le_of_ble_eq_true rfl) (Nat.le_of_ble_eq_true rfl) (c_X5_knownBy (d := d + 3) (f_X5_all M) M v2 hv3) ?_
      show kx_Rn _ _ _ (45, [some (.ref 0), some (.int x1), none, some (.int x3), none], [.int v2], M) _ _
      refine kx_r_callS (as := [.int v2]) (rest := []) (M1 := M) (rv := some (.int (f_J6_bitCount_0f7a4 v2))) rfl klk_X5_194 kst_J6_bitCount_0f7a4 rfl rfl (Nat.le_of_ble_eq_true rfl) (Nat.le_of_ble_eq_true rfl) (c_J6_bitCount_0f7a4 (d := d + 4) v2 M (f_J6_bitCount_0f7a4 v2) rfl) ?_
      show kx_Rn _ _ _ (48, [some (.ref 0), some (.int x1), none, some (.int x3), none], [.int (f_J6_bitCount_0f7a4 v2)], M) _ _
      refine kx_go (pc' := 51) (L' := [some (.ref 0), some (.int x1), none, some (.int (f_J6_bitCount_0f7a4 v2)), none]) (st' := [.ref 0, .ref 0]) 3 rfl ?_
      refine kx_q_getR (k := 23) (j := 15) kmo_0 rfl kfl_X5_53 rfl ?_
      obtain ⟨M6, hv5, h⟩ := kx_bn_some h
      refine kx_q_callV (as := [.ref 15]) (rest := []) (M1 := M6) (rv := none) kmo_0 rfl klk_X5_191 kse_X5_again rfl rfl rfl rfl (Nat.le_of_ble_eq_true rfl) (Nat.le_of_ble_eq_true rfl) (c_X5_again (d := d + 4) 15 (kma_15) M M6 hv5) ?_
      show kx_Rn _ _ _ (57, [some (.ref 0), some (.int x1), none, some (.int (f_J6_bitCount_0f7a4 v2)), none], [], M6) _ _
      refine kx_go (pc' := 59) (L' := [some (.ref 0), some (.int x1), none, some (.int (f_J6_bitCount_0f7a4 v2)), none]) (st' := [.ref 0, .int (f_J6_bitCount_0f7a4 v2)]) 2 rfl ?_
      refine kx_q_getI (k := 27) kmo_0 rfl kfl_X5_246 rfl ?_
      refine kx_r_icmp_gt rfl (fun hc7 => ?_) (fun hc7 => ?_)
      · rw [if_pos hc7] at h
        refine kx_go (pc' := 68) (L' := [some (.ref 0), some (.int x1), none, some (.int (f_J6_bitCount_0f7a4 v2)), none]) (st' := [.int (f_J6_bitCount_0f7a4 v2), .ref 0]) 2 rfl ?_
        refine kx_q_putI (k := 27) kmo_0 rfl kfw_X5_246 rfl ?_
        refine kx_go (pc' := 74) (L' := [some (.ref 0), some (.int x1), none, some (.int (f_J6_bitCount_0f7a4 v2)), some (.int (0 : Int32))]) (st' := []) 2 rfl ?_
        refine kx_wk [true, true, false, false, true] ?_
        exact t_X5_orders_74 rec hrec kx_fuel x1 (0 : Int32) (kx_u1 M6 0 27 (f_J6_bitCount_0f7a4 v2)) h
      · rw [if_neg hc7] at h
        cases h
        exact kx_r_vret rfl rfl
    · rw [if_neg hc1] at h
      refine kx_go (pc' := 22) (L' := [some (.ref 0), some (.int x1), none, some (.int x3), none]) (st' := [.ref 0, .int (1 : Int32), .ref 0]) 3 rfl ?_
      refine kx_q_getR (k := 25) (j := 17) kmo_0 rfl kfl_X5_59 rfl ?_
      refine kx_go (pc' := 26) (L' := [some (.ref 0), some (.int x1), none, some (.int x3), none]) (st' := [.int x3, .ref 17, .int (1 : Int32), .ref 0]) 1 rfl ?_
      obtain ⟨hi8, h⟩ := kx_ck_some h
      refine kx_q_iald (kma_17) rfl hi8 ?_
      refine kx_go (pc' := 28) (L' := [some (.ref 0), some (.int x1), none, some (.int x3), none]) (st' := [.int ((1 : Int32) <<< ((M.1 17 (x3).toNatClampNeg) &&& 31)), .ref 0]) 1 rfl ?_
      obtain ⟨M11, hv10, h⟩ := kx_bn_some h
      refine kx_q_callV (as := [.int ((1 : Int32) <<< ((M.1 17 (x3).toNatClampNeg) &&& 31))]) (rest := []) (M1 := M11) (rv := none) kmo_0 rfl klk_X5_242 kse_X5_goes rfl rfl rfl rfl (Nat.le_of_ble_eq_true rfl) (Nat.le_of_ble_eq_true rfl) (c_X5_goes (d := d + 0) ((1 : Int32) <<< ((M.1 17 (x3).toNatClampNeg) &&& 31)) M M11 hv10) ?_
      show kx_Rn _ _ _ (31, [some (.ref 0), some (.int x1), none, some (.int x3), none], [], M11) _ _
      refine kx_go (pc' := 34) (L' := [some (.ref 0), some (.int x1), none, some (.int (x3 + (1))), none]) (st' := []) 1 rfl ?_
      refine kx_r_goto rfl ?_
      refine kx_wk [true, true, false, true, false] ?_
      exact ih x1 (x3 + (1)) M11 h
set_option maxRecDepth 100000 in
set_option maxHeartbeats 4000000 in
theorem t_X5_orders {d : Nat} {M' : kx_M} (rec : Int32 → Int32 → kx_M → Option kx_M) (hrec : ∀ (a0 : Int32) (a1 : Int32) (M : kx_M) (M' : kx_M), rec a0 a1 M = some M' → kx_Call EM (d + 4) T_X5_orders [.ref 0, .int a0, .int a1] M none M') (a0 : Int32) (a1 : Int32) (M : kx_M) (h : f_X5_orders_b rec a0 a1 M = some M') : kx_Rn EM T_X5_orders (d + 5) (0, [some (.ref 0), some (.int a0), some (.int a1), none, none], [], M) none M' := by
  unfold f_X5_orders_b at h
  refine kx_go (pc' := 1) (L' := [some (.ref 0), some (.int a0), some (.int a1), none, none]) (st' := [.int a1]) 1 rfl ?_
  refine kx_r_if_ne rfl (fun hc1 => ?_) (fun hc1 => ?_)
  · rw [if_neg hc1] at h
    refine kx_go (pc' := 103) (L' := [some (.ref 0), some (.int a0), some (.int a1), some (.int (0 : Int32)), none]) (st' := []) 2 rfl ?_
    refine kx_wk [true, true, true, true, false] ?_
    exact t_X5_orders_103 rec hrec kx_fuel a0 a1 (0 : Int32) M h
  · rw [if_pos hc1] at h
    refine kx_go (pc' := 6) (L' := [some (.ref 0), some (.int a0), some (.int a1), none, none]) (st' := [.ref 0, .ref 0]) 2 rfl ?_
    refine kx_q_getR (k := 23) (j := 15) kmo_0 rfl kfl_X5_53 rfl ?_
    obtain ⟨M4, hv3, h⟩ := kx_bn_some h
    refine kx_q_callV (as := [.ref 15]) (rest := []) (M1 := M4) (rv := none) kmo_0 rfl klk_X5_184 kse_X5_keep rfl rfl rfl rfl (Nat.le_of_ble_eq_true rfl) (Nat.le_of_ble_eq_true rfl) (c_X5_keep (d := d + 4) 15 (kma_15) M M4 hv3) ?_
    show kx_Rn _ _ _ (12, [some (.ref 0), some (.int a0), some (.int a1), none, none], [], M4) _ _
    refine kx_go (pc' := 14) (L' := [some (.ref 0), some (.int a0), some (.int a1), some (.int (0 : Int32)), none]) (st' := []) 2 rfl ?_
    refine kx_wk [true, true, false, true, false] ?_
    exact t_X5_orders_14 rec hrec kx_fuel a0 (0 : Int32) M4 h
theorem cr_X5_orders {d : Nat} : ∀ (n : Nat) (a0 : Int32) (a1 : Int32) (M : kx_M) (M' : kx_M), f_X5_orders n a0 a1 M = some M' → kx_Call EM (d + n + 4) T_X5_orders [.ref 0, .int a0, .int a1] M none M' := by
  intro n
  induction n with
  | zero =>
    intro a0 a1 M M' h
    cases (show (none : Option kx_M) = some _ from h)
  | succ n ih =>
    intro a0 a1 M M' h
    rw [f_X5_orders.eq_2] at h
    rw [show d + (n + 1) + 4 = d + n + 5 by omega]
    exact kx_entry kok_X5_orders (Nat.le_of_ble_eq_true rfl) rfl (t_X5_orders (d := d + n) _ (fun a0 a1 M M' h => ih a0 a1 M M' h) a0 a1 M h)
theorem c_X5_orders {d : Nat} (a0 : Int32) (a1 : Int32) (M : kx_M) (M' : kx_M) (h : f_X5_orders 8 a0 a1 M = some M') : kx_Call EM (d + 12) T_X5_orders [.ref 0, .int a0, .int a1] M none M' := cr_X5_orders (d := d) 8 a0 a1 M M' h
set_option maxRecDepth 100000 in
set_option maxHeartbeats 4000000 in
theorem t_X5_order {d : Nat} {r : Int32} {M' : kx_M} (a0 : Int32) (a1 : Int32) (M : kx_M) (h : f_X5_order a0 a1 M = some (r, M')) : kx_Rn EM T_X5_order (d + 13) (0, [some (.ref 0), some (.int a0), some (.int a1)], [], M) (some (.int r)) M' := by
  unfold f_X5_order at h
  refine kx_go (pc' := 2) (L' := [some (.ref 0), some (.int a0), some (.int a1)]) (st' := [.int a0, .ref 0]) 2 rfl ?_
  refine kx_q_callV (as := [.int a0]) (rest := []) (M1 := M) (rv := some (.int (kx_bi (f_X5_isGroup M a0)))) kmo_0 rfl klk_X5_233 kse_X5_isGroup rfl rfl rfl rfl (Nat.le_of_ble_eq_true rfl) (Nat.le_of_ble_eq_true rfl) (c_X5_isGroup (d := d + 11) a0 M (f_X5_isGroup M a0) rfl) ?_
  show kx_Rn _ _ _ (5, [some (.ref 0), some (.int a0), some (.int a1)], [.int (kx_bi (f_X5_isGroup M a0))], M) _ _
  refine kx_q_zeq rfl (fun hc1 => ?_) (fun hc1 => ?_)
  · rw [if_neg hc1] at h
    refine kx_go (pc' := 25) (L' := [some (.ref 0), some (.int a0), some (.int a1)]) (st' := [.int (-2 : Int32), .ref 0]) 2 rfl ?_
    obtain ⟨v2, M4, hv3, h⟩ := kx_bd_some h
    refine kx_q_callV (as := [.int (-2 : Int32)]) (rest := []) (M1 := M4) (rv := some (.int v2)) kmo_0 rfl klk_X5_89 kse_X5_no rfl rfl rfl rfl (Nat.le_of_ble_eq_true rfl) (Nat.le_of_ble_eq_true rfl) (c_X5_no (d := d + 12) (-2 : Int32) M v2 M4 hv3) ?_
    show kx_Rn _ _ _ (28, [some (.ref 0), some (.int a0), some (.int a1)], [.int v2], M4) _ _
    cases h
    exact kx_r_iret rfl rfl
  · rw [if_pos hc1] at h
    refine kx_go (pc' := 9) (L' := [some (.ref 0), some (.int a0), some (.int a1)]) (st' := [.int a0]) 1 rfl ?_
    refine kx_r_callS (as := [.int a0]) (rest := []) (M1 := M) (rv := some (.int (f_J6_bitCount_0f7a4 a0))) rfl klk_X5_194 kst_J6_bitCount_0f7a4 rfl rfl (Nat.le_of_ble_eq_true rfl) (Nat.le_of_ble_eq_true rfl) (c_J6_bitCount_0f7a4 (d := d + 12) a0 M (f_J6_bitCount_0f7a4 a0) rfl) ?_
    show kx_Rn _ _ _ (12, [some (.ref 0), some (.int a0), some (.int a1)], [.int (f_J6_bitCount_0f7a4 a0)], M) _ _
    refine kx_go (pc' := 14) (L' := [some (.ref 0), some (.int a0), some (.int a1)]) (st' := [.int (6 : Int32), .int (f_J6_bitCount_0f7a4 a0)]) 1 rfl ?_
    refine kx_r_icmp_gt rfl (fun hc5 => ?_) (fun hc5 => ?_)
    · rw [if_pos hc5] at h
      refine kx_go (pc' := 25) (L' := [some (.ref 0), some (.int a0), some (.int a1)]) (st' := [.int (-2 : Int32), .ref 0]) 2 rfl ?_
      obtain ⟨v6, M8, hv7, h⟩ := kx_bd_some h
      refine kx_q_callV (as := [.int (-2 : Int32)]) (rest := []) (M1 := M8) (rv := some (.int v6)) kmo_0 rfl klk_X5_89 kse_X5_no rfl rfl rfl rfl (Nat.le_of_ble_eq_true rfl) (Nat.le_of_ble_eq_true rfl) (c_X5_no (d := d + 12) (-2 : Int32) M v6 M8 hv7) ?_
      show kx_Rn _ _ _ (28, [some (.ref 0), some (.int a0), some (.int a1)], [.int v6], M8) _ _
      cases h
      exact kx_r_iret rfl rfl
    · rw [if_neg hc5] at h
      refine kx_go (pc' := 19) (L' := [some (.ref 0), some (.int a0), some (.int a1)]) (st' := [.int (-1 : Int32), .int a1]) 2 rfl ?_
      refine kx_r_icmp_ge rfl (fun hc9 => ?_) (fun hc9 => ?_)
      · rw [if_pos hc9] at h
        refine kx_go (pc' := 31) (L' := [some (.ref 0), some (.int a0), some (.int a1)]) (st' := [.int a0, .int a1]) 2 rfl ?_
        refine kx_r_callS (as := [.int a0]) (rest := [.int a1]) (M1 := M) (rv := some (.int (f_J6_bitCount_0f7a4 a0))) rfl klk_X5_194 kst_J6_bitCount_0f7a4 rfl rfl (Nat.le_of_ble_eq_true rfl) (Nat.le_of_ble_eq_true rfl) (c_J6_bitCount_0f7a4 (d := d + 12) a0 M (f_J6_bitCount_0f7a4 a0) rfl) ?_
        show kx_Rn _ _ _ (34, [some (.ref 0), some (.int a0), some (.int a1)], [.int (f_J6_bitCount_0f7a4 a0), .int a1], M) _ _
        refine kx_r_icmp_lt rfl (fun hc10 => ?_) (fun hc10 => ?_)
        · rw [if_pos hc10] at h
          refine kx_go (pc' := 46) (L' := [some (.ref 0), some (.int a0), some (.int a1)]) (st' := [.int (-1 : Int32), .ref 0]) 2 rfl ?_
          refine kx_q_putI (k := 27) kmo_0 rfl kfw_X5_246 rfl ?_
          refine kx_go (pc' := 52) (L' := [some (.ref 0), some (.int a0), some (.int a1)]) (st' := [.int a0, .int (0 : Int32), .ref 0]) 3 rfl ?_
          obtain ⟨M13, hv12, h⟩ := kx_bn_some h
          refine kx_q_callV (as := [.int (0 : Int32), .int a0]) (rest := []) (M1 := M13) (rv := none) kmo_0 rfl klk_X5_249 kse_X5_orders rfl rfl rfl rfl (Nat.le_of_ble_eq_true rfl) (Nat.le_of_ble_eq_true rfl) (c_X5_orders (d := d + 0) (0 : Int32) a0 (kx_u1 M 0 27 (-1 : Int32)) M13 hv12) ?_
          show kx_Rn _ _ _ (55, [some (.ref 0), some (.int a0), some (.int a1)], [], M13) _ _
          refine kx_go (pc' := 57) (L' := [some (.ref 0), some (.int a0), some (.int a1)]) (st' := [.int (-1 : Int32), .int a1]) 2 rfl ?_
          refine kx_r_icmp_ne rfl (fun hc14 => ?_) (fun hc14 => ?_)
          · rw [if_neg hc14] at h
            refine kx_go (pc' := 68) (L' := [some (.ref 0), some (.int a0), some (.int a1)]) (st' := [.ref 0]) 1 rfl ?_
            refine kx_q_getR (k := 26) (j := 18) kmo_0 rfl kfl_X5_62 rfl ?_
            refine kx_go (pc' := 72) (L' := [some (.ref 0), some (.int a0), some (.int a1)]) (st' := [.int a1, .ref 18]) 1 rfl ?_
            obtain ⟨hi15, h⟩ := kx_ck_some h
            refine kx_q_iald (kma_18) rfl hi15 ?_
            cases h
            exact kx_r_iret rfl rfl
          · rw [if_pos hc14] at h
            refine kx_go (pc' := 61) (L' := [some (.ref 0), some (.int a0), some (.int a1)]) (st' := [.ref 0]) 1 rfl ?_
            refine kx_q_getI (k := 27) kmo_0 rfl kfl_X5_246 rfl ?_
            refine kx_r_goto rfl ?_
            cases h
            exact kx_r_iret rfl rfl
        · rw [if_neg hc10] at h
          refine kx_go (pc' := 40) (L' := [some (.ref 0), some (.int a0), some (.int a1)]) (st' := [.int (-5 : Int32), .ref 0]) 2 rfl ?_
          obtain ⟨v16, M18, hv17, h⟩ := kx_bd_some h
          refine kx_q_callV (as := [.int (-5 : Int32)]) (rest := []) (M1 := M18) (rv := some (.int v16)) kmo_0 rfl klk_X5_89 kse_X5_no rfl rfl rfl rfl (Nat.le_of_ble_eq_true rfl) (Nat.le_of_ble_eq_true rfl) (c_X5_no (d := d + 12) (-5 : Int32) M v16 M18 hv17) ?_
          show kx_Rn _ _ _ (43, [some (.ref 0), some (.int a0), some (.int a1)], [.int v16], M18) _ _
          cases h
          exact kx_r_iret rfl rfl
      · rw [if_neg hc9] at h
        refine kx_go (pc' := 25) (L' := [some (.ref 0), some (.int a0), some (.int a1)]) (st' := [.int (-2 : Int32), .ref 0]) 2 rfl ?_
        obtain ⟨v19, M21, hv20, h⟩ := kx_bd_some h
        refine kx_q_callV (as := [.int (-2 : Int32)]) (rest := []) (M1 := M21) (rv := some (.int v19)) kmo_0 rfl klk_X5_89 kse_X5_no rfl rfl rfl rfl (Nat.le_of_ble_eq_true rfl) (Nat.le_of_ble_eq_true rfl) (c_X5_no (d := d + 12) (-2 : Int32) M v19 M21 hv20) ?_
        show kx_Rn _ _ _ (28, [some (.ref 0), some (.int a0), some (.int a1)], [.int v19], M21) _ _
        cases h
        exact kx_r_iret rfl rfl
theorem c_X5_order {d : Nat} (a0 : Int32) (a1 : Int32) (M : kx_M) (r : Int32) (M' : kx_M) (h : f_X5_order a0 a1 M = some (r, M')) : kx_Call EM (d + 13) T_X5_order [.ref 0, .int a0, .int a1] M (some (.int r)) M' := kx_entry kok_X5_order (Nat.le_of_ble_eq_true rfl) rfl (t_X5_order (d := d) a0 a1 M h)
set_option maxRecDepth 100000 in
set_option maxHeartbeats 4000000 in
theorem t_X5_how_37 {d : Nat} {r : Int32} {M' : kx_M} : ∀ (n : Nat) (x1 : Int32) (x2 : Int32) (x3 : Int32) (x4 : Int32) (x5 : Int32) (M : kx_M), f_X5_how_37 n x1 x2 x3 x4 x5 M = some (r, M') → kx_Rn EM T_X5_how (d + 5) (37, [some (.ref 0), some (.int x1), some (.int x2), some (.int x3), some (.int x4), some (.int x5)], [], M) (some (.int r)) M' := by
  intro n
  induction n with
  | zero =>
    intro x1 x2 x3 x4 x5 M h
    cases (show (none : Option (Int32 × kx_M)) = some _ from h)
  | succ n ih =>
    intro x1 x2 x3 x4 x5 M h
    rw [f_X5_how_37.eq_2] at h
    refine kx_go (pc' := 39) (L' := [some (.ref 0), some (.int x1), some (.int x2), some (.int x3), some (.int x4), some (.int x5)]) (st' := [.int x5]) 1 rfl ?_
    refine kx_r_if_lt rfl (fun hc1 => ?_) (fun hc1 => ?_)
    · rw [if_pos hc1] at h
      refine kx_go (pc' := 73) (L' := [some (.ref 0), some (.int x1), some (.int x2), some (.int x3), some (.int x4), some (.int x5)]) (st' := [.ref 0]) 1 rfl ?_
      refine kx_q_getR (k := 7) (j := 6) kmo_0 rfl kfl_X5_25 rfl ?_
      refine kx_go (pc' := 78) (L' := [some (.ref 0), some (.int x1), some (.int x2), some (.int x3), some (.int x4), some (.int x5)]) (st' := [.int x3, .int x1, .ref 6]) 2 rfl ?_
      obtain ⟨hi2, h⟩ := kx_ck_some h
      refine kx_q_iast (kma_6) rfl hi2 ?_
      refine kx_go (pc' := 81) (L' := [some (.ref 0), some (.int x1), some (.int x2), some (.int x3), some (.int x4), some (.int x5)]) (st' := [.int x4]) 1 rfl ?_
      cases h
      exact kx_r_iret rfl rfl
    · rw [if_neg hc1] at h
      refine kx_go (pc' := 43) (L' := [some (.ref 0), some (.int x1), some (.int x2), some (.int x3), some (.int x4), some (.int x5)]) (st' := [.ref 0]) 1 rfl ?_
      refine kx_q_getR (k := 7) (j := 6) kmo_0 rfl kfl_X5_25 rfl ?_
      refine kx_go (pc' := 49) (L' := [some (.ref 0), some (.int x1), some (.int x2), some (.int x3), some (.int x4), some (.int x5)]) (st' := [.int x5, .int x1, .ref 6]) 2 rfl ?_
      obtain ⟨hi3, h⟩ := kx_ck_some h
      refine kx_q_iast (kma_6) rfl hi3 ?_
      refine kx_go (pc' := 52) (L' := [some (.ref 0), some (.int x1), some (.int x2), some (.int x3), some (.int x4), some (.int x5)]) (st' := [.int x1, .ref 0]) 2 rfl ?_
      obtain ⟨v4, hv5, h⟩ := kx_bn_some h
      refine kx_q_callV (as := [.int x1]) (rest := []) (M1 := (kx_u1 M 6 (x1).toNatClampNeg x5)) (rv := some (.int v4)) kmo_0 rfl klk_X5_253 kse_X5_shownAlone rfl rfl rfl rfl (Nat.le_of_ble_eq_true rfl) (Nat.le_of_ble_eq_true rfl) (c_X5_shownAlone (d := d + 0) x1 (kx_u1 M 6 (x1).toNatClampNeg x5) v4 hv5) ?_
      show kx_Rn _ _ _ (55, [some (.ref 0), some (.int x1), some (.int x2), some (.int x3), some (.int x4), some (.int x5)], [.int v4], (kx_u1 M 6 (x1).toNatClampNeg x5)) _ _
      refine kx_go (pc' := 56) (L' := [some (.ref 0), some (.int x1), some (.int x2), some (.int x3), some (.int x4), some (.int x5)]) (st' := [.int x2, .int v4]) 1 rfl ?_
      refine kx_r_callS (as := [.int v4, .int x2]) (rest := []) (M1 := (kx_u1 M 6 (x1).toNatClampNeg x5)) (rv := some (.int (kx_bi (f_X5_has v4 x2)))) rfl klk_X5_199 kst_X5_has rfl rfl (Nat.le_of_ble_eq_true rfl) (Nat.le_of_ble_eq_true rfl) (c_X5_has (d := d + 4) v4 x2 (kx_u1 M 6 (x1).toNatClampNeg x5) (f_X5_has v4 x2) rfl) ?_
      show kx_Rn _ _ _ (59, [some (.ref 0), some (.int x1), some (.int x2), some (.int x3), some (.int x4), some (.int x5)], [.int (kx_bi (f_X5_has v4 x2))], (kx_u1 M 6 (x1).toNatClampNeg x5)) _ _
      refine kx_q_zeq rfl (fun hc6 => ?_) (fun hc6 => ?_)
      · rw [if_neg hc6] at h
        refine kx_go (pc' := 69) (L' := [some (.ref 0), some (.int x1), some (.int x2), some (.int x3), some (.int x4), some (.int (x5 + (-1)))]) (st' := []) 1 rfl ?_
        refine kx_r_goto rfl ?_
        refine kx_wk [true, true, true, true, true, true] ?_
        exact ih x1 x2 x3 x4 (x5 + (-1)) (kx_u1 M 6 (x1).toNatClampNeg x5) h
      · rw [if_pos hc6] at h
        refine kx_go (pc' := 69) (L' := [some (.ref 0), some (.int x1), some (.int x2), some (.int x3), some (.int x5), some (.int (x5 + (-1)))]) (st' := []) 3 rfl ?_
        refine kx_r_goto rfl ?_
        refine kx_wk [true, true, true, true, true, true] ?_
        exact ih x1 x2 x3 x5 (x5 + (-1)) (kx_u1 M 6 (x1).toNatClampNeg x5) h
set_option maxRecDepth 100000 in
set_option maxHeartbeats 4000000 in
theorem t_X5_how {d : Nat} {r : Int32} {M' : kx_M} (a0 : Int32) (a1 : Int32) (M : kx_M) (h : f_X5_how a0 a1 M = some (r, M')) : kx_Rn EM T_X5_how (d + 5) (0, [some (.ref 0), some (.int a0), some (.int a1), none, none, none], [], M) (some (.int r)) M' := by
  unfold f_X5_how at h
  refine kx_go (pc' := 2) (L' := [some (.ref 0), some (.int a0), some (.int a1), none, none, none]) (st' := [.int a0, .ref 0]) 2 rfl ?_
  refine kx_q_callV (as := [.int a0]) (rest := []) (M1 := M) (rv := some (.int (kx_bi (f_X5_isOne M a0)))) kmo_0 rfl klk_X5_103 kse_X5_isOne rfl rfl rfl rfl (Nat.le_of_ble_eq_true rfl) (Nat.le_of_ble_eq_true rfl) (c_X5_isOne (d := d + 3) a0 M (f_X5_isOne M a0) rfl) ?_
  show kx_Rn _ _ _ (5, [some (.ref 0), some (.int a0), some (.int a1), none, none, none], [.int (kx_bi (f_X5_isOne M a0))], M) _ _
  refine kx_q_zeq rfl (fun hc1 => ?_) (fun hc1 => ?_)
  · rw [if_neg hc1] at h
    refine kx_go (pc' := 19) (L' := [some (.ref 0), some (.int a0), some (.int a1), none, none, none]) (st' := [.int (-2 : Int32), .ref 0]) 2 rfl ?_
    obtain ⟨v2, M4, hv3, h⟩ := kx_bd_some h
    refine kx_q_callV (as := [.int (-2 : Int32)]) (rest := []) (M1 := M4) (rv := some (.int v2)) kmo_0 rfl klk_X5_89 kse_X5_no rfl rfl rfl rfl (Nat.le_of_ble_eq_true rfl) (Nat.le_of_ble_eq_true rfl) (c_X5_no (d := d + 4) (-2 : Int32) M v2 M4 hv3) ?_
    show kx_Rn _ _ _ (22, [some (.ref 0), some (.int a0), some (.int a1), none, none, none], [.int v2], M4) _ _
    cases h
    exact kx_r_iret rfl rfl
  · rw [if_pos hc1] at h
    refine kx_go (pc' := 10) (L' := [some (.ref 0), some (.int a0), some (.int a1), none, none, none]) (st' := [.int a1, .ref 0]) 2 rfl ?_
    refine kx_q_callV (as := [.int a1]) (rest := []) (M1 := M) (rv := some (.int (kx_bi (f_X5_isCell M a1)))) kmo_0 rfl klk_X5_120 kse_X5_isCell rfl rfl rfl rfl (Nat.le_of_ble_eq_true rfl) (Nat.le_of_ble_eq_true rfl) (c_X5_isCell (d := d + 3) a1 M (f_X5_isCell M a1) rfl) ?_
    show kx_Rn _ _ _ (13, [some (.ref 0), some (.int a0), some (.int a1), none, none, none], [.int (kx_bi (f_X5_isCell M a1))], M) _ _
    refine kx_q_zne rfl (fun hc5 => ?_) (fun hc5 => ?_)
    · rw [if_pos hc5] at h
      refine kx_go (pc' := 24) (L' := [some (.ref 0), some (.int a0), some (.int a1), none, none, none]) (st' := [.ref 0]) 1 rfl ?_
      refine kx_q_getR (k := 7) (j := 6) kmo_0 rfl kfl_X5_25 rfl ?_
      refine kx_go (pc' := 28) (L' := [some (.ref 0), some (.int a0), some (.int a1), none, none, none]) (st' := [.int a0, .ref 6]) 1 rfl ?_
      obtain ⟨hi6, h⟩ := kx_ck_some h
      refine kx_q_iald (kma_6) rfl hi6 ?_
      refine kx_go (pc' := 37) (L' := [some (.ref 0), some (.int a0), some (.int a1), some (.int (M.1 6 (a0).toNatClampNeg)), some (.int (-1 : Int32)), some (.int (20 : Int32))]) (st' := []) 5 rfl ?_
      refine kx_wk [true, true, true, true, true, true] ?_
      exact t_X5_how_37 kx_fuel a0 a1 (M.1 6 (a0).toNatClampNeg) (-1 : Int32) (20 : Int32) M h
    · rw [if_neg hc5] at h
      refine kx_go (pc' := 19) (L' := [some (.ref 0), some (.int a0), some (.int a1), none, none, none]) (st' := [.int (-2 : Int32), .ref 0]) 2 rfl ?_
      obtain ⟨v7, M9, hv8, h⟩ := kx_bd_some h
      refine kx_q_callV (as := [.int (-2 : Int32)]) (rest := []) (M1 := M9) (rv := some (.int v7)) kmo_0 rfl klk_X5_89 kse_X5_no rfl rfl rfl rfl (Nat.le_of_ble_eq_true rfl) (Nat.le_of_ble_eq_true rfl) (c_X5_no (d := d + 4) (-2 : Int32) M v7 M9 hv8) ?_
      show kx_Rn _ _ _ (22, [some (.ref 0), some (.int a0), some (.int a1), none, none, none], [.int v7], M9) _ _
      cases h
      exact kx_r_iret rfl rfl
theorem c_X5_how {d : Nat} (a0 : Int32) (a1 : Int32) (M : kx_M) (r : Int32) (M' : kx_M) (h : f_X5_how a0 a1 M = some (r, M')) : kx_Call EM (d + 5) T_X5_how [.ref 0, .int a0, .int a1] M (some (.int r)) M' := kx_entry kok_X5_how (Nat.le_of_ble_eq_true rfl) rfl (t_X5_how (d := d) a0 a1 M h)
set_option maxRecDepth 100000 in
set_option maxHeartbeats 4000000 in
theorem t_X5_lifted_72 {d : Nat} {r : Int32} {M' : kx_M} (k46 : Int32 → Int32 → Int32 → Int32 → Int32 → Int32 → kx_M → Option (Int32 × kx_M)) (hk46 : ∀ (x1 : Int32) (x2 : Int32) (x3 : Int32) (x4 : Int32) (x5 : Int32) (x6 : Int32) (M : kx_M), k46 x1 x2 x3 x4 x5 x6 M = some (r, M') → kx_Rn EM T_X5_lifted (d + 5) (46, [some (.ref 0), some (.int x1), some (.int x2), some (.int x3), some (.int x4), some (.int x5), some (.int x6)], [], M) (some (.int r)) M') (x1 : Int32) (x2 : Int32) (x3 : Int32) (x4 : Int32) (x5 : Int32) (x6 : Int32) (s0 : Int32) (s1 : Int32) (M : kx_M) (h : f_X5_lifted_72 k46 x1 x2 x3 x4 x5 x6 s0 s1 M = some (r, M')) : kx_Rn EM T_X5_lifted (d + 5) (72, [some (.ref 0), some (.int x1), some (.int x2), some (.int x3), some (.int x4), some (.int x5), some (.int x6)], [.int s0, .int s1, .ref 3], M) (some (.int r)) M' := by
  unfold f_X5_lifted_72 at h
  obtain ⟨hi1, h⟩ := kx_ck_some h
  refine kx_q_iast (kma_3) rfl hi1 ?_
  refine kx_go (pc' := 75) (L' := [some (.ref 0), some (.int x1), some (.int x2), some (.int x3), some (.int x4), some (.int x5), some (.int x6)]) (st' := [.int x1, .ref 0]) 2 rfl ?_
  obtain ⟨v2, hv3, h⟩ := kx_bn_some h
  refine kx_q_callV (as := [.int x1]) (rest := []) (M1 := (kx_u1 M 3 (s1).toNatClampNeg s0)) (rv := some (.int v2)) kmo_0 rfl klk_X5_253 kse_X5_shownAlone rfl rfl rfl rfl (Nat.le_of_ble_eq_true rfl) (Nat.le_of_ble_eq_true rfl) (c_X5_shownAlone (d := d + 0) x1 (kx_u1 M 3 (s1).toNatClampNeg s0) v2 hv3) ?_
  show kx_Rn _ _ _ (78, [some (.ref 0), some (.int x1), some (.int x2), some (.int x3), some (.int x4), some (.int x5), some (.int x6)], [.int v2], (kx_u1 M 3 (s1).toNatClampNeg s0)) _ _
  refine kx_go (pc' := 79) (L' := [some (.ref 0), some (.int x1), some (.int x2), some (.int x3), some (.int x4), some (.int x5), some (.int x6)]) (st' := [.int x2, .int v2]) 1 rfl ?_
  refine kx_r_callS (as := [.int v2, .int x2]) (rest := []) (M1 := (kx_u1 M 3 (s1).toNatClampNeg s0)) (rv := some (.int (kx_bi (f_X5_has v2 x2)))) rfl klk_X5_199 kst_X5_has rfl rfl (Nat.le_of_ble_eq_true rfl) (Nat.le_of_ble_eq_true rfl) (c_X5_has (d := d + 4) v2 x2 (kx_u1 M 3 (s1).toNatClampNeg s0) (f_X5_has v2 x2) rfl) ?_
  show kx_Rn _ _ _ (82, [some (.ref 0), some (.int x1), some (.int x2), some (.int x3), some (.int x4), some (.int x5), some (.int x6)], [.int (kx_bi (f_X5_has v2 x2))], (kx_u1 M 3 (s1).toNatClampNeg s0)) _ _
  refine kx_q_zeq rfl (fun hc4 => ?_) (fun hc4 => ?_)
  · rw [if_neg hc4] at h
    refine kx_go (pc' := 96) (L' := [some (.ref 0), some (.int x1), some (.int x2), some (.int x3), some (.int x4), some (.int x5), some (.int (x6 + (1)))]) (st' := []) 1 rfl ?_
    refine kx_r_goto rfl ?_
    refine kx_wk [true, true, true, true, true, true, true] ?_
    exact hk46 x1 x2 x3 x4 x5 (x6 + (1)) (kx_u1 M 3 (s1).toNatClampNeg s0) h
  · rw [if_pos hc4] at h
    refine kx_go (pc' := 86) (L' := [some (.ref 0), some (.int x1), some (.int x2), some (.int x3), some (.int x4), some (.int x5), some (.int x6)]) (st' := [.ref 0]) 1 rfl ?_
    refine kx_q_getR (k := 3) (j := 3) kmo_0 rfl kfl_X5_16 rfl ?_
    refine kx_go (pc' := 90) (L' := [some (.ref 0), some (.int x1), some (.int x2), some (.int x3), some (.int x4), some (.int x5), some (.int x6)]) (st' := [.int (0 : Int32), .ref 3]) 1 rfl ?_
    obtain ⟨hi5, h⟩ := kx_ck_some h
    refine kx_q_iald (kma_3) rfl hi5 ?_
    refine kx_go (pc' := 96) (L' := [some (.ref 0), some (.int x1), some (.int x2), some (.int x3), some (.int x4), some (.int ((kx_u1 M 3 (s1).toNatClampNeg s0).1 3 ((0 : Int32)).toNatClampNeg)), some (.int (x6 + (1)))]) (st' := []) 2 rfl ?_
    refine kx_r_goto rfl ?_
    refine kx_wk [true, true, true, true, true, true, true] ?_
    exact hk46 x1 x2 x3 x4 ((kx_u1 M 3 (s1).toNatClampNeg s0).1 3 ((0 : Int32)).toNatClampNeg) (x6 + (1)) (kx_u1 M 3 (s1).toNatClampNeg s0) h
set_option maxRecDepth 100000 in
set_option maxHeartbeats 4000000 in
theorem t_X5_lifted_46 {d : Nat} {r : Int32} {M' : kx_M} : ∀ (n : Nat) (x1 : Int32) (x2 : Int32) (x3 : Int32) (x4 : Int32) (x5 : Int32) (x6 : Int32) (M : kx_M), f_X5_lifted_46 n x1 x2 x3 x4 x5 x6 M = some (r, M') → kx_Rn EM T_X5_lifted (d + 5) (46, [some (.ref 0), some (.int x1), some (.int x2), some (.int x3), some (.int x4), some (.int x5), some (.int x6)], [], M) (some (.int r)) M' := by
  intro n
  induction n with
  | zero =>
    intro x1 x2 x3 x4 x5 x6 M h
    cases (show (none : Option (Int32 × kx_M)) = some _ from h)
  | succ n ih =>
    intro x1 x2 x3 x4 x5 x6 M h
    rw [f_X5_lifted_46.eq_2] at h
    refine kx_go (pc' := 50) (L' := [some (.ref 0), some (.int x1), some (.int x2), some (.int x3), some (.int x4), some (.int x5), some (.int x6)]) (st' := [.int (20 : Int32), .int x6]) 2 rfl ?_
    refine kx_r_icmp_gt rfl (fun hc1 => ?_) (fun hc1 => ?_)
    · rw [if_pos hc1] at h
      refine kx_go (pc' := 100) (L' := [some (.ref 0), some (.int x1), some (.int x2), some (.int x3), some (.int x4), some (.int x5), some (.int x6)]) (st' := [.ref 0]) 1 rfl ?_
      refine kx_q_getR (k := 3) (j := 3) kmo_0 rfl kfl_X5_16 rfl ?_
      refine kx_go (pc' := 106) (L' := [some (.ref 0), some (.int x1), some (.int x2), some (.int x3), some (.int x4), some (.int x5), some (.int x6)]) (st' := [.int x4, .int (0 : Int32), .ref 3]) 2 rfl ?_
      obtain ⟨hi2, h⟩ := kx_ck_some h
      refine kx_q_iast (kma_3) rfl hi2 ?_
      refine kx_go (pc' := 109) (L' := [some (.ref 0), some (.int x1), some (.int x2), some (.int x3), some (.int x4), some (.int x5), some (.int x6)]) (st' := [.int x5]) 1 rfl ?_
      cases h
      exact kx_r_iret rfl rfl
    · rw [if_neg hc1] at h
      refine kx_go (pc' := 54) (L' := [some (.ref 0), some (.int x1), some (.int x2), some (.int x3), some (.int x4), some (.int x5), some (.int x6)]) (st' := [.ref 0]) 1 rfl ?_
      refine kx_q_getR (k := 3) (j := 3) kmo_0 rfl kfl_X5_16 rfl ?_
      refine kx_go (pc' := 59) (L' := [some (.ref 0), some (.int x1), some (.int x2), some (.int x3), some (.int x4), some (.int x5), some (.int x6)]) (st' := [.int x3, .int (0 : Int32), .ref 3]) 2 rfl ?_
      refine kx_r_if_ne rfl (fun hc3 => ?_) (fun hc3 => ?_)
      · rw [if_neg hc3] at h
        refine kx_go (pc' := 72) (L' := [some (.ref 0), some (.int x1), some (.int x2), some (.int x3), some (.int x4), some (.int x5), some (.int x6)]) (st' := [.int x6, .int (0 : Int32), .ref 3]) 1 rfl ?_
        refine kx_wk [true, true, true, true, true, true, true] ?_
        exact t_X5_lifted_72 (f_X5_lifted_46 n) ih x1 x2 x3 x4 x5 x6 x6 (0 : Int32) M h
      · rw [if_pos hc3] at h
        refine kx_go (pc' := 67) (L' := [some (.ref 0), some (.int x1), some (.int x2), some (.int x3), some (.int x4), some (.int x5), some (.int x6)]) (st' := [.int ((20 : Int32) - x6), .int (0 : Int32), .ref 3]) 3 rfl ?_
        refine kx_r_goto rfl ?_
        refine kx_wk [true, true, true, true, true, true, true] ?_
        exact t_X5_lifted_72 (f_X5_lifted_46 n) ih x1 x2 x3 x4 x5 x6 ((20 : Int32) - x6) (0 : Int32) M h
set_option maxRecDepth 100000 in
set_option maxHeartbeats 4000000 in
theorem t_X5_lifted {d : Nat} {r : Int32} {M' : kx_M} (a0 : Int32) (a1 : Int32) (a2 : Int32) (M : kx_M) (h : f_X5_lifted a0 a1 a2 M = some (r, M')) : kx_Rn EM T_X5_lifted (d + 5) (0, [some (.ref 0), some (.int a0), some (.int a1), some (.int a2), none, none, none], [], M) (some (.int r)) M' := by
  unfold f_X5_lifted at h
  refine kx_go (pc' := 2) (L' := [some (.ref 0), some (.int a0), some (.int a1), some (.int a2), none, none, none]) (st' := [.int a0, .ref 0]) 2 rfl ?_
  refine kx_q_callV (as := [.int a0]) (rest := []) (M1 := M) (rv := some (.int (kx_bi (f_X5_isOne M a0)))) kmo_0 rfl klk_X5_103 kse_X5_isOne rfl rfl rfl rfl (Nat.le_of_ble_eq_true rfl) (Nat.le_of_ble_eq_true rfl) (c_X5_isOne (d := d + 3) a0 M (f_X5_isOne M a0) rfl) ?_
  show kx_Rn _ _ _ (5, [some (.ref 0), some (.int a0), some (.int a1), some (.int a2), none, none, none], [.int (kx_bi (f_X5_isOne M a0))], M) _ _
  refine kx_q_zeq rfl (fun hc1 => ?_) (fun hc1 => ?_)
  · rw [if_neg hc1] at h
    refine kx_go (pc' := 28) (L' := [some (.ref 0), some (.int a0), some (.int a1), some (.int a2), none, none, none]) (st' := [.int (-2 : Int32), .ref 0]) 2 rfl ?_
    obtain ⟨v2, M4, hv3, h⟩ := kx_bd_some h
    refine kx_q_callV (as := [.int (-2 : Int32)]) (rest := []) (M1 := M4) (rv := some (.int v2)) kmo_0 rfl klk_X5_89 kse_X5_no rfl rfl rfl rfl (Nat.le_of_ble_eq_true rfl) (Nat.le_of_ble_eq_true rfl) (c_X5_no (d := d + 4) (-2 : Int32) M v2 M4 hv3) ?_
    show kx_Rn _ _ _ (31, [some (.ref 0), some (.int a0), some (.int a1), some (.int a2), none, none, none], [.int v2], M4) _ _
    cases h
    exact kx_r_iret rfl rfl
  · rw [if_pos hc1] at h
    refine kx_go (pc' := 10) (L' := [some (.ref 0), some (.int a0), some (.int a1), some (.int a2), none, none, none]) (st' := [.int a1, .ref 0]) 2 rfl ?_
    refine kx_q_callV (as := [.int a1]) (rest := []) (M1 := M) (rv := some (.int (kx_bi (f_X5_isCell M a1)))) kmo_0 rfl klk_X5_120 kse_X5_isCell rfl rfl rfl rfl (Nat.le_of_ble_eq_true rfl) (Nat.le_of_ble_eq_true rfl) (c_X5_isCell (d := d + 3) a1 M (f_X5_isCell M a1) rfl) ?_
    show kx_Rn _ _ _ (13, [some (.ref 0), some (.int a0), some (.int a1), some (.int a2), none, none, none], [.int (kx_bi (f_X5_isCell M a1))], M) _ _
    refine kx_q_zeq rfl (fun hc5 => ?_) (fun hc5 => ?_)
    · rw [if_neg hc5] at h
      refine kx_go (pc' := 28) (L' := [some (.ref 0), some (.int a0), some (.int a1), some (.int a2), none, none, none]) (st' := [.int (-2 : Int32), .ref 0]) 2 rfl ?_
      obtain ⟨v6, M8, hv7, h⟩ := kx_bd_some h
      refine kx_q_callV (as := [.int (-2 : Int32)]) (rest := []) (M1 := M8) (rv := some (.int v6)) kmo_0 rfl klk_X5_89 kse_X5_no rfl rfl rfl rfl (Nat.le_of_ble_eq_true rfl) (Nat.le_of_ble_eq_true rfl) (c_X5_no (d := d + 4) (-2 : Int32) M v6 M8 hv7) ?_
      show kx_Rn _ _ _ (31, [some (.ref 0), some (.int a0), some (.int a1), some (.int a2), none, none, none], [.int v6], M8) _ _
      cases h
      exact kx_r_iret rfl rfl
    · rw [if_pos hc5] at h
      refine kx_go (pc' := 19) (L' := [some (.ref 0), some (.int a0), some (.int a1), some (.int a2), none, none, none]) (st' := [.int (1 : Int32), .int (0 : Int32), .int a2]) 3 rfl ?_
      refine kx_r_callS (as := [.int a2, .int (0 : Int32), .int (1 : Int32)]) (rest := []) (M1 := M) (rv := some (.int (kx_bi (f_X5_within a2 (0 : Int32) (1 : Int32))))) rfl klk_X5_78 kst_X5_within rfl rfl (Nat.le_of_ble_eq_true rfl) (Nat.le_of_ble_eq_true rfl) (c_X5_within (d := d + 4) a2 (0 : Int32) (1 : Int32) M (f_X5_within a2 (0 : Int32) (1 : Int32)) rfl) ?_
      show kx_Rn _ _ _ (22, [some (.ref 0), some (.int a0), some (.int a1), some (.int a2), none, none, none], [.int (kx_bi (f_X5_within a2 (0 : Int32) (1 : Int32)))], M) _ _
      refine kx_q_zne rfl (fun hc9 => ?_) (fun hc9 => ?_)
      · rw [if_pos hc9] at h
        refine kx_go (pc' := 33) (L' := [some (.ref 0), some (.int a0), some (.int a1), some (.int a2), none, none, none]) (st' := [.ref 0]) 1 rfl ?_
        refine kx_q_getR (k := 3) (j := 3) kmo_0 rfl kfl_X5_16 rfl ?_
        refine kx_go (pc' := 37) (L' := [some (.ref 0), some (.int a0), some (.int a1), some (.int a2), none, none, none]) (st' := [.int (0 : Int32), .ref 3]) 1 rfl ?_
        obtain ⟨hi10, h⟩ := kx_ck_some h
        refine kx_q_iald (kma_3) rfl hi10 ?_
        refine kx_go (pc' := 46) (L' := [some (.ref 0), some (.int a0), some (.int a1), some (.int a2), some (.int (M.1 3 ((0 : Int32)).toNatClampNeg)), some (.int (-1 : Int32)), some (.int (0 : Int32))]) (st' := []) 5 rfl ?_
        refine kx_wk [true, true, true, true, true, true, true] ?_
        exact t_X5_lifted_46 kx_fuel a0 a1 a2 (M.1 3 ((0 : Int32)).toNatClampNeg) (-1 : Int32) (0 : Int32) M h
      · rw [if_neg hc9] at h
        refine kx_go (pc' := 28) (L' := [some (.ref 0), some (.int a0), some (.int a1), some (.int a2), none, none, none]) (st' := [.int (-2 : Int32), .ref 0]) 2 rfl ?_
        obtain ⟨v11, M13, hv12, h⟩ := kx_bd_some h
        refine kx_q_callV (as := [.int (-2 : Int32)]) (rest := []) (M1 := M13) (rv := some (.int v11)) kmo_0 rfl klk_X5_89 kse_X5_no rfl rfl rfl rfl (Nat.le_of_ble_eq_true rfl) (Nat.le_of_ble_eq_true rfl) (c_X5_no (d := d + 4) (-2 : Int32) M v11 M13 hv12) ?_
        show kx_Rn _ _ _ (31, [some (.ref 0), some (.int a0), some (.int a1), some (.int a2), none, none, none], [.int v11], M13) _ _
        cases h
        exact kx_r_iret rfl rfl
theorem c_X5_lifted {d : Nat} (a0 : Int32) (a1 : Int32) (a2 : Int32) (M : kx_M) (r : Int32) (M' : kx_M) (h : f_X5_lifted a0 a1 a2 M = some (r, M')) : kx_Call EM (d + 5) T_X5_lifted [.ref 0, .int a0, .int a1, .int a2] M (some (.int r)) M' := kx_entry kok_X5_lifted (Nat.le_of_ble_eq_true rfl) rfl (t_X5_lifted (d := d) a0 a1 a2 M h)
set_option maxRecDepth 100000 in
set_option maxHeartbeats 4000000 in
theorem t_X5_toldAt {d : Nat} {r : Int64} (M : kx_M) (a0 : Int32) (a1 : Int32) (h : f_X5_toldAt M a0 a1 = some r) : kx_Rn EM T_X5_toldAt (d + 0) (0, [some (.ref 0), some (.int a0), some (.int a1)], [], M) (some (.long r)) M := by
  unfold f_X5_toldAt at h
  refine kx_go (pc' := 1) (L' := [some (.ref 0), some (.int a0), some (.int a1)]) (st' := [.ref 0]) 1 rfl ?_
  refine kx_q_getR (k := 18) (j := 11) kmo_0 rfl kfl_X5_40 rfl ?_
  refine kx_go (pc' := 10) (L' := [some (.ref 0), some (.int a0), some (.int a1)]) (st' := [.int (((40 : Int32) * a0) + a1), .ref 11]) 5 rfl ?_
  obtain ⟨hi1, h⟩ := kx_ck_some h
  refine kx_q_lald (kma_11) rfl hi1 ?_
  cases h
  exact kx_r_lret rfl rfl
theorem c_X5_toldAt {d : Nat} (a0 : Int32) (a1 : Int32) (M : kx_M) (r : Int64) (h : f_X5_toldAt M a0 a1 = some r) : kx_Call EM (d + 0) T_X5_toldAt [.ref 0, .int a0, .int a1] M (some (.long r)) M := kx_entry kok_X5_toldAt (Nat.le_of_ble_eq_true rfl) rfl (t_X5_toldAt (d := d) M a0 a1 h)
set_option maxRecDepth 100000 in
set_option maxHeartbeats 4000000 in
theorem t_X5_noTold {d : Nat} {r : Int32} (M : kx_M) (a0 : Int32) (a1 : Int32) (h : f_X5_noTold M a0 a1 = some r) : kx_Rn EM T_X5_noTold (d + 2) (0, [some (.ref 0), some (.int a0), some (.int a1)], [], M) (some (.int r)) M := by
  unfold f_X5_noTold at h
  refine kx_go (pc' := 2) (L' := [some (.ref 0), some (.int a0), some (.int a1)]) (st' := [.int a0, .ref 0]) 2 rfl ?_
  obtain ⟨v1, hv2, h⟩ := kx_bn_some h
  refine kx_q_callV (as := [.int a0]) (rest := []) (M1 := M) (rv := some (.int (kx_bi v1))) kmo_0 rfl klk_X5_93 kse_X5_isRow rfl rfl rfl rfl (Nat.le_of_ble_eq_true rfl) (Nat.le_of_ble_eq_true rfl) (c_X5_isRow (d := d + 0) a0 M v1 hv2) ?_
  show kx_Rn _ _ _ (5, [some (.ref 0), some (.int a0), some (.int a1)], [.int (kx_bi v1)], M) _ _
  refine kx_q_zne rfl (fun hc3 => ?_) (fun hc3 => ?_)
  · rw [if_pos hc3] at h
    refine kx_go (pc' := 18) (L' := [some (.ref 0), some (.int a0), some (.int a1)]) (st' := [.ref 0, .int a1]) 2 rfl ?_
    refine kx_q_getR (k := 17) (j := 10) kmo_0 rfl kfl_X5_37 rfl ?_
    refine kx_go (pc' := 22) (L' := [some (.ref 0), some (.int a0), some (.int a1)]) (st' := [.int a0, .ref 10, .int a1]) 1 rfl ?_
    obtain ⟨hi4, h⟩ := kx_ck_some h
    refine kx_q_iald (kma_10) rfl hi4 ?_
    refine kx_r_icmp_le rfl (fun hc5 => ?_) (fun hc5 => ?_)
    · rw [if_pos hc5] at h
      refine kx_go (pc' := 32) (L' := [some (.ref 0), some (.int a0), some (.int a1)]) (st' := [.int (0 : Int32)]) 1 rfl ?_
      cases h
      exact kx_r_iret rfl rfl
    · rw [if_neg hc5] at h
      refine kx_go (pc' := 28) (L' := [some (.ref 0), some (.int a0), some (.int a1)]) (st' := [.int (-2 : Int32)]) 1 rfl ?_
      refine kx_r_goto rfl ?_
      cases h
      exact kx_r_iret rfl rfl
  · rw [if_neg hc3] at h
    refine kx_go (pc' := 10) (L' := [some (.ref 0), some (.int a0), some (.int a1)]) (st' := [.int a0, .ref 0]) 2 rfl ?_
    obtain ⟨v6, hv7, h⟩ := kx_bn_some h
    refine kx_q_callV (as := [.int a0]) (rest := []) (M1 := M) (rv := some (.int v6)) kmo_0 rfl klk_X5_96 kse_X5_noRow rfl rfl rfl rfl (Nat.le_of_ble_eq_true rfl) (Nat.le_of_ble_eq_true rfl) (c_X5_noRow (d := d + 1) a0 M v6 hv7) ?_
    show kx_Rn _ _ _ (13, [some (.ref 0), some (.int a0), some (.int a1)], [.int v6], M) _ _
    refine kx_r_goto rfl ?_
    cases h
    exact kx_r_iret rfl rfl
theorem c_X5_noTold {d : Nat} (a0 : Int32) (a1 : Int32) (M : kx_M) (r : Int32) (h : f_X5_noTold M a0 a1 = some r) : kx_Call EM (d + 2) T_X5_noTold [.ref 0, .int a0, .int a1] M (some (.int r)) M := kx_entry kok_X5_noTold (Nat.le_of_ble_eq_true rfl) rfl (t_X5_noTold (d := d) M a0 a1 h)
set_option maxRecDepth 100000 in
set_option maxHeartbeats 4000000 in
theorem t_X5_noTwos_13 {d : Nat} {r : Int32} (M : kx_M) : ∀ (n : Nat) (x1 : Int32) (x2 : Int32) (x3 : Int32) (x4 : Int32) (x5 : Int32), f_X5_noTwos_13 M n x1 x2 x3 x4 x5 = some r → kx_Rn EM T_X5_noTwos (d + 3) (13, [some (.ref 0), some (.int x1), some (.int x2), some (.int x3), some (.int x4), some (.int x5)], [], M) (some (.int r)) M := by
  intro n
  induction n with
  | zero =>
    intro x1 x2 x3 x4 x5 h
    cases (show (none : Option Int32) = some _ from h)
  | succ n ih =>
    intro x1 x2 x3 x4 x5 h
    rw [f_X5_noTwos_13.eq_2] at h
    refine kx_go (pc' := 16) (L' := [some (.ref 0), some (.int x1), some (.int x2), some (.int x3), some (.int x4), some (.int x5)]) (st' := [.int x2, .int x5]) 2 rfl ?_
    refine kx_r_icmp_ge rfl (fun hc1 => ?_) (fun hc1 => ?_)
    · rw [if_pos hc1] at h
      refine kx_go (pc' := 65) (L' := [some (.ref 0), some (.int x1), some (.int x2), some (.int x3), some (.int x4), some (.int x5)]) (st' := [.int x4]) 1 rfl ?_
      cases h
      exact kx_r_iret rfl rfl
    · rw [if_neg hc1] at h
      refine kx_go (pc' := 21) (L' := [some (.ref 0), some (.int x1), some (.int x2), some (.int x3), some (.int x4), some (.int x5)]) (st' := [.int x4]) 1 rfl ?_
      refine kx_r_if_ne rfl (fun hc2 => ?_) (fun hc2 => ?_)
      · rw [if_neg hc2] at h
        refine kx_go (pc' := 65) (L' := [some (.ref 0), some (.int x1), some (.int x2), some (.int x3), some (.int x4), some (.int x5)]) (st' := [.int x4]) 1 rfl ?_
        cases h
        exact kx_r_iret rfl rfl
      · rw [if_pos hc2] at h
        refine kx_go (pc' := 30) (L' := [some (.ref 0), some (.int x1), some (.int x2), some (.int x3), some (.int x4), some (.int x5)]) (st' := [.int ((2 : Int32) * x5), .int x1, .ref 0]) 5 rfl ?_
        obtain ⟨v3, hv4, h⟩ := kx_bn_some h
        refine kx_q_callV (as := [.int x1, .int ((2 : Int32) * x5)]) (rest := []) (M1 := M) (rv := some (.long v3)) kmo_0 rfl klk_X5_259 kse_X5_toldAt rfl rfl rfl rfl (Nat.le_of_ble_eq_true rfl) (Nat.le_of_ble_eq_true rfl) (c_X5_toldAt (d := d + 2) x1 ((2 : Int32) * x5) M v3 hv4) ?_
        show kx_Rn _ _ _ (33, [some (.ref 0), some (.int x1), some (.int x2), some (.int x3), some (.int x4), some (.int x5)], [.long v3], M) _ _
        refine kx_go (pc' := 35) (L' := [some (.ref 0), some (.int x1), some (.int x2), some (.int x3), some (.int x4), some (.int x5)]) (st' := [.int (lg_cmp v3 (0 : Int64))]) 2 rfl ?_
        refine kx_r_if_lt rfl (fun hc5 => ?_) (fun hc5 => ?_)
        · rw [if_pos hc5] at h
          refine kx_go (pc' := 60) (L' := [some (.ref 0), some (.int x1), some (.int x2), some (.int x3), some (.int (-5 : Int32)), some (.int (x5 + (1)))]) (st' := []) 3 rfl ?_
          refine kx_r_goto rfl ?_
          refine kx_wk [true, true, true, true, true, true] ?_
          exact ih x1 x2 x3 (-5 : Int32) (x5 + (1)) h
        · rw [if_neg hc5] at h
          refine kx_go (pc' := 44) (L' := [some (.ref 0), some (.int x1), some (.int x2), some (.int x3), some (.int x4), some (.int x5)]) (st' := [.int ((2 : Int32) * x5), .int x1, .ref 0]) 5 rfl ?_
          obtain ⟨v6, hv7, h⟩ := kx_bn_some h
          refine kx_q_callV (as := [.int x1, .int ((2 : Int32) * x5)]) (rest := []) (M1 := M) (rv := some (.long v6)) kmo_0 rfl klk_X5_259 kse_X5_toldAt rfl rfl rfl rfl (Nat.le_of_ble_eq_true rfl) (Nat.le_of_ble_eq_true rfl) (c_X5_toldAt (d := d + 2) x1 ((2 : Int32) * x5) M v6 hv7) ?_
          show kx_Rn _ _ _ (47, [some (.ref 0), some (.int x1), some (.int x2), some (.int x3), some (.int x4), some (.int x5)], [.long v6], M) _ _
          refine kx_go (pc' := 50) (L' := [some (.ref 0), some (.int x1), some (.int x2), some (.int x3), some (.int x4), some (.int x5)]) (st' := [.int (lg_cmp v6 (x3).toInt64)]) 3 rfl ?_
          refine kx_r_if_le rfl (fun hc8 => ?_) (fun hc8 => ?_)
          · rw [if_pos hc8] at h
            refine kx_go (pc' := 60) (L' := [some (.ref 0), some (.int x1), some (.int x2), some (.int x3), some (.int x4), some (.int (x5 + (1)))]) (st' := []) 1 rfl ?_
            refine kx_r_goto rfl ?_
            refine kx_wk [true, true, true, true, true, true] ?_
            exact ih x1 x2 x3 x4 (x5 + (1)) h
          · rw [if_neg hc8] at h
            refine kx_go (pc' := 60) (L' := [some (.ref 0), some (.int x1), some (.int x2), some (.int x3), some (.int (-5 : Int32)), some (.int (x5 + (1)))]) (st' := []) 3 rfl ?_
            refine kx_r_goto rfl ?_
            refine kx_wk [true, true, true, true, true, true] ?_
            exact ih x1 x2 x3 (-5 : Int32) (x5 + (1)) h
set_option maxRecDepth 100000 in
set_option maxHeartbeats 4000000 in
theorem t_X5_noTwos {d : Nat} {r : Int32} (M : kx_M) (a0 : Int32) (a1 : Int32) (a2 : Int32) (h : f_X5_noTwos M a0 a1 a2 = some r) : kx_Rn EM T_X5_noTwos (d + 3) (0, [some (.ref 0), some (.int a0), some (.int a1), some (.int a2), none, none], [], M) (some (.int r)) M := by
  unfold f_X5_noTwos at h
  refine kx_go (pc' := 5) (L' := [some (.ref 0), some (.int a0), some (.int a1), some (.int a2), none, none]) (st' := [.int ((2 : Int32) * a1), .int a0, .ref 0]) 5 rfl ?_
  obtain ⟨v1, hv2, h⟩ := kx_bn_some h
  refine kx_q_callV (as := [.int a0, .int ((2 : Int32) * a1)]) (rest := []) (M1 := M) (rv := some (.int v1)) kmo_0 rfl klk_X5_256 kse_X5_noTold rfl rfl rfl rfl (Nat.le_of_ble_eq_true rfl) (Nat.le_of_ble_eq_true rfl) (c_X5_noTold (d := d + 0) a0 ((2 : Int32) * a1) M v1 hv2) ?_
  show kx_Rn _ _ _ (8, [some (.ref 0), some (.int a0), some (.int a1), some (.int a2), none, none], [.int v1], M) _ _
  refine kx_go (pc' := 13) (L' := [some (.ref 0), some (.int a0), some (.int a1), some (.int a2), some (.int v1), some (.int (0 : Int32))]) (st' := []) 3 rfl ?_
  refine kx_wk [true, true, true, true, true, true] ?_
  exact t_X5_noTwos_13 M kx_fuel a0 a1 a2 v1 (0 : Int32) h
theorem c_X5_noTwos {d : Nat} (a0 : Int32) (a1 : Int32) (a2 : Int32) (M : kx_M) (r : Int32) (h : f_X5_noTwos M a0 a1 a2 = some r) : kx_Call EM (d + 3) T_X5_noTwos [.ref 0, .int a0, .int a1, .int a2] M (some (.int r)) M := kx_entry kok_X5_noTwos (Nat.le_of_ble_eq_true rfl) rfl (t_X5_noTwos (d := d) M a0 a1 a2 h)
set_option maxRecDepth 100000 in
set_option maxHeartbeats 4000000 in
theorem t_X5_isRegistered_3 {d : Nat} {r : Bool} (M : kx_M) : ∀ (n : Nat) (x1 : Int32) (x2 : Int32) (x3 : Int32) (x4 : Int32), f_X5_isRegistered_3 M n x1 x2 x3 x4 = some r → kx_Rn EM T_X5_isRegistered (d + 5) (3, [some (.ref 0), some (.int x1), some (.int x2), some (.int x3), some (.int x4)], [], M) (some (.int (kx_bi r))) M := by
  intro n
  induction n with
  | zero =>
    intro x1 x2 x3 x4 h
    cases (show (none : Option Bool) = some _ from h)
  | succ n ih =>
    intro x1 x2 x3 x4 h
    rw [f_X5_isRegistered_3.eq_2] at h
    refine kx_go (pc' := 6) (L' := [some (.ref 0), some (.int x1), some (.int x2), some (.int x3), some (.int x4)]) (st' := [.int x2, .int x4]) 2 rfl ?_
    refine kx_r_icmp_ge rfl (fun hc1 => ?_) (fun hc1 => ?_)
    · rw [if_pos hc1] at h
      refine kx_go (pc' := 64) (L' := [some (.ref 0), some (.int x1), some (.int x2), some (.int x3), some (.int x4)]) (st' := [.int (1 : Int32)]) 1 rfl ?_
      cases h
      exact kx_r_zret rfl rfl (Or.inr rfl)
    · rw [if_neg hc1] at h
      refine kx_go (pc' := 16) (L' := [some (.ref 0), some (.int x1), some (.int x2), some (.int x3), some (.int x4)]) (st' := [.int ((2 : Int32) * x4), .int x1, .ref 0, .ref 0]) 6 rfl ?_
      obtain ⟨v2, hv3, h⟩ := kx_bn_some h
      refine kx_q_callV (as := [.int x1, .int ((2 : Int32) * x4)]) (rest := [.ref 0]) (M1 := M) (rv := some (.long v2)) kmo_0 rfl klk_X5_259 kse_X5_toldAt rfl rfl rfl rfl (Nat.le_of_ble_eq_true rfl) (Nat.le_of_ble_eq_true rfl) (c_X5_toldAt (d := d + 4) x1 ((2 : Int32) * x4) M v2 hv3) ?_
      show kx_Rn _ _ _ (19, [some (.ref 0), some (.int x1), some (.int x2), some (.int x3), some (.int x4)], [.long v2, .ref 0], M) _ _
      refine kx_go (pc' := 20) (L' := [some (.ref 0), some (.int x1), some (.int x2), some (.int x3), some (.int x4)]) (st' := [.int (v2).toInt32, .ref 0]) 1 rfl ?_
      obtain ⟨v4, hv5, h⟩ := kx_bn_some h
      refine kx_q_callV (as := [.int (v2).toInt32]) (rest := []) (M1 := M) (rv := some (.int v4)) kmo_0 rfl klk_X5_253 kse_X5_shownAlone rfl rfl rfl rfl (Nat.le_of_ble_eq_true rfl) (Nat.le_of_ble_eq_true rfl) (c_X5_shownAlone (d := d + 0) (v2).toInt32 M v4 hv5) ?_
      show kx_Rn _ _ _ (23, [some (.ref 0), some (.int x1), some (.int x2), some (.int x3), some (.int x4)], [.int v4], M) _ _
      refine kx_go (pc' := 24) (L' := [some (.ref 0), some (.int x1), some (.int x2), some (.int x3), some (.int x4)]) (st' := [.int x3, .int v4]) 1 rfl ?_
      refine kx_r_callS (as := [.int v4, .int x3]) (rest := []) (M1 := M) (rv := some (.int (kx_bi (f_X5_has v4 x3)))) rfl klk_X5_199 kst_X5_has rfl rfl (Nat.le_of_ble_eq_true rfl) (Nat.le_of_ble_eq_true rfl) (c_X5_has (d := d + 4) v4 x3 M (f_X5_has v4 x3) rfl) ?_
      show kx_Rn _ _ _ (27, [some (.ref 0), some (.int x1), some (.int x2), some (.int x3), some (.int x4)], [.int (kx_bi (f_X5_has v4 x3))], M) _ _
      refine kx_go (pc' := 35) (L' := [some (.ref 0), some (.int x1), some (.int x2), some (.int x3), some (.int x4)]) (st' := [.int (((2 : Int32) * x4) + (1 : Int32)), .int x1, .ref 0, .int (kx_bi (f_X5_has v4 x3))]) 7 rfl ?_
      obtain ⟨v6, hv7, h⟩ := kx_bn_some h
      refine kx_q_callV (as := [.int x1, .int (((2 : Int32) * x4) + (1 : Int32))]) (rest := [.int (kx_bi (f_X5_has v4 x3))]) (M1 := M) (rv := some (.long v6)) kmo_0 rfl klk_X5_259 kse_X5_toldAt rfl rfl rfl rfl (Nat.le_of_ble_eq_true rfl) (Nat.le_of_ble_eq_true rfl) (c_X5_toldAt (d := d + 4) x1 (((2 : Int32) * x4) + (1 : Int32)) M v6 hv7) ?_
      show kx_Rn _ _ _ (38, [some (.ref 0), some (.int x1), some (.int x2), some (.int x3), some (.int x4)], [.long v6, .int (kx_bi (f_X5_has v4 x3))], M) _ _
      refine kx_go (pc' := 44) (L' := [some (.ref 0), some (.int x1), some (.int x2), some (.int x3), some (.int x4)]) (st' := [.int (lg_cmp ((v6 >>> ((x3).toInt64 &&& 63)) &&& (1 : Int64)) (1 : Int64)), .int (kx_bi (f_X5_has v4 x3))]) 6 rfl ?_
      refine kx_r_if_ne rfl (fun hc8 => ?_) (fun hc8 => ?_)
      · rw [if_neg hc8] at h
        refine kx_go (pc' := 52) (L' := [some (.ref 0), some (.int x1), some (.int x2), some (.int x3), some (.int x4)]) (st' := [.int (0 : Int32), .int (kx_bi (f_X5_has v4 x3))]) 1 rfl ?_
        refine kx_r_icmp_eq rfl (fun hc9 => ?_) (fun hc9 => ?_)
        · rw [if_pos hc9] at h
          refine kx_go (pc' := 60) (L' := [some (.ref 0), some (.int x1), some (.int x2), some (.int x3), some (.int (x4 + (1)))]) (st' := []) 1 rfl ?_
          refine kx_r_goto rfl ?_
          refine kx_wk [true, true, true, true, true] ?_
          exact ih x1 x2 x3 (x4 + (1)) h
        · rw [if_neg hc9] at h
          refine kx_go (pc' := 56) (L' := [some (.ref 0), some (.int x1), some (.int x2), some (.int x3), some (.int x4)]) (st' := [.int (0 : Int32)]) 1 rfl ?_
          cases h
          exact kx_r_zret rfl rfl (Or.inl rfl)
      · rw [if_pos hc8] at h
        refine kx_go (pc' := 48) (L' := [some (.ref 0), some (.int x1), some (.int x2), some (.int x3), some (.int x4)]) (st' := [.int (1 : Int32), .int (kx_bi (f_X5_has v4 x3))]) 1 rfl ?_
        refine kx_r_goto rfl ?_
        refine kx_r_icmp_eq rfl (fun hc10 => ?_) (fun hc10 => ?_)
        · rw [if_pos hc10] at h
          refine kx_go (pc' := 60) (L' := [some (.ref 0), some (.int x1), some (.int x2), some (.int x3), some (.int (x4 + (1)))]) (st' := []) 1 rfl ?_
          refine kx_r_goto rfl ?_
          refine kx_wk [true, true, true, true, true] ?_
          exact ih x1 x2 x3 (x4 + (1)) h
        · rw [if_neg hc10] at h
          refine kx_go (pc' := 56) (L' := [some (.ref 0), some (.int x1), some (.int x2), some (.int x3), some (.int x4)]) (st' := [.int (0 : Int32)]) 1 rfl ?_
          cases h
          exact kx_r_zret rfl rfl (Or.inl rfl)
set_option maxRecDepth 100000 in
set_option maxHeartbeats 4000000 in
theorem t_X5_isRegistered {d : Nat} {r : Bool} (M : kx_M) (a0 : Int32) (a1 : Int32) (a2 : Int32) (h : f_X5_isRegistered M a0 a1 a2 = some r) : kx_Rn EM T_X5_isRegistered (d + 5) (0, [some (.ref 0), some (.int a0), some (.int a1), some (.int a2), none], [], M) (some (.int (kx_bi r))) M := by
  unfold f_X5_isRegistered at h
  refine kx_go (pc' := 3) (L' := [some (.ref 0), some (.int a0), some (.int a1), some (.int a2), some (.int (0 : Int32))]) (st' := []) 2 rfl ?_
  refine kx_wk [true, true, true, true, true] ?_
  exact t_X5_isRegistered_3 M kx_fuel a0 a1 a2 (0 : Int32) h
theorem c_X5_isRegistered {d : Nat} (a0 : Int32) (a1 : Int32) (a2 : Int32) (M : kx_M) (r : Bool) (h : f_X5_isRegistered M a0 a1 a2 = some r) : kx_Call EM (d + 5) T_X5_isRegistered [.ref 0, .int a0, .int a1, .int a2] M (some (.int (kx_bi r))) M := kx_entry kok_X5_isRegistered (Nat.le_of_ble_eq_true rfl) rfl (t_X5_isRegistered (d := d) M a0 a1 a2 h)
set_option maxRecDepth 100000 in
set_option maxHeartbeats 4000000 in
theorem t_X5_register_88 {d : Nat} {r : Int32} {M' : kx_M} : ∀ (n : Nat) (x1 : Int32) (x2 : Int32) (x3 : Int32) (x4 : Int32) (x6 : Int32) (x7 : Int32) (x8 : Int32) (x9 : Int32) (x10 : Int32) (M : kx_M), f_X5_register_88 n x1 x2 x3 x4 x6 x7 x8 x9 x10 M = some (r, M') → kx_Rn EM T_X5_register (d + 6) (88, [some (.ref 0), some (.int x1), some (.int x2), some (.int x3), some (.int x4), none, some (.int x6), some (.int x7), some (.int x8), some (.int x9), some (.int x10)], [], M) (some (.int r)) M' := by
  intro n
  induction n with
  | zero =>
    intro x1 x2 x3 x4 x6 x7 x8 x9 x10 M h
    cases (show (none : Option (Int32 × kx_M)) = some _ from h)
  | succ n ih =>
    intro x1 x2 x3 x4 x6 x7 x8 x9 x10 M h
    rw [f_X5_register_88.eq_2] at h
    refine kx_go (pc' := 92) (L' := [some (.ref 0), some (.int x1), some (.int x2), some (.int x3), some (.int x4), none, some (.int x6), some (.int x7), some (.int x8), some (.int x9), some (.int x10)]) (st' := [.int (20 : Int32), .int x10]) 2 rfl ?_
    refine kx_r_icmp_gt rfl (fun hc1 => ?_) (fun hc1 => ?_)
    · rw [if_pos hc1] at h
      refine kx_go (pc' := 140) (L' := [some (.ref 0), some (.int x1), some (.int x2), some (.int x3), some (.int x4), none, some (.int x6), some (.int x7), some (.int x8), some (.int x9), some (.int x10)]) (st' := [.ref 0]) 1 rfl ?_
      refine kx_q_getR (k := 1) (j := 1) kmo_0 rfl kfl_X5_7 rfl ?_
      refine kx_go (pc' := 146) (L' := [some (.ref 0), some (.int x1), some (.int x2), some (.int x3), some (.int x4), none, some (.int x6), some (.int x7), some (.int x8), some (.int x9), some (.int x10)]) (st' := [.int x6, .int x3, .ref 1]) 2 rfl ?_
      obtain ⟨hi2, h⟩ := kx_ck_some h
      refine kx_q_iast (kma_1) rfl hi2 ?_
      refine kx_go (pc' := 149) (L' := [some (.ref 0), some (.int x1), some (.int x2), some (.int x3), some (.int x4), none, some (.int x6), some (.int x7), some (.int x8), some (.int x9), some (.int x10)]) (st' := [.int x4]) 1 rfl ?_
      refine kx_r_if_ne rfl (fun hc3 => ?_) (fun hc3 => ?_)
      · rw [if_neg hc3] at h
        refine kx_go (pc' := 160) (L' := [some (.ref 0), some (.int x1), some (.int x2), some (.int x3), some (.int x4), none, some (.int x6), some (.int x7), some (.int x8), some (.int x9), some (.int x10)]) (st' := [.int (1 : Int32), .int x4]) 2 rfl ?_
        refine kx_r_icmp_ne rfl (fun hc4 => ?_) (fun hc4 => ?_)
        · rw [if_neg hc4] at h
          refine kx_go (pc' := 170) (L' := [some (.ref 0), some (.int x1), some (.int x2), some (.int x3), some (.int x4), none, some (.int x6), some (.int x7), some (.int x8), some (.int x9), some (.int x10)]) (st' := [.int x9]) 1 rfl ?_
          cases h
          exact kx_r_iret rfl rfl
        · rw [if_pos hc4] at h
          refine kx_go (pc' := 165) (L' := [some (.ref 0), some (.int x1), some (.int x2), some (.int x3), some (.int x4), none, some (.int x6), some (.int x7), some (.int x8), some (.int x9), some (.int x10)]) (st' := [.int x8]) 1 rfl ?_
          refine kx_r_goto rfl ?_
          cases h
          exact kx_r_iret rfl rfl
      · rw [if_pos hc3] at h
        refine kx_go (pc' := 154) (L' := [some (.ref 0), some (.int x1), some (.int x2), some (.int x3), some (.int x4), none, some (.int x6), some (.int x7), some (.int x8), some (.int x9), some (.int x10)]) (st' := [.int x7]) 1 rfl ?_
        refine kx_r_goto rfl ?_
        cases h
        exact kx_r_iret rfl rfl
    · rw [if_neg hc1] at h
      refine kx_go (pc' := 96) (L' := [some (.ref 0), some (.int x1), some (.int x2), some (.int x3), some (.int x4), none, some (.int x6), some (.int x7), some (.int x8), some (.int x9), some (.int x10)]) (st' := [.ref 0]) 1 rfl ?_
      refine kx_q_getR (k := 1) (j := 1) kmo_0 rfl kfl_X5_7 rfl ?_
      refine kx_go (pc' := 102) (L' := [some (.ref 0), some (.int x1), some (.int x2), some (.int x3), some (.int x4), none, some (.int x6), some (.int x7), some (.int x8), some (.int x9), some (.int x10)]) (st' := [.int x10, .int x3, .ref 1]) 2 rfl ?_
      obtain ⟨hi5, h⟩ := kx_ck_some h
      refine kx_q_iast (kma_1) rfl hi5 ?_
      refine kx_go (pc' := 107) (L' := [some (.ref 0), some (.int x1), some (.int x2), some (.int x3), some (.int x4), none, some (.int x6), some (.int x7), some (.int x8), some (.int x9), some (.int x10)]) (st' := [.int x3, .int x2, .int x1, .ref 0]) 4 rfl ?_
      obtain ⟨v6, hv7, h⟩ := kx_bn_some h
      refine kx_q_callV (as := [.int x1, .int x2, .int x3]) (rest := []) (M1 := (kx_u1 M 1 (x3).toNatClampNeg x10)) (rv := some (.int (kx_bi v6))) kmo_0 rfl klk_X5_266 kse_X5_isRegistered rfl rfl rfl rfl (Nat.le_of_ble_eq_true rfl) (Nat.le_of_ble_eq_true rfl) (c_X5_isRegistered (d := d + 0) x1 x2 x3 (kx_u1 M 1 (x3).toNatClampNeg x10) v6 hv7) ?_
      show kx_Rn _ _ _ (110, [some (.ref 0), some (.int x1), some (.int x2), some (.int x3), some (.int x4), none, some (.int x6), some (.int x7), some (.int x8), some (.int x9), some (.int x10)], [.int (kx_bi v6)], (kx_u1 M 1 (x3).toNatClampNeg x10)) _ _
      refine kx_q_zne rfl (fun hc8 => ?_) (fun hc8 => ?_)
      · rw [if_pos hc8] at h
        refine kx_go (pc' := 119) (L' := [some (.ref 0), some (.int x1), some (.int x2), some (.int x3), some (.int x4), none, some (.int x6), some (.int x7), some (.int x8), some (.int x9), some (.int x10)]) (st' := [.int (-1 : Int32), .int x7]) 2 rfl ?_
        refine kx_r_icmp_ne rfl (fun hc9 => ?_) (fun hc9 => ?_)
        · rw [if_neg hc9] at h
          refine kx_go (pc' := 136) (L' := [some (.ref 0), some (.int x1), some (.int x2), some (.int x3), some (.int x4), none, some (.int x6), some (.int x7), some (.int x10), some (.int (x9 + (1))), some (.int (x10 + (1)))]) (st' := []) 4 rfl ?_
          refine kx_r_goto rfl ?_
          refine kx_wk [true, true, true, true, true, false, true, true, true, true, true] ?_
          exact ih x1 x2 x3 x4 x6 x7 x10 (x9 + (1)) (x10 + (1)) (kx_u1 M 1 (x3).toNatClampNeg x10) h
        · rw [if_pos hc9] at h
          refine kx_go (pc' := 136) (L' := [some (.ref 0), some (.int x1), some (.int x2), some (.int x3), some (.int x4), none, some (.int x6), some (.int x10), some (.int x10), some (.int (x9 + (1))), some (.int (x10 + (1)))]) (st' := []) 6 rfl ?_
          refine kx_r_goto rfl ?_
          refine kx_wk [true, true, true, true, true, false, true, true, true, true, true] ?_
          exact ih x1 x2 x3 x4 x6 x10 x10 (x9 + (1)) (x10 + (1)) (kx_u1 M 1 (x3).toNatClampNeg x10) h
      · rw [if_neg hc8] at h
        refine kx_r_goto rfl ?_
        refine kx_go (pc' := 136) (L' := [some (.ref 0), some (.int x1), some (.int x2), some (.int x3), some (.int x4), none, some (.int x6), some (.int x7), some (.int x8), some (.int x9), some (.int (x10 + (1)))]) (st' := []) 1 rfl ?_
        refine kx_r_goto rfl ?_
        refine kx_wk [true, true, true, true, true, false, true, true, true, true, true] ?_
        exact ih x1 x2 x3 x4 x6 x7 x8 x9 (x10 + (1)) (kx_u1 M 1 (x3).toNatClampNeg x10) h
set_option maxRecDepth 100000 in
set_option maxHeartbeats 4000000 in
theorem t_X5_register {d : Nat} {r : Int32} {M' : kx_M} (a0 : Int32) (a1 : Int32) (a2 : Int32) (a3 : Int32) (M : kx_M) (h : f_X5_register a0 a1 a2 a3 M = some (r, M')) : kx_Rn EM T_X5_register (d + 6) (0, [some (.ref 0), some (.int a0), some (.int a1), some (.int a2), some (.int a3), none, none, none, none, none, none], [], M) (some (.int r)) M' := by
  unfold f_X5_register at h
  refine kx_go (pc' := 1) (L' := [some (.ref 0), some (.int a0), some (.int a1), some (.int a2), some (.int a3), none, none, none, none, none, none]) (st' := [.int a0]) 1 rfl ?_
  refine kx_r_callS (as := [.int a0]) (rest := []) (M1 := M) (rv := some (.int (kx_bi (f_X5_isShelf a0)))) rfl klk_X5_85 kst_X5_isShelf rfl rfl (Nat.le_of_ble_eq_true rfl) (Nat.le_of_ble_eq_true rfl) (c_X5_isShelf (d := d + 4) a0 M (f_X5_isShelf a0) rfl) ?_
  show kx_Rn _ _ _ (4, [some (.ref 0), some (.int a0), some (.int a1), some (.int a2), some (.int a3), none, none, none, none, none, none], [.int (kx_bi (f_X5_isShelf a0))], M) _ _
  refine kx_q_zeq rfl (fun hc1 => ?_) (fun hc1 => ?_)
  · rw [if_neg hc1] at h
    refine kx_go (pc' := 38) (L' := [some (.ref 0), some (.int a0), some (.int a1), some (.int a2), some (.int a3), none, none, none, none, none, none]) (st' := [.int (-2 : Int32), .ref 0]) 2 rfl ?_
    obtain ⟨v2, M4, hv3, h⟩ := kx_bd_some h
    refine kx_q_callV (as := [.int (-2 : Int32)]) (rest := []) (M1 := M4) (rv := some (.int v2)) kmo_0 rfl klk_X5_89 kse_X5_no rfl rfl rfl rfl (Nat.le_of_ble_eq_true rfl) (Nat.le_of_ble_eq_true rfl) (c_X5_no (d := d + 5) (-2 : Int32) M v2 M4 hv3) ?_
    show kx_Rn _ _ _ (41, [some (.ref 0), some (.int a0), some (.int a1), some (.int a2), some (.int a3), none, none, none, none, none, none], [.int v2], M4) _ _
    cases h
    exact kx_r_iret rfl rfl
  · rw [if_pos hc1] at h
    refine kx_go (pc' := 11) (L' := [some (.ref 0), some (.int a0), some (.int a1), some (.int a2), some (.int a3), none, none, none, none, none, none]) (st' := [.int (20 : Int32), .int (0 : Int32), .int a1]) 3 rfl ?_
    refine kx_r_callS (as := [.int a1, .int (0 : Int32), .int (20 : Int32)]) (rest := []) (M1 := M) (rv := some (.int (kx_bi (f_X5_within a1 (0 : Int32) (20 : Int32))))) rfl klk_X5_78 kst_X5_within rfl rfl (Nat.le_of_ble_eq_true rfl) (Nat.le_of_ble_eq_true rfl) (c_X5_within (d := d + 5) a1 (0 : Int32) (20 : Int32) M (f_X5_within a1 (0 : Int32) (20 : Int32)) rfl) ?_
    show kx_Rn _ _ _ (14, [some (.ref 0), some (.int a0), some (.int a1), some (.int a2), some (.int a3), none, none, none, none, none, none], [.int (kx_bi (f_X5_within a1 (0 : Int32) (20 : Int32)))], M) _ _
    refine kx_q_zeq rfl (fun hc5 => ?_) (fun hc5 => ?_)
    · rw [if_neg hc5] at h
      refine kx_go (pc' := 38) (L' := [some (.ref 0), some (.int a0), some (.int a1), some (.int a2), some (.int a3), none, none, none, none, none, none]) (st' := [.int (-2 : Int32), .ref 0]) 2 rfl ?_
      obtain ⟨v6, M8, hv7, h⟩ := kx_bd_some h
      refine kx_q_callV (as := [.int (-2 : Int32)]) (rest := []) (M1 := M8) (rv := some (.int v6)) kmo_0 rfl klk_X5_89 kse_X5_no rfl rfl rfl rfl (Nat.le_of_ble_eq_true rfl) (Nat.le_of_ble_eq_true rfl) (c_X5_no (d := d + 5) (-2 : Int32) M v6 M8 hv7) ?_
      show kx_Rn _ _ _ (41, [some (.ref 0), some (.int a0), some (.int a1), some (.int a2), some (.int a3), none, none, none, none, none, none], [.int v6], M8) _ _
      cases h
      exact kx_r_iret rfl rfl
    · rw [if_pos hc5] at h
      refine kx_go (pc' := 19) (L' := [some (.ref 0), some (.int a0), some (.int a1), some (.int a2), some (.int a3), none, none, none, none, none, none]) (st' := [.int a2, .ref 0]) 2 rfl ?_
      refine kx_q_callV (as := [.int a2]) (rest := []) (M1 := M) (rv := some (.int (kx_bi (f_X5_isCell M a2)))) kmo_0 rfl klk_X5_120 kse_X5_isCell rfl rfl rfl rfl (Nat.le_of_ble_eq_true rfl) (Nat.le_of_ble_eq_true rfl) (c_X5_isCell (d := d + 4) a2 M (f_X5_isCell M a2) rfl) ?_
      show kx_Rn _ _ _ (22, [some (.ref 0), some (.int a0), some (.int a1), some (.int a2), some (.int a3), none, none, none, none, none, none], [.int (kx_bi (f_X5_isCell M a2))], M) _ _
      refine kx_q_zeq rfl (fun hc9 => ?_) (fun hc9 => ?_)
      · rw [if_neg hc9] at h
        refine kx_go (pc' := 38) (L' := [some (.ref 0), some (.int a0), some (.int a1), some (.int a2), some (.int a3), none, none, none, none, none, none]) (st' := [.int (-2 : Int32), .ref 0]) 2 rfl ?_
        obtain ⟨v10, M12, hv11, h⟩ := kx_bd_some h
        refine kx_q_callV (as := [.int (-2 : Int32)]) (rest := []) (M1 := M12) (rv := some (.int v10)) kmo_0 rfl klk_X5_89 kse_X5_no rfl rfl rfl rfl (Nat.le_of_ble_eq_true rfl) (Nat.le_of_ble_eq_true rfl) (c_X5_no (d := d + 5) (-2 : Int32) M v10 M12 hv11) ?_
        show kx_Rn _ _ _ (41, [some (.ref 0), some (.int a0), some (.int a1), some (.int a2), some (.int a3), none, none, none, none, none, none], [.int v10], M12) _ _
        cases h
        exact kx_r_iret rfl rfl
      · rw [if_pos hc9] at h
        refine kx_go (pc' := 29) (L' := [some (.ref 0), some (.int a0), some (.int a1), some (.int a2), some (.int a3), none, none, none, none, none, none]) (st' := [.int (2 : Int32), .int (0 : Int32), .int a3]) 3 rfl ?_
        refine kx_r_callS (as := [.int a3, .int (0 : Int32), .int (2 : Int32)]) (rest := []) (M1 := M) (rv := some (.int (kx_bi (f_X5_within a3 (0 : Int32) (2 : Int32))))) rfl klk_X5_78 kst_X5_within rfl rfl (Nat.le_of_ble_eq_true rfl) (Nat.le_of_ble_eq_true rfl) (c_X5_within (d := d + 5) a3 (0 : Int32) (2 : Int32) M (f_X5_within a3 (0 : Int32) (2 : Int32)) rfl) ?_
        show kx_Rn _ _ _ (32, [some (.ref 0), some (.int a0), some (.int a1), some (.int a2), some (.int a3), none, none, none, none, none, none], [.int (kx_bi (f_X5_within a3 (0 : Int32) (2 : Int32)))], M) _ _
        refine kx_q_zne rfl (fun hc13 => ?_) (fun hc13 => ?_)
        · rw [if_pos hc13] at h
          refine kx_go (pc' := 46) (L' := [some (.ref 0), some (.int a0), some (.int a1), some (.int a2), some (.int a3), none, none, none, none, none, none]) (st' := [.ref 0, .int a1, .int a0, .ref 0]) 4 rfl ?_
          refine kx_q_getI (k := 4) kmo_0 rfl kfl_X5_82 rfl ?_
          refine kx_go (pc' := 51) (L' := [some (.ref 0), some (.int a0), some (.int a1), some (.int a2), some (.int a3), none, none, none, none, none, none]) (st' := [.int ((M.1 0 4) - (1 : Int32)), .int a1, .int a0, .ref 0]) 2 rfl ?_
          obtain ⟨v14, hv15, h⟩ := kx_bn_some h
          refine kx_q_callV (as := [.int a0, .int a1, .int ((M.1 0 4) - (1 : Int32))]) (rest := []) (M1 := M) (rv := some (.int v14)) kmo_0 rfl klk_X5_263 kse_X5_noTwos rfl rfl rfl rfl (Nat.le_of_ble_eq_true rfl) (Nat.le_of_ble_eq_true rfl) (c_X5_noTwos (d := d + 2) a0 a1 ((M.1 0 4) - (1 : Int32)) M v14 hv15) ?_
          show kx_Rn _ _ _ (54, [some (.ref 0), some (.int a0), some (.int a1), some (.int a2), some (.int a3), none, none, none, none, none, none], [.int v14], M) _ _
          refine kx_go (pc' := 58) (L' := [some (.ref 0), some (.int a0), some (.int a1), some (.int a2), some (.int a3), some (.int v14), none, none, none, none, none]) (st' := [.int v14]) 2 rfl ?_
          refine kx_r_if_ge rfl (fun hc16 => ?_) (fun hc16 => ?_)
          · rw [if_pos hc16] at h
            refine kx_go (pc' := 69) (L' := [some (.ref 0), some (.int a0), some (.int a1), some (.int a2), some (.int a3), some (.int v14), none, none, none, none, none]) (st' := [.ref 0]) 1 rfl ?_
            refine kx_q_getR (k := 1) (j := 1) kmo_0 rfl kfl_X5_7 rfl ?_
            refine kx_go (pc' := 73) (L' := [some (.ref 0), some (.int a0), some (.int a1), some (.int a2), some (.int a3), some (.int v14), none, none, none, none, none]) (st' := [.int a2, .ref 1]) 1 rfl ?_
            obtain ⟨hi17, h⟩ := kx_ck_some h
            refine kx_q_iald (kma_1) rfl hi17 ?_
            refine kx_go (pc' := 88) (L' := [some (.ref 0), some (.int a0), some (.int a1), some (.int a2), some (.int a3), some (.int v14), some (.int (M.1 1 (a2).toNatClampNeg)), some (.int (-1 : Int32)), some (.int (-1 : Int32)), some (.int (0 : Int32)), some (.int (0 : Int32))]) (st' := []) 9 rfl ?_
            refine kx_wk [true, true, true, true, true, false, true, true, true, true, true] ?_
            exact t_X5_register_88 kx_fuel a0 a1 a2 a3 (M.1 1 (a2).toNatClampNeg) (-1 : Int32) (-1 : Int32) (0 : Int32) (0 : Int32) M h
          · rw [if_neg hc16] at h
            refine kx_go (pc' := 64) (L' := [some (.ref 0), some (.int a0), some (.int a1), some (.int a2), some (.int a3), some (.int v14), none, none, none, none, none]) (st' := [.int v14, .ref 0]) 2 rfl ?_
            obtain ⟨v18, M20, hv19, h⟩ := kx_bd_some h
            refine kx_q_callV (as := [.int v14]) (rest := []) (M1 := M20) (rv := some (.int v18)) kmo_0 rfl klk_X5_89 kse_X5_no rfl rfl rfl rfl (Nat.le_of_ble_eq_true rfl) (Nat.le_of_ble_eq_true rfl) (c_X5_no (d := d + 5) v14 M v18 M20 hv19) ?_
            show kx_Rn _ _ _ (67, [some (.ref 0), some (.int a0), some (.int a1), some (.int a2), some (.int a3), some (.int v14), none, none, none, none, none], [.int v18], M20) _ _
            cases h
            exact kx_r_iret rfl rfl
        · rw [if_neg hc13] at h
          refine kx_go (pc' := 38) (L' := [some (.ref 0), some (.int a0), some (.int a1), some (.int a2), some (.int a3), none, none, none, none, none, none]) (st' := [.int (-2 : Int32), .ref 0]) 2 rfl ?_
          obtain ⟨v21, M23, hv22, h⟩ := kx_bd_some h
          refine kx_q_callV (as := [.int (-2 : Int32)]) (rest := []) (M1 := M23) (rv := some (.int v21)) kmo_0 rfl klk_X5_89 kse_X5_no rfl rfl rfl rfl (Nat.le_of_ble_eq_true rfl) (Nat.le_of_ble_eq_true rfl) (c_X5_no (d := d + 5) (-2 : Int32) M v21 M23 hv22) ?_
          show kx_Rn _ _ _ (41, [some (.ref 0), some (.int a0), some (.int a1), some (.int a2), some (.int a3), none, none, none, none, none, none], [.int v21], M23) _ _
          cases h
          exact kx_r_iret rfl rfl
theorem c_X5_register {d : Nat} (a0 : Int32) (a1 : Int32) (a2 : Int32) (a3 : Int32) (M : kx_M) (r : Int32) (M' : kx_M) (h : f_X5_register a0 a1 a2 a3 M = some (r, M')) : kx_Call EM (d + 6) T_X5_register [.ref 0, .int a0, .int a1, .int a2, .int a3] M (some (.int r)) M' := kx_entry kok_X5_register (Nat.le_of_ble_eq_true rfl) rfl (t_X5_register (d := d) a0 a1 a2 a3 M h)
