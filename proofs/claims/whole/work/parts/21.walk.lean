set_option maxRecDepth 100000 in
set_option maxHeartbeats 4000000 in
theorem t_X4_paves {d : Nat} {r : Int32} {M' : kx_M} (a0 : Int32) (M : kx_M) (h : f_X4_paves a0 M = some (r, M')) : kx_Rn EX T_X4_paves (d + 3) (0, [some (.ref 0), some (.int a0), none], [], M) (some (.int r)) M' := by
  unfold f_X4_paves at h
  refine kx_go (pc' := 2) (L' := [some (.ref 0), some (.int a0), none]) (st' := [.ref 0, .int a0]) 2 rfl ?_
  refine kx_q_getR (k := 0) (j := 1) kxo_0 rfl kfl_X4_10 rfl ?_
  refine kx_q_getI (k := 7) kxl_1.1 rfl kfl_X4_129 rfl ?_
  refine kx_go (pc' := 10) (L' := [some (.ref 0), some (.int a0), none]) (st' := [.int (24 : Int32), .int (M.1 1 7), .int a0]) 1 rfl ?_
  refine kx_r_callS (as := [.int a0, .int (M.1 1 7), .int (24 : Int32)]) (rest := []) (M1 := M) (rv := some (.int (kx_bi (f_X4_isWithin a0 (M.1 1 7) (24 : Int32))))) rfl klk_X4_55 kst_X4_isWithin rfl rfl (Nat.le_of_ble_eq_true rfl) (Nat.le_of_ble_eq_true rfl) (c_X4_isWithin (d := d + 2) a0 (M.1 1 7) (24 : Int32) M (f_X4_isWithin a0 (M.1 1 7) (24 : Int32)) rfl) ?_
  show kx_Rn _ _ _ (13, [some (.ref 0), some (.int a0), none], [.int (kx_bi (f_X4_isWithin a0 (M.1 1 7) (24 : Int32)))], M) _ _
  refine kx_q_zne rfl (fun hc1 => ?_) (fun hc1 => ?_)
  · rw [if_pos hc1] at h
    refine kx_go (pc' := 24) (L' := [some (.ref 0), some (.int a0), none]) (st' := [.ref 0]) 1 rfl ?_
    refine kx_q_getR (k := 0) (j := 1) kxo_0 rfl kfl_X4_10 rfl ?_
    refine kx_q_getI (k := 7) kxl_1.1 rfl kfl_X4_129 rfl ?_
    refine kx_go (pc' := 32) (L' := [some (.ref 0), some (.int a0), some (.int (M.1 1 7))]) (st' := [.ref 0]) 2 rfl ?_
    refine kx_q_getR (k := 0) (j := 1) kxo_0 rfl kfl_X4_10 rfl ?_
    refine kx_go (pc' := 36) (L' := [some (.ref 0), some (.int a0), some (.int (M.1 1 7))]) (st' := [.int a0, .ref 1]) 1 rfl ?_
    obtain ⟨M4, hv3, h⟩ := kx_bn_some h
    refine kx_q_callV (as := [.int a0]) (rest := []) (M1 := M4) (rv := none) kxl_1.1 rfl klk_X4_132 kse_X0_paveTo rfl rfl rfl rfl (Nat.le_of_ble_eq_true rfl) (Nat.le_of_ble_eq_true rfl) (c_X0_paveTo (d := d + 0) 1 (kxl_1) a0 M M4 hv3) ?_
    show kx_Rn _ _ _ (39, [some (.ref 0), some (.int a0), some (.int (M.1 1 7))], [], M4) _ _
    refine kx_go (pc' := 40) (L' := [some (.ref 0), some (.int a0), some (.int (M.1 1 7))]) (st' := [.int (M.1 1 7)]) 1 rfl ?_
    cases h
    exact kx_r_iret rfl rfl
  · rw [if_neg hc1] at h
    refine kx_go (pc' := 19) (L' := [some (.ref 0), some (.int a0), none]) (st' := [.int (-2 : Int32), .ref 0]) 2 rfl ?_
    obtain ⟨v5, M7, hv6, h⟩ := kx_bd_some h
    refine kx_q_callV (as := [.int (-2 : Int32)]) (rest := []) (M1 := M7) (rv := some (.int v5)) kxo_0 rfl klk_X4_59 kse_X4_refuse rfl rfl rfl rfl (Nat.le_of_ble_eq_true rfl) (Nat.le_of_ble_eq_true rfl) (c_X4_refuse (d := d + 1) (-2 : Int32) M v5 M7 hv6) ?_
    show kx_Rn _ _ _ (22, [some (.ref 0), some (.int a0), none], [.int v5], M7) _ _
    cases h
    exact kx_r_iret rfl rfl
theorem c_X4_paves {d : Nat} (a0 : Int32) (M : kx_M) (r : Int32) (M' : kx_M) (h : f_X4_paves a0 M = some (r, M')) : kx_Call EX (d + 3) T_X4_paves [.ref 0, .int a0] M (some (.int r)) M' := kx_entry kok_X4_paves (Nat.le_of_ble_eq_true rfl) rfl (t_X4_paves (d := d) a0 M h)
set_option maxRecDepth 100000 in
set_option maxHeartbeats 4000000 in
theorem t_X4_isLevel {E : kx_E} {d : Nat} {r : Bool} (M : kx_M) (a0 : Int32) (h : f_X4_isLevel a0 = r) : kx_Rn E T_X4_isLevel (d + 1) (0, [some (.int a0)], [], M) (some (.int (kx_bi r))) M := by
  unfold f_X4_isLevel at h
  refine kx_go (pc' := 4) (L' := [some (.int a0)]) (st' := [.int (20 : Int32), .int (0 : Int32), .int a0]) 3 rfl ?_
  refine kx_r_callS (as := [.int a0, .int (0 : Int32), .int (20 : Int32)]) (rest := []) (M1 := M) (rv := some (.int (kx_bi (f_X4_isWithin a0 (0 : Int32) (20 : Int32))))) rfl klk_X4_55 kst_X4_isWithin rfl rfl (Nat.le_of_ble_eq_true rfl) (Nat.le_of_ble_eq_true rfl) (c_X4_isWithin (d := d + 0) a0 (0 : Int32) (20 : Int32) M (f_X4_isWithin a0 (0 : Int32) (20 : Int32)) rfl) ?_
  show kx_Rn _ _ _ (7, [some (.int a0)], [.int (kx_bi (f_X4_isWithin a0 (0 : Int32) (20 : Int32)))], M) _ _
  subst h
  exact kx_r_zret rfl rfl (kx_bi_or _)
theorem c_X4_isLevel {E : kx_E} {d : Nat} (a0 : Int32) (M : kx_M) (r : Bool) (h : f_X4_isLevel a0 = r) : kx_Call E (d + 1) T_X4_isLevel [.int a0] M (some (.int (kx_bi r))) M := kx_entry kok_X4_isLevel (Nat.le_of_ble_eq_true rfl) rfl (t_X4_isLevel (d := d) M a0 h)
set_option maxRecDepth 100000 in
set_option maxHeartbeats 4000000 in
theorem t_X4_visitor {d : Nat} {r : Int32} {M' : kx_M} (a0 : Int32) (a1 : Int32) (a2 : Int32) (M : kx_M) (h : f_X4_visitor a0 a1 a2 M = some (r, M')) : kx_Rn EX T_X4_visitor (d + 2) (0, [some (.ref 0), some (.int a0), some (.int a1), some (.int a2)], [], M) (some (.int r)) M' := by
  unfold f_X4_visitor at h
  refine kx_go (pc' := 1) (L' := [some (.ref 0), some (.int a0), some (.int a1), some (.int a2)]) (st' := [.int a0]) 1 rfl ?_
  refine kx_r_callS (as := [.int a0]) (rest := []) (M1 := M) (rv := some (.int (kx_bi (f_X4_isKind a0)))) rfl klk_X4_107 kst_X4_isKind rfl rfl (Nat.le_of_ble_eq_true rfl) (Nat.le_of_ble_eq_true rfl) (c_X4_isKind (d := d + 0) a0 M (f_X4_isKind a0) rfl) ?_
  show kx_Rn _ _ _ (4, [some (.ref 0), some (.int a0), some (.int a1), some (.int a2)], [.int (kx_bi (f_X4_isKind a0))], M) _ _
  refine kx_q_zeq rfl (fun hc1 => ?_) (fun hc1 => ?_)
  · rw [if_neg hc1] at h
    refine kx_go (pc' := 27) (L' := [some (.ref 0), some (.int a0), some (.int a1), some (.int a2)]) (st' := [.int (-2 : Int32), .ref 0]) 2 rfl ?_
    obtain ⟨v2, M4, hv3, h⟩ := kx_bd_some h
    refine kx_q_callV (as := [.int (-2 : Int32)]) (rest := []) (M1 := M4) (rv := some (.int v2)) kxo_0 rfl klk_X4_59 kse_X4_refuse rfl rfl rfl rfl (Nat.le_of_ble_eq_true rfl) (Nat.le_of_ble_eq_true rfl) (c_X4_refuse (d := d + 0) (-2 : Int32) M v2 M4 hv3) ?_
    show kx_Rn _ _ _ (30, [some (.ref 0), some (.int a0), some (.int a1), some (.int a2)], [.int v2], M4) _ _
    cases h
    exact kx_r_iret rfl rfl
  · rw [if_pos hc1] at h
    refine kx_go (pc' := 11) (L' := [some (.ref 0), some (.int a0), some (.int a1), some (.int a2)]) (st' := [.int (9 : Int32), .int (0 : Int32), .int a1]) 3 rfl ?_
    refine kx_r_callS (as := [.int a1, .int (0 : Int32), .int (9 : Int32)]) (rest := []) (M1 := M) (rv := some (.int (kx_bi (f_X4_isWithin a1 (0 : Int32) (9 : Int32))))) rfl klk_X4_55 kst_X4_isWithin rfl rfl (Nat.le_of_ble_eq_true rfl) (Nat.le_of_ble_eq_true rfl) (c_X4_isWithin (d := d + 1) a1 (0 : Int32) (9 : Int32) M (f_X4_isWithin a1 (0 : Int32) (9 : Int32)) rfl) ?_
    show kx_Rn _ _ _ (14, [some (.ref 0), some (.int a0), some (.int a1), some (.int a2)], [.int (kx_bi (f_X4_isWithin a1 (0 : Int32) (9 : Int32)))], M) _ _
    refine kx_q_zeq rfl (fun hc5 => ?_) (fun hc5 => ?_)
    · rw [if_neg hc5] at h
      refine kx_go (pc' := 27) (L' := [some (.ref 0), some (.int a0), some (.int a1), some (.int a2)]) (st' := [.int (-2 : Int32), .ref 0]) 2 rfl ?_
      obtain ⟨v6, M8, hv7, h⟩ := kx_bd_some h
      refine kx_q_callV (as := [.int (-2 : Int32)]) (rest := []) (M1 := M8) (rv := some (.int v6)) kxo_0 rfl klk_X4_59 kse_X4_refuse rfl rfl rfl rfl (Nat.le_of_ble_eq_true rfl) (Nat.le_of_ble_eq_true rfl) (c_X4_refuse (d := d + 0) (-2 : Int32) M v6 M8 hv7) ?_
      show kx_Rn _ _ _ (30, [some (.ref 0), some (.int a0), some (.int a1), some (.int a2)], [.int v6], M8) _ _
      cases h
      exact kx_r_iret rfl rfl
    · rw [if_pos hc5] at h
      refine kx_go (pc' := 18) (L' := [some (.ref 0), some (.int a0), some (.int a1), some (.int a2)]) (st' := [.int a2]) 1 rfl ?_
      refine kx_r_callS (as := [.int a2]) (rest := []) (M1 := M) (rv := some (.int (kx_bi (f_X4_isLevel a2)))) rfl klk_X4_136 kst_X4_isLevel rfl rfl (Nat.le_of_ble_eq_true rfl) (Nat.le_of_ble_eq_true rfl) (c_X4_isLevel (d := d + 0) a2 M (f_X4_isLevel a2) rfl) ?_
      show kx_Rn _ _ _ (21, [some (.ref 0), some (.int a0), some (.int a1), some (.int a2)], [.int (kx_bi (f_X4_isLevel a2))], M) _ _
      refine kx_q_zne rfl (fun hc9 => ?_) (fun hc9 => ?_)
      · rw [if_pos hc9] at h
        refine kx_go (pc' := 32) (L' := [some (.ref 0), some (.int a0), some (.int a1), some (.int a2)]) (st' := [.ref 0]) 1 rfl ?_
        refine kx_q_getR (k := 0) (j := 1) kxo_0 rfl kfl_X4_10 rfl ?_
        refine kx_q_callV (as := []) (rest := []) (M1 := M) (rv := some (.int (kx_bi (f_X0_hasRoom 1 M)))) kxl_1.1 rfl klk_X4_139 kse_X0_hasRoom rfl rfl rfl rfl (Nat.le_of_ble_eq_true rfl) (Nat.le_of_ble_eq_true rfl) (c_X0_hasRoom (d := d + 1) 1 (kxl_1) M (f_X0_hasRoom 1 M) rfl) ?_
        show kx_Rn _ _ _ (38, [some (.ref 0), some (.int a0), some (.int a1), some (.int a2)], [.int (kx_bi (f_X0_hasRoom 1 M))], M) _ _
        refine kx_q_zne rfl (fun hc10 => ?_) (fun hc10 => ?_)
        · rw [if_pos hc10] at h
          refine kx_go (pc' := 49) (L' := [some (.ref 0), some (.int a0), some (.int a1), some (.int a2)]) (st' := [.ref 0]) 1 rfl ?_
          refine kx_q_getR (k := 0) (j := 1) kxo_0 rfl kfl_X4_10 rfl ?_
          refine kx_go (pc' := 55) (L' := [some (.ref 0), some (.int a0), some (.int a1), some (.int a2)]) (st' := [.int a2, .int a1, .int a0, .ref 1]) 3 rfl ?_
          obtain ⟨M13, hv12, h⟩ := kx_bn_some h
          refine kx_q_callV (as := [.int a0, .int a1, .int a2]) (rest := []) (M1 := M13) (rv := none) kxl_1.1 rfl klk_X4_142 kse_X0_let rfl rfl rfl rfl (Nat.le_of_ble_eq_true rfl) (Nat.le_of_ble_eq_true rfl) (c_X0_let (d := d + 1) 1 (kxl_1) a0 a1 a2 M M13 hv12) ?_
          show kx_Rn _ _ _ (58, [some (.ref 0), some (.int a0), some (.int a1), some (.int a2)], [], M13) _ _
          refine kx_go (pc' := 59) (L' := [some (.ref 0), some (.int a0), some (.int a1), some (.int a2)]) (st' := [.ref 0]) 1 rfl ?_
          refine kx_q_getR (k := 0) (j := 1) kxo_0 rfl kfl_X4_10 rfl ?_
          refine kx_q_getI (k := 11) kxl_1.1 rfl kfl_X4_146 rfl ?_
          refine kx_go (pc' := 67) (L' := [some (.ref 0), some (.int a0), some (.int a1), some (.int a2)]) (st' := [.int ((M13.1 1 11) - (1 : Int32))]) 2 rfl ?_
          cases h
          exact kx_r_iret rfl rfl
        · rw [if_neg hc10] at h
          refine kx_go (pc' := 44) (L' := [some (.ref 0), some (.int a0), some (.int a1), some (.int a2)]) (st' := [.int (-6 : Int32), .ref 0]) 2 rfl ?_
          obtain ⟨v14, M16, hv15, h⟩ := kx_bd_some h
          refine kx_q_callV (as := [.int (-6 : Int32)]) (rest := []) (M1 := M16) (rv := some (.int v14)) kxo_0 rfl klk_X4_59 kse_X4_refuse rfl rfl rfl rfl (Nat.le_of_ble_eq_true rfl) (Nat.le_of_ble_eq_true rfl) (c_X4_refuse (d := d + 0) (-6 : Int32) M v14 M16 hv15) ?_
          show kx_Rn _ _ _ (47, [some (.ref 0), some (.int a0), some (.int a1), some (.int a2)], [.int v14], M16) _ _
          cases h
          exact kx_r_iret rfl rfl
      · rw [if_neg hc9] at h
        refine kx_go (pc' := 27) (L' := [some (.ref 0), some (.int a0), some (.int a1), some (.int a2)]) (st' := [.int (-2 : Int32), .ref 0]) 2 rfl ?_
        obtain ⟨v17, M19, hv18, h⟩ := kx_bd_some h
        refine kx_q_callV (as := [.int (-2 : Int32)]) (rest := []) (M1 := M19) (rv := some (.int v17)) kxo_0 rfl klk_X4_59 kse_X4_refuse rfl rfl rfl rfl (Nat.le_of_ble_eq_true rfl) (Nat.le_of_ble_eq_true rfl) (c_X4_refuse (d := d + 0) (-2 : Int32) M v17 M19 hv18) ?_
        show kx_Rn _ _ _ (30, [some (.ref 0), some (.int a0), some (.int a1), some (.int a2)], [.int v17], M19) _ _
        cases h
        exact kx_r_iret rfl rfl
theorem c_X4_visitor {d : Nat} (a0 : Int32) (a1 : Int32) (a2 : Int32) (M : kx_M) (r : Int32) (M' : kx_M) (h : f_X4_visitor a0 a1 a2 M = some (r, M')) : kx_Call EX (d + 2) T_X4_visitor [.ref 0, .int a0, .int a1, .int a2] M (some (.int r)) M' := kx_entry kok_X4_visitor (Nat.le_of_ble_eq_true rfl) rfl (t_X4_visitor (d := d) a0 a1 a2 M h)
set_option maxRecDepth 100000 in
set_option maxHeartbeats 4000000 in
theorem t_X4_wants {d : Nat} {r : Int32} {M' : kx_M} (a0 : Int32) (a1 : Int32) (M : kx_M) (h : f_X4_wants a0 a1 M = some (r, M')) : kx_Rn EX T_X4_wants (d + 2) (0, [some (.ref 0), some (.int a0), some (.int a1), none], [], M) (some (.int r)) M' := by
  unfold f_X4_wants at h
  refine kx_go (pc' := 1) (L' := [some (.ref 0), some (.int a0), some (.int a1), none]) (st' := [.ref 0]) 1 rfl ?_
  refine kx_q_getR (k := 0) (j := 1) kxo_0 rfl kfl_X4_10 rfl ?_
  refine kx_go (pc' := 5) (L' := [some (.ref 0), some (.int a0), some (.int a1), none]) (st' := [.int a0, .ref 1]) 1 rfl ?_
  refine kx_q_callV (as := [.int a0]) (rest := []) (M1 := M) (rv := some (.int (kx_bi (f_X0_hasVisitor 1 M a0)))) kxl_1.1 rfl klk_X4_104 kse_X0_hasVisitor rfl rfl rfl rfl (Nat.le_of_ble_eq_true rfl) (Nat.le_of_ble_eq_true rfl) (c_X0_hasVisitor (d := d + 0) 1 (kxl_1) a0 M (f_X0_hasVisitor 1 M a0) rfl) ?_
  show kx_Rn _ _ _ (8, [some (.ref 0), some (.int a0), some (.int a1), none], [.int (kx_bi (f_X0_hasVisitor 1 M a0))], M) _ _
  refine kx_q_zeq rfl (fun hc1 => ?_) (fun hc1 => ?_)
  · rw [if_neg hc1] at h
    refine kx_go (pc' := 21) (L' := [some (.ref 0), some (.int a0), some (.int a1), none]) (st' := [.int (-2 : Int32), .ref 0]) 2 rfl ?_
    obtain ⟨v2, M4, hv3, h⟩ := kx_bd_some h
    refine kx_q_callV (as := [.int (-2 : Int32)]) (rest := []) (M1 := M4) (rv := some (.int v2)) kxo_0 rfl klk_X4_59 kse_X4_refuse rfl rfl rfl rfl (Nat.le_of_ble_eq_true rfl) (Nat.le_of_ble_eq_true rfl) (c_X4_refuse (d := d + 0) (-2 : Int32) M v2 M4 hv3) ?_
    show kx_Rn _ _ _ (24, [some (.ref 0), some (.int a0), some (.int a1), none], [.int v2], M4) _ _
    cases h
    exact kx_r_iret rfl rfl
  · rw [if_pos hc1] at h
    refine kx_go (pc' := 12) (L' := [some (.ref 0), some (.int a0), some (.int a1), none]) (st' := [.int a1]) 1 rfl ?_
    refine kx_r_callS (as := [.int a1]) (rest := []) (M1 := M) (rv := some (.int (kx_bi (f_X4_isLevel a1)))) rfl klk_X4_136 kst_X4_isLevel rfl rfl (Nat.le_of_ble_eq_true rfl) (Nat.le_of_ble_eq_true rfl) (c_X4_isLevel (d := d + 0) a1 M (f_X4_isLevel a1) rfl) ?_
    show kx_Rn _ _ _ (15, [some (.ref 0), some (.int a0), some (.int a1), none], [.int (kx_bi (f_X4_isLevel a1))], M) _ _
    refine kx_q_zne rfl (fun hc5 => ?_) (fun hc5 => ?_)
    · rw [if_pos hc5] at h
      refine kx_go (pc' := 26) (L' := [some (.ref 0), some (.int a0), some (.int a1), none]) (st' := [.ref 0]) 1 rfl ?_
      refine kx_q_getR (k := 0) (j := 1) kxo_0 rfl kfl_X4_10 rfl ?_
      refine kx_q_getR (k := 5) (j := 7) kxl_1.1 rfl kfl_X4_119 rfl ?_
      refine kx_go (pc' := 33) (L' := [some (.ref 0), some (.int a0), some (.int a1), none]) (st' := [.int a0, .ref 7]) 1 rfl ?_
      obtain ⟨hi6, h⟩ := kx_ck_some h
      refine kx_q_iald (kxl_1.2.2.2.2.2.2.1) rfl hi6 ?_
      refine kx_go (pc' := 36) (L' := [some (.ref 0), some (.int a0), some (.int a1), some (.int (M.1 7 (a0).toNatClampNeg))]) (st' := [.ref 0]) 2 rfl ?_
      refine kx_q_getR (k := 0) (j := 1) kxo_0 rfl kfl_X4_10 rfl ?_
      refine kx_q_getR (k := 5) (j := 7) kxl_1.1 rfl kfl_X4_119 rfl ?_
      refine kx_go (pc' := 44) (L' := [some (.ref 0), some (.int a0), some (.int a1), some (.int (M.1 7 (a0).toNatClampNeg))]) (st' := [.int a1, .int a0, .ref 7]) 2 rfl ?_
      obtain ⟨hi7, h⟩ := kx_ck_some h
      refine kx_q_iast (kxl_1.2.2.2.2.2.2.1) rfl hi7 ?_
      refine kx_go (pc' := 46) (L' := [some (.ref 0), some (.int a0), some (.int a1), some (.int (M.1 7 (a0).toNatClampNeg))]) (st' := [.int (M.1 7 (a0).toNatClampNeg)]) 1 rfl ?_
      cases h
      exact kx_r_iret rfl rfl
    · rw [if_neg hc5] at h
      refine kx_go (pc' := 21) (L' := [some (.ref 0), some (.int a0), some (.int a1), none]) (st' := [.int (-2 : Int32), .ref 0]) 2 rfl ?_
      obtain ⟨v8, M10, hv9, h⟩ := kx_bd_some h
      refine kx_q_callV (as := [.int (-2 : Int32)]) (rest := []) (M1 := M10) (rv := some (.int v8)) kxo_0 rfl klk_X4_59 kse_X4_refuse rfl rfl rfl rfl (Nat.le_of_ble_eq_true rfl) (Nat.le_of_ble_eq_true rfl) (c_X4_refuse (d := d + 0) (-2 : Int32) M v8 M10 hv9) ?_
      show kx_Rn _ _ _ (24, [some (.ref 0), some (.int a0), some (.int a1), none], [.int v8], M10) _ _
      cases h
      exact kx_r_iret rfl rfl
theorem c_X4_wants {d : Nat} (a0 : Int32) (a1 : Int32) (M : kx_M) (r : Int32) (M' : kx_M) (h : f_X4_wants a0 a1 M = some (r, M')) : kx_Call EX (d + 2) T_X4_wants [.ref 0, .int a0, .int a1] M (some (.int r)) M' := kx_entry kok_X4_wants (Nat.le_of_ble_eq_true rfl) rfl (t_X4_wants (d := d) a0 a1 M h)
set_option maxRecDepth 100000 in
set_option maxHeartbeats 4000000 in
theorem t_X4_isOneOfTwo {E : kx_E} {d : Nat} {r : Bool} (M : kx_M) (a0 : Int32) (h : f_X4_isOneOfTwo a0 = r) : kx_Rn E T_X4_isOneOfTwo (d + 0) (0, [some (.int a0)], [], M) (some (.int (kx_bi r))) M := by
  unfold f_X4_isOneOfTwo at h
  refine kx_go (pc' := 1) (L' := [some (.int a0)]) (st' := [.int a0]) 1 rfl ?_
  refine kx_r_if_eq rfl (fun hc1 => ?_) (fun hc1 => ?_)
  · rw [if_pos hc1] at h
    refine kx_go (pc' := 10) (L' := [some (.int a0)]) (st' := [.int (1 : Int32)]) 1 rfl ?_
    refine kx_r_goto rfl ?_
    subst h
    exact kx_r_zret rfl rfl (Or.inr rfl)
  · rw [if_neg hc1] at h
    refine kx_go (pc' := 6) (L' := [some (.int a0)]) (st' := [.int (1 : Int32), .int a0]) 2 rfl ?_
    refine kx_r_icmp_ne rfl (fun hc2 => ?_) (fun hc2 => ?_)
    · rw [if_neg hc2] at h
      refine kx_go (pc' := 14) (L' := [some (.int a0)]) (st' := [.int (0 : Int32)]) 1 rfl ?_
      subst h
      exact kx_r_zret rfl rfl (Or.inl rfl)
    · rw [if_pos hc2] at h
      refine kx_go (pc' := 10) (L' := [some (.int a0)]) (st' := [.int (1 : Int32)]) 1 rfl ?_
      refine kx_r_goto rfl ?_
      subst h
      exact kx_r_zret rfl rfl (Or.inr rfl)
theorem c_X4_isOneOfTwo {E : kx_E} {d : Nat} (a0 : Int32) (M : kx_M) (r : Bool) (h : f_X4_isOneOfTwo a0 = r) : kx_Call E (d + 0) T_X4_isOneOfTwo [.int a0] M (some (.int (kx_bi r))) M := kx_entry kok_X4_isOneOfTwo (Nat.le_of_ble_eq_true rfl) rfl (t_X4_isOneOfTwo (d := d) M a0 h)
set_option maxRecDepth 100000 in
set_option maxHeartbeats 4000000 in
theorem t_X4_mark_69 {d : Nat} {r : Int32} {M' : kx_M} (x1 : Int32) (x2 : Int32) (x3 : Int32) (s0 : Int32) (M : kx_M) (h : f_X4_mark_69 x1 x2 x3 s0 M = some (r, M')) : kx_Rn EX T_X4_mark (d + 3) (69, [some (.ref 0), some (.int x1), some (.int x2), some (.int x3), none], [.int s0], M) (some (.int r)) M' := by
  unfold f_X4_mark_69 at h
  refine kx_go (pc' := 72) (L' := [some (.ref 0), some (.int x1), some (.int x2), some (.int x3), some (.int s0)]) (st' := [.int x2]) 2 rfl ?_
  refine kx_r_if_ne rfl (fun hc1 => ?_) (fun hc1 => ?_)
  · rw [if_neg hc1] at h
    refine kx_go (pc' := 88) (L' := [some (.ref 0), some (.int x1), some (.int x2), some (.int x3), some (.int s0)]) (st' := [.ref 0]) 1 rfl ?_
    refine kx_q_getR (k := 0) (j := 1) kxo_0 rfl kfl_X4_10 rfl ?_
    refine kx_q_getR (k := 1) (j := 3) kxl_1.1 rfl kfl_X4_158 rfl ?_
    refine kx_go (pc' := 96) (L' := [some (.ref 0), some (.int x1), some (.int x2), some (.int x3), some (.int s0)]) (st' := [.int x3, .int x1, .ref 3]) 2 rfl ?_
    obtain ⟨hi2, h⟩ := kx_ck_some h
    refine kx_q_iast (kxl_1.2.2.1) rfl hi2 ?_
    refine kx_go (pc' := 99) (L' := [some (.ref 0), some (.int x1), some (.int x2), some (.int x3), some (.int s0)]) (st' := [.int s0]) 1 rfl ?_
    cases h
    exact kx_r_iret rfl rfl
  · rw [if_pos hc1] at h
    refine kx_go (pc' := 76) (L' := [some (.ref 0), some (.int x1), some (.int x2), some (.int x3), some (.int s0)]) (st' := [.ref 0]) 1 rfl ?_
    refine kx_q_getR (k := 0) (j := 1) kxo_0 rfl kfl_X4_10 rfl ?_
    refine kx_go (pc' := 81) (L' := [some (.ref 0), some (.int x1), some (.int x2), some (.int x3), some (.int s0)]) (st' := [.int x3, .int x1, .ref 1]) 2 rfl ?_
    obtain ⟨M5, hv4, h⟩ := kx_bn_some h
    refine kx_q_callV (as := [.int x1, .int x3]) (rest := []) (M1 := M5) (rv := none) kxl_1.1 rfl klk_X4_161 kse_X0_makeShy rfl rfl rfl rfl (Nat.le_of_ble_eq_true rfl) (Nat.le_of_ble_eq_true rfl) (c_X0_makeShy (d := d + 0) 1 (kxl_1) x1 x3 M M5 hv4) ?_
    show kx_Rn _ _ _ (84, [some (.ref 0), some (.int x1), some (.int x2), some (.int x3), some (.int s0)], [], M5) _ _
    refine kx_r_goto rfl ?_
    refine kx_go (pc' := 99) (L' := [some (.ref 0), some (.int x1), some (.int x2), some (.int x3), some (.int s0)]) (st' := [.int s0]) 1 rfl ?_
    cases h
    exact kx_r_iret rfl rfl
set_option maxRecDepth 100000 in
set_option maxHeartbeats 4000000 in
theorem t_X4_mark_31 {d : Nat} {r : Int32} {M' : kx_M} (x1 : Int32) (x2 : Int32) (x3 : Int32) (s0 : Int32) (s1 : Int32) (s2 : Int32) (M : kx_M) (h : f_X4_mark_31 x1 x2 x3 s0 s1 s2 M = some (r, M')) : kx_Rn EX T_X4_mark (d + 3) (31, [some (.ref 0), some (.int x1), some (.int x2), some (.int x3), none], [.int s0, .int s1, .int s2], M) (some (.int r)) M' := by
  unfold f_X4_mark_31 at h
  refine kx_r_callS (as := [.int s2, .int s1, .int s0]) (rest := []) (M1 := M) (rv := some (.int (kx_bi (f_X4_isWithin s2 s1 s0)))) rfl klk_X4_55 kst_X4_isWithin rfl rfl (Nat.le_of_ble_eq_true rfl) (Nat.le_of_ble_eq_true rfl) (c_X4_isWithin (d := d + 2) s2 s1 s0 M (f_X4_isWithin s2 s1 s0) rfl) ?_
  show kx_Rn _ _ _ (34, [some (.ref 0), some (.int x1), some (.int x2), some (.int x3), none], [.int (kx_bi (f_X4_isWithin s2 s1 s0))], M) _ _
  refine kx_q_zne rfl (fun hc1 => ?_) (fun hc1 => ?_)
  · rw [if_pos hc1] at h
    refine kx_go (pc' := 45) (L' := [some (.ref 0), some (.int x1), some (.int x2), some (.int x3), none]) (st' := [.int x2]) 1 rfl ?_
    refine kx_r_if_ne rfl (fun hc2 => ?_) (fun hc2 => ?_)
    · rw [if_neg hc2] at h
      refine kx_go (pc' := 61) (L' := [some (.ref 0), some (.int x1), some (.int x2), some (.int x3), none]) (st' := [.ref 0]) 1 rfl ?_
      refine kx_q_getR (k := 0) (j := 1) kxo_0 rfl kfl_X4_10 rfl ?_
      refine kx_q_getR (k := 1) (j := 3) kxl_1.1 rfl kfl_X4_158 rfl ?_
      refine kx_go (pc' := 68) (L' := [some (.ref 0), some (.int x1), some (.int x2), some (.int x3), none]) (st' := [.int x1, .ref 3]) 1 rfl ?_
      obtain ⟨hi3, h⟩ := kx_ck_some h
      refine kx_q_iald (kxl_1.2.2.1) rfl hi3 ?_
      refine kx_wk [true, true, true, true, false] ?_
      exact t_X4_mark_69 x1 x2 x3 (M.1 3 (x1).toNatClampNeg) M h
    · rw [if_pos hc2] at h
      refine kx_go (pc' := 49) (L' := [some (.ref 0), some (.int x1), some (.int x2), some (.int x3), none]) (st' := [.ref 0]) 1 rfl ?_
      refine kx_q_getR (k := 0) (j := 1) kxo_0 rfl kfl_X4_10 rfl ?_
      refine kx_q_getR (k := 0) (j := 2) kxl_1.1 rfl kfl_X4_155 rfl ?_
      refine kx_go (pc' := 56) (L' := [some (.ref 0), some (.int x1), some (.int x2), some (.int x3), none]) (st' := [.int x1, .ref 2]) 1 rfl ?_
      obtain ⟨hi4, h⟩ := kx_ck_some h
      refine kx_q_iald (kxl_1.2.1) rfl hi4 ?_
      refine kx_r_goto rfl ?_
      refine kx_wk [true, true, true, true, false] ?_
      exact t_X4_mark_69 x1 x2 x3 (M.1 2 (x1).toNatClampNeg) M h
  · rw [if_neg hc1] at h
    refine kx_go (pc' := 40) (L' := [some (.ref 0), some (.int x1), some (.int x2), some (.int x3), none]) (st' := [.int (-2 : Int32), .ref 0]) 2 rfl ?_
    obtain ⟨v5, M7, hv6, h⟩ := kx_bd_some h
    refine kx_q_callV (as := [.int (-2 : Int32)]) (rest := []) (M1 := M7) (rv := some (.int v5)) kxo_0 rfl klk_X4_59 kse_X4_refuse rfl rfl rfl rfl (Nat.le_of_ble_eq_true rfl) (Nat.le_of_ble_eq_true rfl) (c_X4_refuse (d := d + 1) (-2 : Int32) M v5 M7 hv6) ?_
    show kx_Rn _ _ _ (43, [some (.ref 0), some (.int x1), some (.int x2), some (.int x3), none], [.int v5], M7) _ _
    cases h
    exact kx_r_iret rfl rfl
set_option maxRecDepth 100000 in
set_option maxHeartbeats 4000000 in
theorem t_X4_mark {d : Nat} {r : Int32} {M' : kx_M} (a0 : Int32) (a1 : Int32) (a2 : Int32) (M : kx_M) (h : f_X4_mark a0 a1 a2 M = some (r, M')) : kx_Rn EX T_X4_mark (d + 3) (0, [some (.ref 0), some (.int a0), some (.int a1), some (.int a2), none], [], M) (some (.int r)) M' := by
  unfold f_X4_mark at h
  refine kx_go (pc' := 1) (L' := [some (.ref 0), some (.int a0), some (.int a1), some (.int a2), none]) (st' := [.ref 0]) 1 rfl ?_
  refine kx_q_getR (k := 0) (j := 1) kxo_0 rfl kfl_X4_10 rfl ?_
  refine kx_go (pc' := 5) (L' := [some (.ref 0), some (.int a0), some (.int a1), some (.int a2), none]) (st' := [.int a0, .ref 1]) 1 rfl ?_
  refine kx_q_callV (as := [.int a0]) (rest := []) (M1 := M) (rv := some (.int (kx_bi (f_X0_hasCell 1 M a0)))) kxl_1.1 rfl klk_X4_149 kse_X0_hasCell rfl rfl rfl rfl (Nat.le_of_ble_eq_true rfl) (Nat.le_of_ble_eq_true rfl) (c_X0_hasCell (d := d + 1) 1 (kxl_1) a0 M (f_X0_hasCell 1 M a0) rfl) ?_
  show kx_Rn _ _ _ (8, [some (.ref 0), some (.int a0), some (.int a1), some (.int a2), none], [.int (kx_bi (f_X0_hasCell 1 M a0))], M) _ _
  refine kx_q_zeq rfl (fun hc1 => ?_) (fun hc1 => ?_)
  · rw [if_neg hc1] at h
    refine kx_go (pc' := 40) (L' := [some (.ref 0), some (.int a0), some (.int a1), some (.int a2), none]) (st' := [.int (-2 : Int32), .ref 0]) 2 rfl ?_
    obtain ⟨v2, M4, hv3, h⟩ := kx_bd_some h
    refine kx_q_callV (as := [.int (-2 : Int32)]) (rest := []) (M1 := M4) (rv := some (.int v2)) kxo_0 rfl klk_X4_59 kse_X4_refuse rfl rfl rfl rfl (Nat.le_of_ble_eq_true rfl) (Nat.le_of_ble_eq_true rfl) (c_X4_refuse (d := d + 1) (-2 : Int32) M v2 M4 hv3) ?_
    show kx_Rn _ _ _ (43, [some (.ref 0), some (.int a0), some (.int a1), some (.int a2), none], [.int v2], M4) _ _
    cases h
    exact kx_r_iret rfl rfl
  · rw [if_pos hc1] at h
    refine kx_go (pc' := 12) (L' := [some (.ref 0), some (.int a0), some (.int a1), some (.int a2), none]) (st' := [.int a1]) 1 rfl ?_
    refine kx_r_callS (as := [.int a1]) (rest := []) (M1 := M) (rv := some (.int (kx_bi (f_X4_isOneOfTwo a1)))) rfl klk_X4_152 kst_X4_isOneOfTwo rfl rfl (Nat.le_of_ble_eq_true rfl) (Nat.le_of_ble_eq_true rfl) (c_X4_isOneOfTwo (d := d + 2) a1 M (f_X4_isOneOfTwo a1) rfl) ?_
    show kx_Rn _ _ _ (15, [some (.ref 0), some (.int a0), some (.int a1), some (.int a2), none], [.int (kx_bi (f_X4_isOneOfTwo a1))], M) _ _
    refine kx_q_zeq rfl (fun hc5 => ?_) (fun hc5 => ?_)
    · rw [if_neg hc5] at h
      refine kx_go (pc' := 40) (L' := [some (.ref 0), some (.int a0), some (.int a1), some (.int a2), none]) (st' := [.int (-2 : Int32), .ref 0]) 2 rfl ?_
      obtain ⟨v6, M8, hv7, h⟩ := kx_bd_some h
      refine kx_q_callV (as := [.int (-2 : Int32)]) (rest := []) (M1 := M8) (rv := some (.int v6)) kxo_0 rfl klk_X4_59 kse_X4_refuse rfl rfl rfl rfl (Nat.le_of_ble_eq_true rfl) (Nat.le_of_ble_eq_true rfl) (c_X4_refuse (d := d + 1) (-2 : Int32) M v6 M8 hv7) ?_
      show kx_Rn _ _ _ (43, [some (.ref 0), some (.int a0), some (.int a1), some (.int a2), none], [.int v6], M8) _ _
      cases h
      exact kx_r_iret rfl rfl
    · rw [if_pos hc5] at h
      refine kx_go (pc' := 21) (L' := [some (.ref 0), some (.int a0), some (.int a1), some (.int a2), none]) (st' := [.int a1, .int (0 : Int32), .int a2]) 3 rfl ?_
      refine kx_r_if_ne rfl (fun hc9 => ?_) (fun hc9 => ?_)
      · rw [if_neg hc9] at h
        refine kx_go (pc' := 31) (L' := [some (.ref 0), some (.int a0), some (.int a1), some (.int a2), none]) (st' := [.int (9 : Int32), .int (0 : Int32), .int a2]) 1 rfl ?_
        refine kx_wk [true, true, true, true, false] ?_
        exact t_X4_mark_31 a0 a1 a2 (9 : Int32) (0 : Int32) a2 M h
      · rw [if_pos hc9] at h
        refine kx_go (pc' := 26) (L' := [some (.ref 0), some (.int a0), some (.int a1), some (.int a2), none]) (st' := [.int (20 : Int32), .int (0 : Int32), .int a2]) 1 rfl ?_
        refine kx_r_goto rfl ?_
        refine kx_wk [true, true, true, true, false] ?_
        exact t_X4_mark_31 a0 a1 a2 (20 : Int32) (0 : Int32) a2 M h
theorem c_X4_mark {d : Nat} (a0 : Int32) (a1 : Int32) (a2 : Int32) (M : kx_M) (r : Int32) (M' : kx_M) (h : f_X4_mark a0 a1 a2 M = some (r, M')) : kx_Call EX (d + 3) T_X4_mark [.ref 0, .int a0, .int a1, .int a2] M (some (.int r)) M' := kx_entry kok_X4_mark (Nat.le_of_ble_eq_true rfl) rfl (t_X4_mark (d := d) a0 a1 a2 M h)
set_option maxRecDepth 100000 in
set_option maxHeartbeats 4000000 in
theorem t_X4_tell_55 {d : Nat} {r : Int32} {M' : kx_M} (x1 : Int32) (x2 : Int32) (s0 : Int32) (M : kx_M) (h : f_X4_tell_55 x1 x2 s0 M = some (r, M')) : kx_Rn EX T_X4_tell (d + 2) (55, [some (.ref 0), some (.int x1), some (.int x2), none], [.int s0], M) (some (.int r)) M' := by
  unfold f_X4_tell_55 at h
  refine kx_go (pc' := 57) (L' := [some (.ref 0), some (.int x1), some (.int x2), some (.int s0)]) (st' := [.int x1]) 2 rfl ?_
  refine kx_r_if_ne rfl (fun hc1 => ?_) (fun hc1 => ?_)
  · rw [if_neg hc1] at h
    refine kx_go (pc' := 72) (L' := [some (.ref 0), some (.int x1), some (.int x2), some (.int s0)]) (st' := [.ref 0]) 1 rfl ?_
    refine kx_q_getR (k := 0) (j := 1) kxo_0 rfl kfl_X4_10 rfl ?_
    refine kx_go (pc' := 76) (L' := [some (.ref 0), some (.int x1), some (.int x2), some (.int s0)]) (st' := [.int x2, .ref 1]) 1 rfl ?_
    refine kx_q_putI (k := 9) kxl_1.1 rfl kfw_X4_164 rfl ?_
    refine kx_go (pc' := 80) (L' := [some (.ref 0), some (.int x1), some (.int x2), some (.int s0)]) (st' := [.int s0]) 1 rfl ?_
    cases h
    exact kx_r_iret rfl rfl
  · rw [if_pos hc1] at h
    refine kx_go (pc' := 61) (L' := [some (.ref 0), some (.int x1), some (.int x2), some (.int s0)]) (st' := [.ref 0]) 1 rfl ?_
    refine kx_q_getR (k := 0) (j := 1) kxo_0 rfl kfl_X4_10 rfl ?_
    refine kx_go (pc' := 65) (L' := [some (.ref 0), some (.int x1), some (.int x2), some (.int s0)]) (st' := [.int x2, .ref 1]) 1 rfl ?_
    refine kx_q_putI (k := 8) kxl_1.1 rfl kfw_X4_122 rfl ?_
    refine kx_r_goto rfl ?_
    refine kx_go (pc' := 80) (L' := [some (.ref 0), some (.int x1), some (.int x2), some (.int s0)]) (st' := [.int s0]) 1 rfl ?_
    cases h
    exact kx_r_iret rfl rfl
set_option maxRecDepth 100000 in
set_option maxHeartbeats 4000000 in
theorem t_X4_tell_21 {d : Nat} {r : Int32} {M' : kx_M} (x1 : Int32) (x2 : Int32) (s0 : Int32) (s1 : Int32) (s2 : Int32) (M : kx_M) (h : f_X4_tell_21 x1 x2 s0 s1 s2 M = some (r, M')) : kx_Rn EX T_X4_tell (d + 2) (21, [some (.ref 0), some (.int x1), some (.int x2), none], [.int s0, .int s1, .int s2], M) (some (.int r)) M' := by
  unfold f_X4_tell_21 at h
  refine kx_r_callS (as := [.int s2, .int s1, .int s0]) (rest := []) (M1 := M) (rv := some (.int (kx_bi (f_X4_isWithin s2 s1 s0)))) rfl klk_X4_55 kst_X4_isWithin rfl rfl (Nat.le_of_ble_eq_true rfl) (Nat.le_of_ble_eq_true rfl) (c_X4_isWithin (d := d + 1) s2 s1 s0 M (f_X4_isWithin s2 s1 s0) rfl) ?_
  show kx_Rn _ _ _ (24, [some (.ref 0), some (.int x1), some (.int x2), none], [.int (kx_bi (f_X4_isWithin s2 s1 s0))], M) _ _
  refine kx_q_zne rfl (fun hc1 => ?_) (fun hc1 => ?_)
  · rw [if_pos hc1] at h
    refine kx_go (pc' := 35) (L' := [some (.ref 0), some (.int x1), some (.int x2), none]) (st' := [.int x1]) 1 rfl ?_
    refine kx_r_if_ne rfl (fun hc2 => ?_) (fun hc2 => ?_)
    · rw [if_neg hc2] at h
      refine kx_go (pc' := 49) (L' := [some (.ref 0), some (.int x1), some (.int x2), none]) (st' := [.ref 0]) 1 rfl ?_
      refine kx_q_getR (k := 0) (j := 1) kxo_0 rfl kfl_X4_10 rfl ?_
      refine kx_q_getI (k := 9) kxl_1.1 rfl kfl_X4_164 rfl ?_
      refine kx_wk [true, true, true, false] ?_
      exact t_X4_tell_55 x1 x2 (M.1 1 9) M h
    · rw [if_pos hc2] at h
      refine kx_go (pc' := 39) (L' := [some (.ref 0), some (.int x1), some (.int x2), none]) (st' := [.ref 0]) 1 rfl ?_
      refine kx_q_getR (k := 0) (j := 1) kxo_0 rfl kfl_X4_10 rfl ?_
      refine kx_q_getI (k := 8) kxl_1.1 rfl kfl_X4_122 rfl ?_
      refine kx_r_goto rfl ?_
      refine kx_wk [true, true, true, false] ?_
      exact t_X4_tell_55 x1 x2 (M.1 1 8) M h
  · rw [if_neg hc1] at h
    refine kx_go (pc' := 30) (L' := [some (.ref 0), some (.int x1), some (.int x2), none]) (st' := [.int (-2 : Int32), .ref 0]) 2 rfl ?_
    obtain ⟨v3, M5, hv4, h⟩ := kx_bd_some h
    refine kx_q_callV (as := [.int (-2 : Int32)]) (rest := []) (M1 := M5) (rv := some (.int v3)) kxo_0 rfl klk_X4_59 kse_X4_refuse rfl rfl rfl rfl (Nat.le_of_ble_eq_true rfl) (Nat.le_of_ble_eq_true rfl) (c_X4_refuse (d := d + 0) (-2 : Int32) M v3 M5 hv4) ?_
    show kx_Rn _ _ _ (33, [some (.ref 0), some (.int x1), some (.int x2), none], [.int v3], M5) _ _
    cases h
    exact kx_r_iret rfl rfl
set_option maxRecDepth 100000 in
set_option maxHeartbeats 4000000 in
theorem t_X4_tell {d : Nat} {r : Int32} {M' : kx_M} (a0 : Int32) (a1 : Int32) (M : kx_M) (h : f_X4_tell a0 a1 M = some (r, M')) : kx_Rn EX T_X4_tell (d + 2) (0, [some (.ref 0), some (.int a0), some (.int a1), none], [], M) (some (.int r)) M' := by
  unfold f_X4_tell at h
  refine kx_go (pc' := 1) (L' := [some (.ref 0), some (.int a0), some (.int a1), none]) (st' := [.int a0]) 1 rfl ?_
  refine kx_r_callS (as := [.int a0]) (rest := []) (M1 := M) (rv := some (.int (kx_bi (f_X4_isOneOfTwo a0)))) rfl klk_X4_152 kst_X4_isOneOfTwo rfl rfl (Nat.le_of_ble_eq_true rfl) (Nat.le_of_ble_eq_true rfl) (c_X4_isOneOfTwo (d := d + 1) a0 M (f_X4_isOneOfTwo a0) rfl) ?_
  show kx_Rn _ _ _ (4, [some (.ref 0), some (.int a0), some (.int a1), none], [.int (kx_bi (f_X4_isOneOfTwo a0))], M) _ _
  refine kx_q_zeq rfl (fun hc1 => ?_) (fun hc1 => ?_)
  · rw [if_neg hc1] at h
    refine kx_go (pc' := 30) (L' := [some (.ref 0), some (.int a0), some (.int a1), none]) (st' := [.int (-2 : Int32), .ref 0]) 2 rfl ?_
    obtain ⟨v2, M4, hv3, h⟩ := kx_bd_some h
    refine kx_q_callV (as := [.int (-2 : Int32)]) (rest := []) (M1 := M4) (rv := some (.int v2)) kxo_0 rfl klk_X4_59 kse_X4_refuse rfl rfl rfl rfl (Nat.le_of_ble_eq_true rfl) (Nat.le_of_ble_eq_true rfl) (c_X4_refuse (d := d + 0) (-2 : Int32) M v2 M4 hv3) ?_
    show kx_Rn _ _ _ (33, [some (.ref 0), some (.int a0), some (.int a1), none], [.int v2], M4) _ _
    cases h
    exact kx_r_iret rfl rfl
  · rw [if_pos hc1] at h
    refine kx_go (pc' := 10) (L' := [some (.ref 0), some (.int a0), some (.int a1), none]) (st' := [.int a0, .int (0 : Int32), .int a1]) 3 rfl ?_
    refine kx_r_if_ne rfl (fun hc5 => ?_) (fun hc5 => ?_)
    · rw [if_neg hc5] at h
      refine kx_go (pc' := 21) (L' := [some (.ref 0), some (.int a0), some (.int a1), none]) (st' := [.int (999 : Int32), .int (0 : Int32), .int a1]) 1 rfl ?_
      refine kx_wk [true, true, true, false] ?_
      exact t_X4_tell_21 a0 a1 (999 : Int32) (0 : Int32) a1 M h
    · rw [if_pos hc5] at h
      refine kx_go (pc' := 15) (L' := [some (.ref 0), some (.int a0), some (.int a1), none]) (st' := [.int (20 : Int32), .int (0 : Int32), .int a1]) 1 rfl ?_
      refine kx_r_goto rfl ?_
      refine kx_wk [true, true, true, false] ?_
      exact t_X4_tell_21 a0 a1 (20 : Int32) (0 : Int32) a1 M h
theorem c_X4_tell {d : Nat} (a0 : Int32) (a1 : Int32) (M : kx_M) (r : Int32) (M' : kx_M) (h : f_X4_tell a0 a1 M = some (r, M')) : kx_Call EX (d + 2) T_X4_tell [.ref 0, .int a0, .int a1] M (some (.int r)) M' := kx_entry kok_X4_tell (Nat.le_of_ble_eq_true rfl) rfl (t_X4_tell (d := d) a0 a1 M h)
set_option maxRecDepth 100000 in
set_option maxHeartbeats 4000000 in
theorem t_X4_feed {d : Nat} {r : Int32} {M' : kx_M} (a0 : Int32) (M : kx_M) (h : f_X4_feed a0 M = some (r, M')) : kx_Rn EX T_X4_feed (d + 2) (0, [some (.ref 0), some (.int a0)], [], M) (some (.int r)) M' := by
  unfold f_X4_feed at h
  refine kx_go (pc' := 5) (L' := [some (.ref 0), some (.int a0)]) (st' := [.int (255 : Int32), .int (0 : Int32), .int a0]) 3 rfl ?_
  refine kx_r_callS (as := [.int a0, .int (0 : Int32), .int (255 : Int32)]) (rest := []) (M1 := M) (rv := some (.int (kx_bi (f_X4_isWithin a0 (0 : Int32) (255 : Int32))))) rfl klk_X4_55 kst_X4_isWithin rfl rfl (Nat.le_of_ble_eq_true rfl) (Nat.le_of_ble_eq_true rfl) (c_X4_isWithin (d := d + 1) a0 (0 : Int32) (255 : Int32) M (f_X4_isWithin a0 (0 : Int32) (255 : Int32)) rfl) ?_
  show kx_Rn _ _ _ (8, [some (.ref 0), some (.int a0)], [.int (kx_bi (f_X4_isWithin a0 (0 : Int32) (255 : Int32)))], M) _ _
  refine kx_q_zne rfl (fun hc1 => ?_) (fun hc1 => ?_)
  · rw [if_pos hc1] at h
    refine kx_go (pc' := 19) (L' := [some (.ref 0), some (.int a0)]) (st' := [.ref 0]) 1 rfl ?_
    refine kx_q_getR (k := 4) (j := 42) kxo_0 rfl kfl_X4_32 rfl ?_
    refine kx_q_callV (as := []) (rest := []) (M1 := M) (rv := some (.int (kx_bi (f_X3_hasRoom M)))) kxo_42 rfl klk_X4_167 kse_X3_hasRoom rfl rfl rfl rfl (Nat.le_of_ble_eq_true rfl) (Nat.le_of_ble_eq_true rfl) (c_X3_hasRoom (d := d + 1) M (f_X3_hasRoom M) rfl) ?_
    show kx_Rn _ _ _ (25, [some (.ref 0), some (.int a0)], [.int (kx_bi (f_X3_hasRoom M))], M) _ _
    refine kx_q_zne rfl (fun hc2 => ?_) (fun hc2 => ?_)
    · rw [if_pos hc2] at h
      refine kx_go (pc' := 36) (L' := [some (.ref 0), some (.int a0)]) (st' := [.ref 0]) 1 rfl ?_
      refine kx_q_getR (k := 4) (j := 42) kxo_0 rfl kfl_X4_32 rfl ?_
      refine kx_go (pc' := 40) (L' := [some (.ref 0), some (.int a0)]) (st' := [.int a0, .ref 42]) 1 rfl ?_
      obtain ⟨M5, hv4, h⟩ := kx_bn_some h
      refine kx_q_callV (as := [.int a0]) (rest := []) (M1 := M5) (rv := none) kxo_42 rfl klk_X4_168 kse_X3_add rfl rfl rfl rfl (Nat.le_of_ble_eq_true rfl) (Nat.le_of_ble_eq_true rfl) (c_X3_add (d := d + 1) a0 M M5 hv4) ?_
      show kx_Rn _ _ _ (43, [some (.ref 0), some (.int a0)], [], M5) _ _
      refine kx_go (pc' := 44) (L' := [some (.ref 0), some (.int a0)]) (st' := [.ref 0]) 1 rfl ?_
      refine kx_q_getR (k := 4) (j := 42) kxo_0 rfl kfl_X4_32 rfl ?_
      refine kx_q_getI (k := 1) kxo_42 rfl kfl_X4_171 rfl ?_
      cases h
      exact kx_r_iret rfl rfl
    · rw [if_neg hc2] at h
      refine kx_go (pc' := 31) (L' := [some (.ref 0), some (.int a0)]) (st' := [.int (-6 : Int32), .ref 0]) 2 rfl ?_
      obtain ⟨v6, M8, hv7, h⟩ := kx_bd_some h
      refine kx_q_callV (as := [.int (-6 : Int32)]) (rest := []) (M1 := M8) (rv := some (.int v6)) kxo_0 rfl klk_X4_59 kse_X4_refuse rfl rfl rfl rfl (Nat.le_of_ble_eq_true rfl) (Nat.le_of_ble_eq_true rfl) (c_X4_refuse (d := d + 0) (-6 : Int32) M v6 M8 hv7) ?_
      show kx_Rn _ _ _ (34, [some (.ref 0), some (.int a0)], [.int v6], M8) _ _
      cases h
      exact kx_r_iret rfl rfl
  · rw [if_neg hc1] at h
    refine kx_go (pc' := 14) (L' := [some (.ref 0), some (.int a0)]) (st' := [.int (-2 : Int32), .ref 0]) 2 rfl ?_
    obtain ⟨v9, M11, hv10, h⟩ := kx_bd_some h
    refine kx_q_callV (as := [.int (-2 : Int32)]) (rest := []) (M1 := M11) (rv := some (.int v9)) kxo_0 rfl klk_X4_59 kse_X4_refuse rfl rfl rfl rfl (Nat.le_of_ble_eq_true rfl) (Nat.le_of_ble_eq_true rfl) (c_X4_refuse (d := d + 0) (-2 : Int32) M v9 M11 hv10) ?_
    show kx_Rn _ _ _ (17, [some (.ref 0), some (.int a0)], [.int v9], M11) _ _
    cases h
    exact kx_r_iret rfl rfl
theorem c_X4_feed {d : Nat} (a0 : Int32) (M : kx_M) (r : Int32) (M' : kx_M) (h : f_X4_feed a0 M = some (r, M')) : kx_Call EX (d + 2) T_X4_feed [.ref 0, .int a0] M (some (.int r)) M' := kx_entry kok_X4_feed (Nat.le_of_ble_eq_true rfl) rfl (t_X4_feed (d := d) a0 M h)
set_option maxRecDepth 100000 in
set_option maxHeartbeats 4000000 in
theorem t_X4_wipe {d : Nat} {r : Int32} {M' : kx_M} (M : kx_M) (h : f_X4_wipe M = some (r, M')) : kx_Rn EX T_X4_wipe (d + 0) (0, [some (.ref 0), none], [], M) (some (.int r)) M' := by
  unfold f_X4_wipe at h
  refine kx_go (pc' := 1) (L' := [some (.ref 0), none]) (st' := [.ref 0]) 1 rfl ?_
  refine kx_q_getR (k := 4) (j := 42) kxo_0 rfl kfl_X4_32 rfl ?_
  refine kx_q_getI (k := 1) kxo_42 rfl kfl_X4_171 rfl ?_
  refine kx_go (pc' := 9) (L' := [some (.ref 0), some (.int (M.1 42 1))]) (st' := [.ref 0]) 2 rfl ?_
  refine kx_q_getR (k := 4) (j := 42) kxo_0 rfl kfl_X4_32 rfl ?_
  refine kx_go (pc' := 13) (L' := [some (.ref 0), some (.int (M.1 42 1))]) (st' := [.int (0 : Int32), .ref 42]) 1 rfl ?_
  refine kx_q_putI (k := 1) kxo_42 rfl kfw_X4_171 rfl ?_
  refine kx_go (pc' := 17) (L' := [some (.ref 0), some (.int (M.1 42 1))]) (st' := [.int (M.1 42 1)]) 1 rfl ?_
  cases h
  exact kx_r_iret rfl rfl
theorem c_X4_wipe {d : Nat} (M : kx_M) (r : Int32) (M' : kx_M) (h : f_X4_wipe M = some (r, M')) : kx_Call EX (d + 0) T_X4_wipe [.ref 0] M (some (.int r)) M' := kx_entry kok_X4_wipe (Nat.le_of_ble_eq_true rfl) rfl (t_X4_wipe (d := d) M h)
set_option maxRecDepth 100000 in
set_option maxHeartbeats 4000000 in
theorem t_X4_visitorOf {d : Nat} {r : Int32} {M' : kx_M} (a0 : Int32) (a1 : Int32) (M : kx_M) (h : f_X4_visitorOf a0 a1 M = some (r, M')) : kx_Rn EX T_X4_visitorOf (d + 2) (0, [some (.ref 0), some (.int a0), some (.int a1)], [], M) (some (.int r)) M' := by
  unfold f_X4_visitorOf at h
  refine kx_go (pc' := 1) (L' := [some (.ref 0), some (.int a0), some (.int a1)]) (st' := [.ref 0]) 1 rfl ?_
  refine kx_q_getR (k := 0) (j := 1) kxo_0 rfl kfl_X4_10 rfl ?_
  refine kx_go (pc' := 5) (L' := [some (.ref 0), some (.int a0), some (.int a1)]) (st' := [.int a0, .ref 1]) 1 rfl ?_
  refine kx_q_callV (as := [.int a0]) (rest := []) (M1 := M) (rv := some (.int (kx_bi (f_X0_hasVisitor 1 M a0)))) kxl_1.1 rfl klk_X4_104 kse_X0_hasVisitor rfl rfl rfl rfl (Nat.le_of_ble_eq_true rfl) (Nat.le_of_ble_eq_true rfl) (c_X0_hasVisitor (d := d + 0) 1 (kxl_1) a0 M (f_X0_hasVisitor 1 M a0) rfl) ?_
  show kx_Rn _ _ _ (8, [some (.ref 0), some (.int a0), some (.int a1)], [.int (kx_bi (f_X0_hasVisitor 1 M a0))], M) _ _
  refine kx_q_zne rfl (fun hc1 => ?_) (fun hc1 => ?_)
  · rw [if_pos hc1] at h
    refine kx_go (pc' := 19) (L' := [some (.ref 0), some (.int a0), some (.int a1)]) (st' := [.int a1]) 1 rfl ?_
    by_cases hc2 : a1 = (0 : Int32)
    · rw [if_pos hc2] at h
      refine kx_q_tsI (0 : Int32) (tgt := 52) (show decode T_X4_visitorOf.2.1 19 = .ok (.tableswitch 86 0 4 #[33, 43, 53, 63, 73], 33) from by decide +kernel) hc2 (by decide) (by decide) rfl (by decide) ?_
      refine kx_go (pc' := 53) (L' := [some (.ref 0), some (.int a0), some (.int a1)]) (st' := [.ref 0]) 1 rfl ?_
      refine kx_q_getR (k := 0) (j := 1) kxo_0 rfl kfl_X4_10 rfl ?_
      refine kx_q_getR (k := 3) (j := 5) kxl_1.1 rfl kfl_X4_113 rfl ?_
      refine kx_go (pc' := 60) (L' := [some (.ref 0), some (.int a0), some (.int a1)]) (st' := [.int a0, .ref 5]) 1 rfl ?_
      obtain ⟨hi3, h⟩ := kx_ck_some h
      refine kx_q_iald (kxl_1.2.2.2.2.1) rfl hi3 ?_
      cases h
      exact kx_r_iret rfl rfl
    · rw [if_neg hc2] at h
      by_cases hc4 : a1 = (1 : Int32)
      · rw [if_pos hc4] at h
        refine kx_q_tsI (1 : Int32) (tgt := 62) (show decode T_X4_visitorOf.2.1 19 = .ok (.tableswitch 86 0 4 #[33, 43, 53, 63, 73], 33) from by decide +kernel) hc4 (by decide) (by decide) rfl (by decide) ?_
        refine kx_go (pc' := 63) (L' := [some (.ref 0), some (.int a0), some (.int a1)]) (st' := [.ref 0]) 1 rfl ?_
        refine kx_q_getR (k := 0) (j := 1) kxo_0 rfl kfl_X4_10 rfl ?_
        refine kx_q_getR (k := 4) (j := 6) kxl_1.1 rfl kfl_X4_180 rfl ?_
        refine kx_go (pc' := 70) (L' := [some (.ref 0), some (.int a0), some (.int a1)]) (st' := [.int a0, .ref 6]) 1 rfl ?_
        obtain ⟨hi5, h⟩ := kx_ck_some h
        refine kx_q_iald (kxl_1.2.2.2.2.2.1) rfl hi5 ?_
        cases h
        exact kx_r_iret rfl rfl
      · rw [if_neg hc4] at h
        by_cases hc6 : a1 = (2 : Int32)
        · rw [if_pos hc6] at h
          refine kx_q_tsI (2 : Int32) (tgt := 72) (show decode T_X4_visitorOf.2.1 19 = .ok (.tableswitch 86 0 4 #[33, 43, 53, 63, 73], 33) from by decide +kernel) hc6 (by decide) (by decide) rfl (by decide) ?_
          refine kx_go (pc' := 73) (L' := [some (.ref 0), some (.int a0), some (.int a1)]) (st' := [.ref 0]) 1 rfl ?_
          refine kx_q_getR (k := 0) (j := 1) kxo_0 rfl kfl_X4_10 rfl ?_
          refine kx_q_getR (k := 5) (j := 7) kxl_1.1 rfl kfl_X4_119 rfl ?_
          refine kx_go (pc' := 80) (L' := [some (.ref 0), some (.int a0), some (.int a1)]) (st' := [.int a0, .ref 7]) 1 rfl ?_
          obtain ⟨hi7, h⟩ := kx_ck_some h
          refine kx_q_iald (kxl_1.2.2.2.2.2.2.1) rfl hi7 ?_
          cases h
          exact kx_r_iret rfl rfl
        · rw [if_neg hc6] at h
          by_cases hc8 : a1 = (3 : Int32)
          · rw [if_pos hc8] at h
            refine kx_q_tsI (3 : Int32) (tgt := 82) (show decode T_X4_visitorOf.2.1 19 = .ok (.tableswitch 86 0 4 #[33, 43, 53, 63, 73], 33) from by decide +kernel) hc8 (by decide) (by decide) rfl (by decide) ?_
            refine kx_go (pc' := 83) (L' := [some (.ref 0), some (.int a0), some (.int a1)]) (st' := [.ref 0]) 1 rfl ?_
            refine kx_q_getR (k := 0) (j := 1) kxo_0 rfl kfl_X4_10 rfl ?_
            refine kx_q_getR (k := 6) (j := 8) kxl_1.1 rfl kfl_X4_183 rfl ?_
            refine kx_go (pc' := 90) (L' := [some (.ref 0), some (.int a0), some (.int a1)]) (st' := [.int a0, .ref 8]) 1 rfl ?_
            obtain ⟨hi9, h⟩ := kx_ck_some h
            refine kx_q_iald (kxl_1.2.2.2.2.2.2.2) rfl hi9 ?_
            cases h
            exact kx_r_iret rfl rfl
          · rw [if_neg hc8] at h
            by_cases hc10 : a1 = (4 : Int32)
            · rw [if_pos hc10] at h
              refine kx_q_tsI (4 : Int32) (tgt := 92) (show decode T_X4_visitorOf.2.1 19 = .ok (.tableswitch 86 0 4 #[33, 43, 53, 63, 73], 33) from by decide +kernel) hc10 (by decide) (by decide) rfl (by decide) ?_
              refine kx_go (pc' := 93) (L' := [some (.ref 0), some (.int a0), some (.int a1)]) (st' := [.ref 0]) 1 rfl ?_
              refine kx_q_getR (k := 0) (j := 1) kxo_0 rfl kfl_X4_10 rfl ?_
              refine kx_q_getR (k := 6) (j := 8) kxl_1.1 rfl kfl_X4_183 rfl ?_
              refine kx_go (pc' := 100) (L' := [some (.ref 0), some (.int a0), some (.int a1)]) (st' := [.int a0, .ref 8]) 1 rfl ?_
              obtain ⟨hi11, h⟩ := kx_ck_some h
              refine kx_q_iald (kxl_1.2.2.2.2.2.2.2) rfl hi11 ?_
              refine kx_r_callS (as := [.int (M.1 8 (a0).toNatClampNeg)]) (rest := []) (M1 := M) (rv := some (.int (f_J6_bitCount_0f7a4 (M.1 8 (a0).toNatClampNeg)))) rfl klk_X4_186 kst_J6_bitCount_0f7a4 rfl rfl (Nat.le_of_ble_eq_true rfl) (Nat.le_of_ble_eq_true rfl) (c_J6_bitCount_0f7a4 (d := d + 1) (M.1 8 (a0).toNatClampNeg) M (f_J6_bitCount_0f7a4 (M.1 8 (a0).toNatClampNeg)) rfl) ?_
              show kx_Rn _ _ _ (104, [some (.ref 0), some (.int a0), some (.int a1)], [.int (f_J6_bitCount_0f7a4 (M.1 8 (a0).toNatClampNeg))], M) _ _
              cases h
              exact kx_r_iret rfl rfl
            · rw [if_neg hc10] at h
              have ghc2 : ¬ (a1).toInt = 0 := fun q => hc2 (Int32.toInt_inj.mp (q.trans (by decide)))
              have ghc4 : ¬ (a1).toInt = 1 := fun q => hc4 (Int32.toInt_inj.mp (q.trans (by decide)))
              have ghc6 : ¬ (a1).toInt = 2 := fun q => hc6 (Int32.toInt_inj.mp (q.trans (by decide)))
              have ghc8 : ¬ (a1).toInt = 3 := fun q => hc8 (Int32.toInt_inj.mp (q.trans (by decide)))
              have ghc10 : ¬ (a1).toInt = 4 := fun q => hc10 (Int32.toInt_inj.mp (q.trans (by decide)))
              refine kx_q_tsO (tgt := 105) (show decode T_X4_visitorOf.2.1 19 = .ok (.tableswitch 86 0 4 #[33, 43, 53, 63, 73], 33) from by decide +kernel) (by omega) (by decide) ?_
              refine kx_go (pc' := 108) (L' := [some (.ref 0), some (.int a0), some (.int a1)]) (st' := [.int (-2 : Int32), .ref 0]) 2 rfl ?_
              obtain ⟨v12, M14, hv13, h⟩ := kx_bd_some h
              refine kx_q_callV (as := [.int (-2 : Int32)]) (rest := []) (M1 := M14) (rv := some (.int v12)) kxo_0 rfl klk_X4_59 kse_X4_refuse rfl rfl rfl rfl (Nat.le_of_ble_eq_true rfl) (Nat.le_of_ble_eq_true rfl) (c_X4_refuse (d := d + 0) (-2 : Int32) M v12 M14 hv13) ?_
              show kx_Rn _ _ _ (111, [some (.ref 0), some (.int a0), some (.int a1)], [.int v12], M14) _ _
              cases h
              exact kx_r_iret rfl rfl
  · rw [if_neg hc1] at h
    refine kx_go (pc' := 14) (L' := [some (.ref 0), some (.int a0), some (.int a1)]) (st' := [.int (-2 : Int32), .ref 0]) 2 rfl ?_
    obtain ⟨v15, M17, hv16, h⟩ := kx_bd_some h
    refine kx_q_callV (as := [.int (-2 : Int32)]) (rest := []) (M1 := M17) (rv := some (.int v15)) kxo_0 rfl klk_X4_59 kse_X4_refuse rfl rfl rfl rfl (Nat.le_of_ble_eq_true rfl) (Nat.le_of_ble_eq_true rfl) (c_X4_refuse (d := d + 0) (-2 : Int32) M v15 M17 hv16) ?_
    show kx_Rn _ _ _ (17, [some (.ref 0), some (.int a0), some (.int a1)], [.int v15], M17) _ _
    cases h
    exact kx_r_iret rfl rfl
theorem c_X4_visitorOf {d : Nat} (a0 : Int32) (a1 : Int32) (M : kx_M) (r : Int32) (M' : kx_M) (h : f_X4_visitorOf a0 a1 M = some (r, M')) : kx_Call EX (d + 2) T_X4_visitorOf [.ref 0, .int a0, .int a1] M (some (.int r)) M' := kx_entry kok_X4_visitorOf (Nat.le_of_ble_eq_true rfl) rfl (t_X4_visitorOf (d := d) a0 a1 M h)
set_option maxRecDepth 100000 in
set_option maxHeartbeats 4000000 in
theorem t_X4_cellOf {d : Nat} {r : Int32} {M' : kx_M} (a0 : Int32) (a1 : Int32) (M : kx_M) (h : f_X4_cellOf a0 a1 M = some (r, M')) : kx_Rn EX T_X4_cellOf (d + 2) (0, [some (.ref 0), some (.int a0), some (.int a1)], [], M) (some (.int r)) M' := by
  unfold f_X4_cellOf at h
  refine kx_go (pc' := 1) (L' := [some (.ref 0), some (.int a0), some (.int a1)]) (st' := [.ref 0]) 1 rfl ?_
  refine kx_q_getR (k := 0) (j := 1) kxo_0 rfl kfl_X4_10 rfl ?_
  refine kx_go (pc' := 5) (L' := [some (.ref 0), some (.int a0), some (.int a1)]) (st' := [.int a0, .ref 1]) 1 rfl ?_
  refine kx_q_callV (as := [.int a0]) (rest := []) (M1 := M) (rv := some (.int (kx_bi (f_X0_hasCell 1 M a0)))) kxl_1.1 rfl klk_X4_149 kse_X0_hasCell rfl rfl rfl rfl (Nat.le_of_ble_eq_true rfl) (Nat.le_of_ble_eq_true rfl) (c_X0_hasCell (d := d + 0) 1 (kxl_1) a0 M (f_X0_hasCell 1 M a0) rfl) ?_
  show kx_Rn _ _ _ (8, [some (.ref 0), some (.int a0), some (.int a1)], [.int (kx_bi (f_X0_hasCell 1 M a0))], M) _ _
  refine kx_q_zne rfl (fun hc1 => ?_) (fun hc1 => ?_)
  · rw [if_pos hc1] at h
    refine kx_go (pc' := 19) (L' := [some (.ref 0), some (.int a0), some (.int a1)]) (st' := [.int a1]) 1 rfl ?_
    by_cases hc2 : a1 = (0 : Int32)
    · rw [if_pos hc2] at h
      refine kx_q_tsI (0 : Int32) (tgt := 44) (show decode T_X4_cellOf.2.1 19 = .ok (.tableswitch 54 0 2 #[25, 35, 45], 25) from by decide +kernel) hc2 (by decide) (by decide) rfl (by decide) ?_
      refine kx_go (pc' := 45) (L' := [some (.ref 0), some (.int a0), some (.int a1)]) (st' := [.ref 0]) 1 rfl ?_
      refine kx_q_getR (k := 0) (j := 1) kxo_0 rfl kfl_X4_10 rfl ?_
      refine kx_q_getR (k := 0) (j := 2) kxl_1.1 rfl kfl_X4_155 rfl ?_
      refine kx_go (pc' := 52) (L' := [some (.ref 0), some (.int a0), some (.int a1)]) (st' := [.int a0, .ref 2]) 1 rfl ?_
      obtain ⟨hi3, h⟩ := kx_ck_some h
      refine kx_q_iald (kxl_1.2.1) rfl hi3 ?_
      cases h
      exact kx_r_iret rfl rfl
    · rw [if_neg hc2] at h
      by_cases hc4 : a1 = (1 : Int32)
      · rw [if_pos hc4] at h
        refine kx_q_tsI (1 : Int32) (tgt := 54) (show decode T_X4_cellOf.2.1 19 = .ok (.tableswitch 54 0 2 #[25, 35, 45], 25) from by decide +kernel) hc4 (by decide) (by decide) rfl (by decide) ?_
        refine kx_go (pc' := 55) (L' := [some (.ref 0), some (.int a0), some (.int a1)]) (st' := [.ref 0]) 1 rfl ?_
        refine kx_q_getR (k := 0) (j := 1) kxo_0 rfl kfl_X4_10 rfl ?_
        refine kx_q_getR (k := 1) (j := 3) kxl_1.1 rfl kfl_X4_158 rfl ?_
        refine kx_go (pc' := 62) (L' := [some (.ref 0), some (.int a0), some (.int a1)]) (st' := [.int a0, .ref 3]) 1 rfl ?_
        obtain ⟨hi5, h⟩ := kx_ck_some h
        refine kx_q_iald (kxl_1.2.2.1) rfl hi5 ?_
        cases h
        exact kx_r_iret rfl rfl
      · rw [if_neg hc4] at h
        by_cases hc6 : a1 = (2 : Int32)
        · rw [if_pos hc6] at h
          refine kx_q_tsI (2 : Int32) (tgt := 64) (show decode T_X4_cellOf.2.1 19 = .ok (.tableswitch 54 0 2 #[25, 35, 45], 25) from by decide +kernel) hc6 (by decide) (by decide) rfl (by decide) ?_
          refine kx_go (pc' := 65) (L' := [some (.ref 0), some (.int a0), some (.int a1)]) (st' := [.ref 0]) 1 rfl ?_
          refine kx_q_getR (k := 0) (j := 1) kxo_0 rfl kfl_X4_10 rfl ?_
          refine kx_go (pc' := 69) (L' := [some (.ref 0), some (.int a0), some (.int a1)]) (st' := [.int a0, .ref 1]) 1 rfl ?_
          obtain ⟨v7, hv8, h⟩ := kx_bn_some h
          refine kx_q_callV (as := [.int a0]) (rest := []) (M1 := M) (rv := some (.int v7)) kxl_1.1 rfl klk_X4_191 kse_X0_seenBy rfl rfl rfl rfl (Nat.le_of_ble_eq_true rfl) (Nat.le_of_ble_eq_true rfl) (c_X0_seenBy (d := d + 0) 1 (kxl_1) a0 M v7 hv8) ?_
          show kx_Rn _ _ _ (72, [some (.ref 0), some (.int a0), some (.int a1)], [.int v7], M) _ _
          cases h
          exact kx_r_iret rfl rfl
        · rw [if_neg hc6] at h
          have ghc2 : ¬ (a1).toInt = 0 := fun q => hc2 (Int32.toInt_inj.mp (q.trans (by decide)))
          have ghc4 : ¬ (a1).toInt = 1 := fun q => hc4 (Int32.toInt_inj.mp (q.trans (by decide)))
          have ghc6 : ¬ (a1).toInt = 2 := fun q => hc6 (Int32.toInt_inj.mp (q.trans (by decide)))
          refine kx_q_tsO (tgt := 73) (show decode T_X4_cellOf.2.1 19 = .ok (.tableswitch 54 0 2 #[25, 35, 45], 25) from by decide +kernel) (by omega) (by decide) ?_
          refine kx_go (pc' := 76) (L' := [some (.ref 0), some (.int a0), some (.int a1)]) (st' := [.int (-2 : Int32), .ref 0]) 2 rfl ?_
          obtain ⟨v9, M11, hv10, h⟩ := kx_bd_some h
          refine kx_q_callV (as := [.int (-2 : Int32)]) (rest := []) (M1 := M11) (rv := some (.int v9)) kxo_0 rfl klk_X4_59 kse_X4_refuse rfl rfl rfl rfl (Nat.le_of_ble_eq_true rfl) (Nat.le_of_ble_eq_true rfl) (c_X4_refuse (d := d + 0) (-2 : Int32) M v9 M11 hv10) ?_
          show kx_Rn _ _ _ (79, [some (.ref 0), some (.int a0), some (.int a1)], [.int v9], M11) _ _
          cases h
          exact kx_r_iret rfl rfl
  · rw [if_neg hc1] at h
    refine kx_go (pc' := 14) (L' := [some (.ref 0), some (.int a0), some (.int a1)]) (st' := [.int (-2 : Int32), .ref 0]) 2 rfl ?_
    obtain ⟨v12, M14, hv13, h⟩ := kx_bd_some h
    refine kx_q_callV (as := [.int (-2 : Int32)]) (rest := []) (M1 := M14) (rv := some (.int v12)) kxo_0 rfl klk_X4_59 kse_X4_refuse rfl rfl rfl rfl (Nat.le_of_ble_eq_true rfl) (Nat.le_of_ble_eq_true rfl) (c_X4_refuse (d := d + 0) (-2 : Int32) M v12 M14 hv13) ?_
    show kx_Rn _ _ _ (17, [some (.ref 0), some (.int a0), some (.int a1)], [.int v12], M14) _ _
    cases h
    exact kx_r_iret rfl rfl
theorem c_X4_cellOf {d : Nat} (a0 : Int32) (a1 : Int32) (M : kx_M) (r : Int32) (M' : kx_M) (h : f_X4_cellOf a0 a1 M = some (r, M')) : kx_Call EX (d + 2) T_X4_cellOf [.ref 0, .int a0, .int a1] M (some (.int r)) M' := kx_entry kok_X4_cellOf (Nat.le_of_ble_eq_true rfl) rfl (t_X4_cellOf (d := d) a0 a1 M h)
set_option maxRecDepth 100000 in
set_option maxHeartbeats 4000000 in
theorem t_X4_open {d : Nat} {r : Int32} {M' : kx_M} (a0 : Int32) (a1 : Int32) (M : kx_M) (h : f_X4_open a0 a1 M = some (r, M')) : kx_Rn EX T_X4_open (d + 3) (0, [some (.ref 0), some (.int a0), some (.int a1)], [], M) (some (.int r)) M' := by
  unfold f_X4_open at h
  refine kx_go (pc' := 1) (L' := [some (.ref 0), some (.int a0), some (.int a1)]) (st' := [.ref 0]) 1 rfl ?_
  refine kx_q_getR (k := 0) (j := 1) kxo_0 rfl kfl_X4_10 rfl ?_
  refine kx_go (pc' := 6) (L' := [some (.ref 0), some (.int a0), some (.int a1)]) (st' := [.int a1, .int a0, .ref 1]) 2 rfl ?_
  refine kx_q_callV (as := [.int a0, .int a1]) (rest := []) (M1 := M) (rv := some (.int (kx_bi (f_X0_hasInGroup 1 M a0 a1)))) kxl_1.1 rfl klk_X4_194 kse_X0_hasInGroup rfl rfl rfl rfl (Nat.le_of_ble_eq_true rfl) (Nat.le_of_ble_eq_true rfl) (c_X0_hasInGroup (d := d + 0) 1 (kxl_1) a0 a1 M (f_X0_hasInGroup 1 M a0 a1) rfl) ?_
  show kx_Rn _ _ _ (9, [some (.ref 0), some (.int a0), some (.int a1)], [.int (kx_bi (f_X0_hasInGroup 1 M a0 a1))], M) _ _
  refine kx_q_zne rfl (fun hc1 => ?_) (fun hc1 => ?_)
  · rw [if_pos hc1] at h
    refine kx_go (pc' := 20) (L' := [some (.ref 0), some (.int a0), some (.int a1)]) (st' := [.ref 0]) 1 rfl ?_
    refine kx_q_getR (k := 0) (j := 1) kxo_0 rfl kfl_X4_10 rfl ?_
    refine kx_go (pc' := 26) (L' := [some (.ref 0), some (.int a0), some (.int a1)]) (st' := [.ref 0, .int a1, .int a0, .ref 1]) 3 rfl ?_
    refine kx_q_getR (k := 0) (j := 1) kxo_0 rfl kfl_X4_10 rfl ?_
    refine kx_q_getI (k := 8) kxl_1.1 rfl kfl_X4_122 rfl ?_
    obtain ⟨v2, hv3, h⟩ := kx_bn_some h
    refine kx_q_callV (as := [.int a0, .int a1, .int (M.1 1 8)]) (rest := []) (M1 := M) (rv := some (.int v2)) kxl_1.1 rfl klk_X4_125 kse_X0_openTo rfl rfl rfl rfl (Nat.le_of_ble_eq_true rfl) (Nat.le_of_ble_eq_true rfl) (c_X0_openTo (d := d + 0) 1 (kxl_1) a0 a1 (M.1 1 8) M v2 hv3) ?_
    show kx_Rn _ _ _ (35, [some (.ref 0), some (.int a0), some (.int a1)], [.int v2], M) _ _
    cases h
    exact kx_r_iret rfl rfl
  · rw [if_neg hc1] at h
    refine kx_go (pc' := 15) (L' := [some (.ref 0), some (.int a0), some (.int a1)]) (st' := [.int (-2 : Int32), .ref 0]) 2 rfl ?_
    obtain ⟨v4, M6, hv5, h⟩ := kx_bd_some h
    refine kx_q_callV (as := [.int (-2 : Int32)]) (rest := []) (M1 := M6) (rv := some (.int v4)) kxo_0 rfl klk_X4_59 kse_X4_refuse rfl rfl rfl rfl (Nat.le_of_ble_eq_true rfl) (Nat.le_of_ble_eq_true rfl) (c_X4_refuse (d := d + 1) (-2 : Int32) M v4 M6 hv5) ?_
    show kx_Rn _ _ _ (18, [some (.ref 0), some (.int a0), some (.int a1)], [.int v4], M6) _ _
    cases h
    exact kx_r_iret rfl rfl
theorem c_X4_open {d : Nat} (a0 : Int32) (a1 : Int32) (M : kx_M) (r : Int32) (M' : kx_M) (h : f_X4_open a0 a1 M = some (r, M')) : kx_Call EX (d + 3) T_X4_open [.ref 0, .int a0, .int a1] M (some (.int r)) M' := kx_entry kok_X4_open (Nat.le_of_ble_eq_true rfl) rfl (t_X4_open (d := d) a0 a1 M h)
set_option maxRecDepth 100000 in
set_option maxHeartbeats 4000000 in
theorem t_X4_shown {d : Nat} {r : Int32} {M' : kx_M} (a0 : Int32) (a1 : Int32) (M : kx_M) (h : f_X4_shown a0 a1 M = some (r, M')) : kx_Rn EX T_X4_shown (d + 4) (0, [some (.ref 0), some (.int a0), some (.int a1)], [], M) (some (.int r)) M' := by
  unfold f_X4_shown at h
  refine kx_go (pc' := 1) (L' := [some (.ref 0), some (.int a0), some (.int a1)]) (st' := [.ref 0]) 1 rfl ?_
  refine kx_q_getR (k := 0) (j := 1) kxo_0 rfl kfl_X4_10 rfl ?_
  refine kx_go (pc' := 6) (L' := [some (.ref 0), some (.int a0), some (.int a1)]) (st' := [.int a1, .int a0, .ref 1]) 2 rfl ?_
  refine kx_q_callV (as := [.int a0, .int a1]) (rest := []) (M1 := M) (rv := some (.int (kx_bi (f_X0_hasInGroup 1 M a0 a1)))) kxl_1.1 rfl klk_X4_194 kse_X0_hasInGroup rfl rfl rfl rfl (Nat.le_of_ble_eq_true rfl) (Nat.le_of_ble_eq_true rfl) (c_X0_hasInGroup (d := d + 1) 1 (kxl_1) a0 a1 M (f_X0_hasInGroup 1 M a0 a1) rfl) ?_
  show kx_Rn _ _ _ (9, [some (.ref 0), some (.int a0), some (.int a1)], [.int (kx_bi (f_X0_hasInGroup 1 M a0 a1))], M) _ _
  refine kx_q_zne rfl (fun hc1 => ?_) (fun hc1 => ?_)
  · rw [if_pos hc1] at h
    refine kx_go (pc' := 20) (L' := [some (.ref 0), some (.int a0), some (.int a1)]) (st' := [.ref 0]) 1 rfl ?_
    refine kx_q_getR (k := 0) (j := 1) kxo_0 rfl kfl_X4_10 rfl ?_
    refine kx_go (pc' := 26) (L' := [some (.ref 0), some (.int a0), some (.int a1)]) (st' := [.ref 0, .int a1, .int a0, .ref 1]) 3 rfl ?_
    refine kx_q_getR (k := 0) (j := 1) kxo_0 rfl kfl_X4_10 rfl ?_
    refine kx_q_getI (k := 8) kxl_1.1 rfl kfl_X4_122 rfl ?_
    obtain ⟨v2, hv3, h⟩ := kx_bn_some h
    refine kx_q_callV (as := [.int a0, .int a1, .int (M.1 1 8)]) (rest := []) (M1 := M) (rv := some (.int v2)) kxl_1.1 rfl klk_X4_197 kse_X0_shownTo rfl rfl rfl rfl (Nat.le_of_ble_eq_true rfl) (Nat.le_of_ble_eq_true rfl) (c_X0_shownTo (d := d + 0) 1 (kxl_1) a0 a1 (M.1 1 8) M v2 hv3) ?_
    show kx_Rn _ _ _ (35, [some (.ref 0), some (.int a0), some (.int a1)], [.int v2], M) _ _
    cases h
    exact kx_r_iret rfl rfl
  · rw [if_neg hc1] at h
    refine kx_go (pc' := 15) (L' := [some (.ref 0), some (.int a0), some (.int a1)]) (st' := [.int (-2 : Int32), .ref 0]) 2 rfl ?_
    obtain ⟨v4, M6, hv5, h⟩ := kx_bd_some h
    refine kx_q_callV (as := [.int (-2 : Int32)]) (rest := []) (M1 := M6) (rv := some (.int v4)) kxo_0 rfl klk_X4_59 kse_X4_refuse rfl rfl rfl rfl (Nat.le_of_ble_eq_true rfl) (Nat.le_of_ble_eq_true rfl) (c_X4_refuse (d := d + 2) (-2 : Int32) M v4 M6 hv5) ?_
    show kx_Rn _ _ _ (18, [some (.ref 0), some (.int a0), some (.int a1)], [.int v4], M6) _ _
    cases h
    exact kx_r_iret rfl rfl
theorem c_X4_shown {d : Nat} (a0 : Int32) (a1 : Int32) (M : kx_M) (r : Int32) (M' : kx_M) (h : f_X4_shown a0 a1 M = some (r, M')) : kx_Call EX (d + 4) T_X4_shown [.ref 0, .int a0, .int a1] M (some (.int r)) M' := kx_entry kok_X4_shown (Nat.le_of_ble_eq_true rfl) rfl (t_X4_shown (d := d) a0 a1 M h)
set_option maxRecDepth 100000 in
set_option maxHeartbeats 4000000 in
theorem t_X4_known {d : Nat} {r : Int32} {M' : kx_M} (a0 : Int32) (M : kx_M) (h : f_X4_known a0 M = some (r, M')) : kx_Rn EX T_X4_known (d + 2) (0, [some (.ref 0), some (.int a0)], [], M) (some (.int r)) M' := by
  unfold f_X4_known at h
  refine kx_go (pc' := 1) (L' := [some (.ref 0), some (.int a0)]) (st' := [.ref 0]) 1 rfl ?_
  refine kx_q_getR (k := 0) (j := 1) kxo_0 rfl kfl_X4_10 rfl ?_
  refine kx_go (pc' := 5) (L' := [some (.ref 0), some (.int a0)]) (st' := [.int a0, .ref 1]) 1 rfl ?_
  refine kx_q_callV (as := [.int a0]) (rest := []) (M1 := M) (rv := some (.int (kx_bi (f_X0_hasGroup 1 M a0)))) kxl_1.1 rfl klk_X4_200 kse_X0_hasGroup rfl rfl rfl rfl (Nat.le_of_ble_eq_true rfl) (Nat.le_of_ble_eq_true rfl) (c_X0_hasGroup (d := d + 0) 1 (kxl_1) a0 M (f_X0_hasGroup 1 M a0) rfl) ?_
  show kx_Rn _ _ _ (8, [some (.ref 0), some (.int a0)], [.int (kx_bi (f_X0_hasGroup 1 M a0))], M) _ _
  refine kx_q_zne rfl (fun hc1 => ?_) (fun hc1 => ?_)
  · rw [if_pos hc1] at h
    refine kx_go (pc' := 19) (L' := [some (.ref 0), some (.int a0)]) (st' := [.ref 0]) 1 rfl ?_
    refine kx_q_getR (k := 0) (j := 1) kxo_0 rfl kfl_X4_10 rfl ?_
    refine kx_go (pc' := 23) (L' := [some (.ref 0), some (.int a0)]) (st' := [.int a0, .ref 1]) 1 rfl ?_
    obtain ⟨v2, hv3, h⟩ := kx_bn_some h
    refine kx_q_callV (as := [.int a0]) (rest := []) (M1 := M) (rv := some (.int v2)) kxl_1.1 rfl klk_X4_203 kse_X0_knownBy rfl rfl rfl rfl (Nat.le_of_ble_eq_true rfl) (Nat.le_of_ble_eq_true rfl) (c_X0_knownBy (d := d + 0) 1 (kxl_1) a0 M v2 hv3) ?_
    show kx_Rn _ _ _ (26, [some (.ref 0), some (.int a0)], [.int v2], M) _ _
    cases h
    exact kx_r_iret rfl rfl
  · rw [if_neg hc1] at h
    refine kx_go (pc' := 14) (L' := [some (.ref 0), some (.int a0)]) (st' := [.int (-2 : Int32), .ref 0]) 2 rfl ?_
    obtain ⟨v4, M6, hv5, h⟩ := kx_bd_some h
    refine kx_q_callV (as := [.int (-2 : Int32)]) (rest := []) (M1 := M6) (rv := some (.int v4)) kxo_0 rfl klk_X4_59 kse_X4_refuse rfl rfl rfl rfl (Nat.le_of_ble_eq_true rfl) (Nat.le_of_ble_eq_true rfl) (c_X4_refuse (d := d + 0) (-2 : Int32) M v4 M6 hv5) ?_
    show kx_Rn _ _ _ (17, [some (.ref 0), some (.int a0)], [.int v4], M6) _ _
    cases h
    exact kx_r_iret rfl rfl
theorem c_X4_known {d : Nat} (a0 : Int32) (M : kx_M) (r : Int32) (M' : kx_M) (h : f_X4_known a0 M = some (r, M')) : kx_Call EX (d + 2) T_X4_known [.ref 0, .int a0] M (some (.int r)) M' := kx_entry kok_X4_known (Nat.le_of_ble_eq_true rfl) rfl (t_X4_known (d := d) a0 M h)
set_option maxRecDepth 100000 in
set_option maxHeartbeats 4000000 in
theorem t_X4_fresh {d : Nat} {r : Int32} {M' : kx_M} (a0 : Int32) (M : kx_M) (h : f_X4_fresh a0 M = some (r, M')) : kx_Rn EX T_X4_fresh (d + 6) (0, [some (.ref 0), some (.int a0)], [], M) (some (.int r)) M' := by
  unfold f_X4_fresh at h
  refine kx_go (pc' := 1) (L' := [some (.ref 0), some (.int a0)]) (st' := [.ref 0]) 1 rfl ?_
  refine kx_q_getR (k := 0) (j := 1) kxo_0 rfl kfl_X4_10 rfl ?_
  refine kx_go (pc' := 5) (L' := [some (.ref 0), some (.int a0)]) (st' := [.int a0, .ref 1]) 1 rfl ?_
  refine kx_q_callV (as := [.int a0]) (rest := []) (M1 := M) (rv := some (.int (kx_bi (f_X0_hasGroup 1 M a0)))) kxl_1.1 rfl klk_X4_200 kse_X0_hasGroup rfl rfl rfl rfl (Nat.le_of_ble_eq_true rfl) (Nat.le_of_ble_eq_true rfl) (c_X0_hasGroup (d := d + 4) 1 (kxl_1) a0 M (f_X0_hasGroup 1 M a0) rfl) ?_
  show kx_Rn _ _ _ (8, [some (.ref 0), some (.int a0)], [.int (kx_bi (f_X0_hasGroup 1 M a0))], M) _ _
  refine kx_q_zne rfl (fun hc1 => ?_) (fun hc1 => ?_)
  · rw [if_pos hc1] at h
    refine kx_go (pc' := 19) (L' := [some (.ref 0), some (.int a0)]) (st' := [.ref 0]) 1 rfl ?_
    refine kx_q_getR (k := 0) (j := 1) kxo_0 rfl kfl_X4_10 rfl ?_
    refine kx_go (pc' := 23) (L' := [some (.ref 0), some (.int a0)]) (st' := [.int a0, .ref 1]) 1 rfl ?_
    obtain ⟨v2, hv3, h⟩ := kx_bn_some h
    refine kx_q_callV (as := [.int a0]) (rest := []) (M1 := M) (rv := some (.int v2)) kxl_1.1 rfl klk_X4_206 kse_X0_newBy rfl rfl rfl rfl (Nat.le_of_ble_eq_true rfl) (Nat.le_of_ble_eq_true rfl) (c_X0_newBy (d := d + 0) 1 (kxl_1) a0 M v2 hv3) ?_
    show kx_Rn _ _ _ (26, [some (.ref 0), some (.int a0)], [.int v2], M) _ _
    cases h
    exact kx_r_iret rfl rfl
  · rw [if_neg hc1] at h
    refine kx_go (pc' := 14) (L' := [some (.ref 0), some (.int a0)]) (st' := [.int (-2 : Int32), .ref 0]) 2 rfl ?_
    obtain ⟨v4, M6, hv5, h⟩ := kx_bd_some h
    refine kx_q_callV (as := [.int (-2 : Int32)]) (rest := []) (M1 := M6) (rv := some (.int v4)) kxo_0 rfl klk_X4_59 kse_X4_refuse rfl rfl rfl rfl (Nat.le_of_ble_eq_true rfl) (Nat.le_of_ble_eq_true rfl) (c_X4_refuse (d := d + 4) (-2 : Int32) M v4 M6 hv5) ?_
    show kx_Rn _ _ _ (17, [some (.ref 0), some (.int a0)], [.int v4], M6) _ _
    cases h
    exact kx_r_iret rfl rfl
theorem c_X4_fresh {d : Nat} (a0 : Int32) (M : kx_M) (r : Int32) (M' : kx_M) (h : f_X4_fresh a0 M = some (r, M')) : kx_Call EX (d + 6) T_X4_fresh [.ref 0, .int a0] M (some (.int r)) M' := kx_entry kok_X4_fresh (Nat.le_of_ble_eq_true rfl) rfl (t_X4_fresh (d := d) a0 M h)
set_option maxRecDepth 100000 in
set_option maxHeartbeats 4000000 in
theorem t_X4_veilThen {d : Nat} {r : Int32} {M' : kx_M} (a0 : Int32) (M : kx_M) (h : f_X4_veilThen a0 M = some (r, M')) : kx_Rn EX T_X4_veilThen (d + 3) (0, [some (.ref 0), some (.int a0)], [], M) (some (.int r)) M' := by
  unfold f_X4_veilThen at h
  refine kx_go (pc' := 1) (L' := [some (.ref 0), some (.int a0)]) (st' := [.ref 0]) 1 rfl ?_
  refine kx_q_getR (k := 0) (j := 1) kxo_0 rfl kfl_X4_10 rfl ?_
  refine kx_go (pc' := 5) (L' := [some (.ref 0), some (.int a0)]) (st' := [.int a0, .ref 1]) 1 rfl ?_
  refine kx_q_callV (as := [.int a0]) (rest := []) (M1 := M) (rv := some (.int (kx_bi (f_X0_canVisit 1 M a0)))) kxl_1.1 rfl klk_X4_209 kse_X0_canVisit rfl rfl rfl rfl (Nat.le_of_ble_eq_true rfl) (Nat.le_of_ble_eq_true rfl) (c_X0_canVisit (d := d + 1) 1 (kxl_1) a0 M (f_X0_canVisit 1 M a0) rfl) ?_
  show kx_Rn _ _ _ (8, [some (.ref 0), some (.int a0)], [.int (kx_bi (f_X0_canVisit 1 M a0))], M) _ _
  refine kx_q_zne rfl (fun hc1 => ?_) (fun hc1 => ?_)
  · rw [if_pos hc1] at h
    refine kx_go (pc' := 19) (L' := [some (.ref 0), some (.int a0)]) (st' := [.ref 0]) 1 rfl ?_
    refine kx_q_getR (k := 0) (j := 1) kxo_0 rfl kfl_X4_10 rfl ?_
    refine kx_go (pc' := 24) (L' := [some (.ref 0), some (.int a0)]) (st' := [.ref 0, .int a0, .ref 1]) 2 rfl ?_
    refine kx_q_getR (k := 0) (j := 1) kxo_0 rfl kfl_X4_10 rfl ?_
    refine kx_q_getI (k := 8) kxl_1.1 rfl kfl_X4_122 rfl ?_
    refine kx_q_callV (as := [.int a0, .int (M.1 1 8)]) (rest := []) (M1 := M) (rv := some (.int (f_X0_veilBehind 1 M a0 (M.1 1 8)))) kxl_1.1 rfl klk_X4_212 kse_X0_veilBehind rfl rfl rfl rfl (Nat.le_of_ble_eq_true rfl) (Nat.le_of_ble_eq_true rfl) (c_X0_veilBehind (d := d + 0) 1 (kxl_1) a0 (M.1 1 8) M (f_X0_veilBehind 1 M a0 (M.1 1 8)) rfl) ?_
    show kx_Rn _ _ _ (33, [some (.ref 0), some (.int a0)], [.int (f_X0_veilBehind 1 M a0 (M.1 1 8))], M) _ _
    cases h
    exact kx_r_iret rfl rfl
  · rw [if_neg hc1] at h
    refine kx_go (pc' := 14) (L' := [some (.ref 0), some (.int a0)]) (st' := [.int (-2 : Int32), .ref 0]) 2 rfl ?_
    obtain ⟨v2, M4, hv3, h⟩ := kx_bd_some h
    refine kx_q_callV (as := [.int (-2 : Int32)]) (rest := []) (M1 := M4) (rv := some (.int v2)) kxo_0 rfl klk_X4_59 kse_X4_refuse rfl rfl rfl rfl (Nat.le_of_ble_eq_true rfl) (Nat.le_of_ble_eq_true rfl) (c_X4_refuse (d := d + 1) (-2 : Int32) M v2 M4 hv3) ?_
    show kx_Rn _ _ _ (17, [some (.ref 0), some (.int a0)], [.int v2], M4) _ _
    cases h
    exact kx_r_iret rfl rfl
theorem c_X4_veilThen {d : Nat} (a0 : Int32) (M : kx_M) (r : Int32) (M' : kx_M) (h : f_X4_veilThen a0 M = some (r, M')) : kx_Call EX (d + 3) T_X4_veilThen [.ref 0, .int a0] M (some (.int r)) M' := kx_entry kok_X4_veilThen (Nat.le_of_ble_eq_true rfl) rfl (t_X4_veilThen (d := d) a0 M h)
set_option maxRecDepth 100000 in
set_option maxHeartbeats 4000000 in
theorem t_X4_send_24 {d : Nat} {r : Int32} {M' : kx_M} : ∀ (n : Nat) (x1 : Int32) (x2 : Int32) (x3 : Int32) (x4 : Int32) (M : kx_M), f_X4_send_24 n x1 x2 x3 x4 M = some (r, M') → kx_Rn EX T_X4_send (d + 6) (24, [some (.ref 0), some (.int x1), some (.int x2), some (.int x3), some (.int x4), none], [], M) (some (.int r)) M' := by
  intro n
  induction n with
  | zero =>
    intro x1 x2 x3 x4 M h
    cases (show (none : Option (Int32 × kx_M)) = some _ from h)
  | succ n ih =>
    intro x1 x2 x3 x4 M h
    rw [f_X4_send_24.eq_2] at h
    refine kx_go (pc' := 27) (L' := [some (.ref 0), some (.int x1), some (.int x2), some (.int x3), some (.int x4), none]) (st' := [.ref 0, .int x4]) 2 rfl ?_
    refine kx_q_getR (k := 0) (j := 1) kxo_0 rfl kfl_X4_10 rfl ?_
    refine kx_q_callV (as := []) (rest := [.int x4]) (M1 := M) (rv := some (.int (f_X0_all 1 M))) kxl_1.1 rfl klk_X4_215 kse_X0_all rfl rfl rfl rfl (Nat.le_of_ble_eq_true rfl) (Nat.le_of_ble_eq_true rfl) (c_X0_all (d := d + 5) 1 (kxl_1) M (f_X0_all 1 M) rfl) ?_
    show kx_Rn _ _ _ (33, [some (.ref 0), some (.int x1), some (.int x2), some (.int x3), some (.int x4), none], [.int (f_X0_all 1 M), .int x4], M) _ _
    refine kx_r_icmp_gt rfl (fun hc1 => ?_) (fun hc1 => ?_)
    · rw [if_pos hc1] at h
      refine kx_go (pc' := 78) (L' := [some (.ref 0), some (.int x1), some (.int x2), some (.int x3), some (.int x4), none]) (st' := [.int x2]) 1 rfl ?_
      cases h
      exact kx_r_iret rfl rfl
    · rw [if_neg hc1] at h
      refine kx_go (pc' := 38) (L' := [some (.ref 0), some (.int x1), some (.int x2), some (.int x3), some (.int x4), none]) (st' := [.int x4]) 1 rfl ?_
      refine kx_r_callS (as := [.int x4]) (rest := []) (M1 := M) (rv := some (.int (f_J6_bitCount_0f7a4 x4))) rfl klk_X4_186 kst_J6_bitCount_0f7a4 rfl rfl (Nat.le_of_ble_eq_true rfl) (Nat.le_of_ble_eq_true rfl) (c_J6_bitCount_0f7a4 (d := d + 5) x4 M (f_J6_bitCount_0f7a4 x4) rfl) ?_
      show kx_Rn _ _ _ (41, [some (.ref 0), some (.int x1), some (.int x2), some (.int x3), some (.int x4), none], [.int (f_J6_bitCount_0f7a4 x4)], M) _ _
      refine kx_go (pc' := 42) (L' := [some (.ref 0), some (.int x1), some (.int x2), some (.int x3), some (.int x4), none]) (st' := [.int x1, .int (f_J6_bitCount_0f7a4 x4)]) 1 rfl ?_
      refine kx_r_icmp_ne rfl (fun hc2 => ?_) (fun hc2 => ?_)
      · rw [if_neg hc2] at h
        refine kx_go (pc' := 74) (L' := [some (.ref 0), some (.int x1), some (.int x2), some (.int x3), some (.int (x4 + (1))), none]) (st' := []) 1 rfl ?_
        refine kx_r_goto rfl ?_
        refine kx_wk [true, true, true, true, true, false] ?_
        exact ih x1 x2 x3 (x4 + (1)) M h
      · rw [if_pos hc2] at h
        refine kx_go (pc' := 46) (L' := [some (.ref 0), some (.int x1), some (.int x2), some (.int x3), some (.int x4), none]) (st' := [.ref 0]) 1 rfl ?_
        refine kx_q_getR (k := 0) (j := 1) kxo_0 rfl kfl_X4_10 rfl ?_
        refine kx_go (pc' := 51) (L' := [some (.ref 0), some (.int x1), some (.int x2), some (.int x3), some (.int x4), none]) (st' := [.int x4, .ref 1]) 1 rfl ?_
        obtain ⟨v3, hv4, h⟩ := kx_bn_some h
        refine kx_q_callV (as := [.int x4]) (rest := []) (M1 := M) (rv := some (.int v3)) kxl_1.1 rfl klk_X4_206 kse_X0_newBy rfl rfl rfl rfl (Nat.le_of_ble_eq_true rfl) (Nat.le_of_ble_eq_true rfl) (c_X0_newBy (d := d + 0) 1 (kxl_1) x4 M v3 hv4) ?_
        show kx_Rn _ _ _ (54, [some (.ref 0), some (.int x1), some (.int x2), some (.int x3), some (.int x4), none], [.int v3], M) _ _
        refine kx_r_callS (as := [.int v3]) (rest := []) (M1 := M) (rv := some (.int (f_J6_bitCount_0f7a4 v3))) rfl klk_X4_186 kst_J6_bitCount_0f7a4 rfl rfl (Nat.le_of_ble_eq_true rfl) (Nat.le_of_ble_eq_true rfl) (c_J6_bitCount_0f7a4 (d := d + 5) v3 M (f_J6_bitCount_0f7a4 v3) rfl) ?_
        show kx_Rn _ _ _ (57, [some (.ref 0), some (.int x1), some (.int x2), some (.int x3), some (.int x4), none], [.int (f_J6_bitCount_0f7a4 v3)], M) _ _
        refine kx_go (pc' := 62) (L' := [some (.ref 0), some (.int x1), some (.int x2), some (.int x3), some (.int x4), some (.int (f_J6_bitCount_0f7a4 v3))]) (st' := [.int x3, .int (f_J6_bitCount_0f7a4 v3)]) 3 rfl ?_
        refine kx_r_icmp_le rfl (fun hc5 => ?_) (fun hc5 => ?_)
        · rw [if_pos hc5] at h
          refine kx_go (pc' := 74) (L' := [some (.ref 0), some (.int x1), some (.int x2), some (.int x3), some (.int (x4 + (1))), some (.int (f_J6_bitCount_0f7a4 v3))]) (st' := []) 1 rfl ?_
          refine kx_r_goto rfl ?_
          refine kx_wk [true, true, true, true, true, false] ?_
          exact ih x1 x2 x3 (x4 + (1)) M h
        · rw [if_neg hc5] at h
          refine kx_go (pc' := 74) (L' := [some (.ref 0), some (.int x1), some (.int x4), some (.int (f_J6_bitCount_0f7a4 v3)), some (.int (x4 + (1))), some (.int (f_J6_bitCount_0f7a4 v3))]) (st' := []) 5 rfl ?_
          refine kx_r_goto rfl ?_
          refine kx_wk [true, true, true, true, true, false] ?_
          exact ih x1 x4 (f_J6_bitCount_0f7a4 v3) (x4 + (1)) M h
set_option maxRecDepth 100000 in
set_option maxHeartbeats 4000000 in
theorem t_X4_send {d : Nat} {r : Int32} {M' : kx_M} (a0 : Int32) (M : kx_M) (h : f_X4_send a0 M = some (r, M')) : kx_Rn EX T_X4_send (d + 6) (0, [some (.ref 0), some (.int a0), none, none, none, none], [], M) (some (.int r)) M' := by
  unfold f_X4_send at h
  refine kx_go (pc' := 4) (L' := [some (.ref 0), some (.int a0), none, none, none, none]) (st' := [.int (8 : Int32), .int (1 : Int32), .int a0]) 3 rfl ?_
  refine kx_r_callS (as := [.int a0, .int (1 : Int32), .int (8 : Int32)]) (rest := []) (M1 := M) (rv := some (.int (kx_bi (f_X4_isWithin a0 (1 : Int32) (8 : Int32))))) rfl klk_X4_55 kst_X4_isWithin rfl rfl (Nat.le_of_ble_eq_true rfl) (Nat.le_of_ble_eq_true rfl) (c_X4_isWithin (d := d + 5) a0 (1 : Int32) (8 : Int32) M (f_X4_isWithin a0 (1 : Int32) (8 : Int32)) rfl) ?_
  show kx_Rn _ _ _ (7, [some (.ref 0), some (.int a0), none, none, none, none], [.int (kx_bi (f_X4_isWithin a0 (1 : Int32) (8 : Int32)))], M) _ _
  refine kx_q_zne rfl (fun hc1 => ?_) (fun hc1 => ?_)
  · rw [if_pos hc1] at h
    refine kx_go (pc' := 24) (L' := [some (.ref 0), some (.int a0), some (.int (-1 : Int32)), some (.int (-1 : Int32)), some (.int (0 : Int32)), none]) (st' := []) 6 rfl ?_
    refine kx_wk [true, true, true, true, true, false] ?_
    exact t_X4_send_24 kx_fuel a0 (-1 : Int32) (-1 : Int32) (0 : Int32) M h
  · rw [if_neg hc1] at h
    refine kx_go (pc' := 13) (L' := [some (.ref 0), some (.int a0), none, none, none, none]) (st' := [.int (-2 : Int32), .ref 0]) 2 rfl ?_
    obtain ⟨v2, M4, hv3, h⟩ := kx_bd_some h
    refine kx_q_callV (as := [.int (-2 : Int32)]) (rest := []) (M1 := M4) (rv := some (.int v2)) kxo_0 rfl klk_X4_59 kse_X4_refuse rfl rfl rfl rfl (Nat.le_of_ble_eq_true rfl) (Nat.le_of_ble_eq_true rfl) (c_X4_refuse (d := d + 4) (-2 : Int32) M v2 M4 hv3) ?_
    show kx_Rn _ _ _ (16, [some (.ref 0), some (.int a0), none, none, none, none], [.int v2], M4) _ _
    cases h
    exact kx_r_iret rfl rfl
theorem c_X4_send {d : Nat} (a0 : Int32) (M : kx_M) (r : Int32) (M' : kx_M) (h : f_X4_send a0 M = some (r, M')) : kx_Call EX (d + 6) T_X4_send [.ref 0, .int a0] M (some (.int r)) M' := kx_entry kok_X4_send (Nat.le_of_ble_eq_true rfl) rfl (t_X4_send (d := d) a0 M h)
set_option maxRecDepth 100000 in
set_option maxHeartbeats 4000000 in
theorem t_X4_fewest_26 {d : Nat} {r : Int32} {M' : kx_M} : ∀ (n : Nat) (x1 : Int32) (x2 : Int32) (x3 : Int32) (x4 : Int32) (M : kx_M), f_X4_fewest_26 n x1 x2 x3 x4 M = some (r, M') → kx_Rn EX T_X4_fewest (d + 5) (26, [some (.ref 0), some (.int x1), some (.int x2), some (.int x3), some (.int x4), none], [], M) (some (.int r)) M' := by
  intro n
  induction n with
  | zero =>
    intro x1 x2 x3 x4 M h
    cases (show (none : Option (Int32 × kx_M)) = some _ from h)
  | succ n ih =>
    intro x1 x2 x3 x4 M h
    rw [f_X4_fewest_26.eq_2] at h
    refine kx_go (pc' := 29) (L' := [some (.ref 0), some (.int x1), some (.int x2), some (.int x3), some (.int x4), none]) (st' := [.ref 0, .int x4]) 2 rfl ?_
    refine kx_q_getR (k := 0) (j := 1) kxo_0 rfl kfl_X4_10 rfl ?_
    refine kx_q_callV (as := []) (rest := [.int x4]) (M1 := M) (rv := some (.int (f_X0_all 1 M))) kxl_1.1 rfl klk_X4_215 kse_X0_all rfl rfl rfl rfl (Nat.le_of_ble_eq_true rfl) (Nat.le_of_ble_eq_true rfl) (c_X0_all (d := d + 4) 1 (kxl_1) M (f_X0_all 1 M) rfl) ?_
    show kx_Rn _ _ _ (35, [some (.ref 0), some (.int x1), some (.int x2), some (.int x3), some (.int x4), none], [.int (f_X0_all 1 M), .int x4], M) _ _
    refine kx_r_icmp_gt rfl (fun hc1 => ?_) (fun hc1 => ?_)
    · rw [if_pos hc1] at h
      refine kx_go (pc' := 87) (L' := [some (.ref 0), some (.int x1), some (.int x2), some (.int x3), some (.int x4), none]) (st' := [.int x2]) 1 rfl ?_
      cases h
      exact kx_r_iret rfl rfl
    · rw [if_neg hc1] at h
      refine kx_go (pc' := 40) (L' := [some (.ref 0), some (.int x1), some (.int x2), some (.int x3), some (.int x4), none]) (st' := [.int x4]) 1 rfl ?_
      refine kx_r_callS (as := [.int x4]) (rest := []) (M1 := M) (rv := some (.int (f_J6_bitCount_0f7a4 x4))) rfl klk_X4_186 kst_J6_bitCount_0f7a4 rfl rfl (Nat.le_of_ble_eq_true rfl) (Nat.le_of_ble_eq_true rfl) (c_J6_bitCount_0f7a4 (d := d + 4) x4 M (f_J6_bitCount_0f7a4 x4) rfl) ?_
      show kx_Rn _ _ _ (43, [some (.ref 0), some (.int x1), some (.int x2), some (.int x3), some (.int x4), none], [.int (f_J6_bitCount_0f7a4 x4)], M) _ _
      refine kx_go (pc' := 48) (L' := [some (.ref 0), some (.int x1), some (.int x2), some (.int x3), some (.int x4), some (.int (f_J6_bitCount_0f7a4 x4))]) (st' := [.int x3, .int (f_J6_bitCount_0f7a4 x4)]) 3 rfl ?_
      refine kx_r_icmp_ge rfl (fun hc2 => ?_) (fun hc2 => ?_)
      · rw [if_pos hc2] at h
        refine kx_go (pc' := 83) (L' := [some (.ref 0), some (.int x1), some (.int x2), some (.int x3), some (.int (x4 + (1))), some (.int (f_J6_bitCount_0f7a4 x4))]) (st' := []) 1 rfl ?_
        refine kx_r_goto rfl ?_
        refine kx_wk [true, true, true, true, true, false] ?_
        exact ih x1 x2 x3 (x4 + (1)) M h
      · rw [if_neg hc2] at h
        refine kx_go (pc' := 53) (L' := [some (.ref 0), some (.int x1), some (.int x2), some (.int x3), some (.int x4), some (.int (f_J6_bitCount_0f7a4 x4))]) (st' := [.ref 0, .int x1]) 2 rfl ?_
        refine kx_q_getR (k := 0) (j := 1) kxo_0 rfl kfl_X4_10 rfl ?_
        refine kx_go (pc' := 59) (L' := [some (.ref 0), some (.int x1), some (.int x2), some (.int x3), some (.int x4), some (.int (f_J6_bitCount_0f7a4 x4))]) (st' := [.ref 0, .int x4, .ref 1, .int x1]) 2 rfl ?_
        refine kx_q_getR (k := 0) (j := 1) kxo_0 rfl kfl_X4_10 rfl ?_
        refine kx_q_getI (k := 8) kxl_1.1 rfl kfl_X4_122 rfl ?_
        obtain ⟨v3, hv4, h⟩ := kx_bn_some h
        refine kx_q_callV (as := [.int x4, .int (M.1 1 8)]) (rest := [.int x1]) (M1 := M) (rv := some (.int v3)) kxl_1.1 rfl klk_X4_222 kse_X0_shownToAny rfl rfl rfl rfl (Nat.le_of_ble_eq_true rfl) (Nat.le_of_ble_eq_true rfl) (c_X0_shownToAny (d := d + 0) 1 (kxl_1) x4 (M.1 1 8) M v3 hv4) ?_
        show kx_Rn _ _ _ (68, [some (.ref 0), some (.int x1), some (.int x2), some (.int x3), some (.int x4), some (.int (f_J6_bitCount_0f7a4 x4))], [.int v3, .int x1], M) _ _
        refine kx_go (pc' := 71) (L' := [some (.ref 0), some (.int x1), some (.int x2), some (.int x3), some (.int x4), some (.int (f_J6_bitCount_0f7a4 x4))]) (st' := [.int (x1 &&& (v3 ^^^ (-1 : Int32)))]) 3 rfl ?_
        refine kx_r_if_ne rfl (fun hc5 => ?_) (fun hc5 => ?_)
        · rw [if_neg hc5] at h
          refine kx_go (pc' := 83) (L' := [some (.ref 0), some (.int x1), some (.int x2), some (.int x3), some (.int (x4 + (1))), some (.int (f_J6_bitCount_0f7a4 x4))]) (st' := []) 1 rfl ?_
          refine kx_r_goto rfl ?_
          refine kx_wk [true, true, true, true, true, false] ?_
          exact ih x1 x2 x3 (x4 + (1)) M h
        · rw [if_pos hc5] at h
          refine kx_go (pc' := 83) (L' := [some (.ref 0), some (.int x1), some (.int x4), some (.int (f_J6_bitCount_0f7a4 x4)), some (.int (x4 + (1))), some (.int (f_J6_bitCount_0f7a4 x4))]) (st' := []) 5 rfl ?_
          refine kx_r_goto rfl ?_
          refine kx_wk [true, true, true, true, true, false] ?_
          exact ih x1 x4 (f_J6_bitCount_0f7a4 x4) (x4 + (1)) M h
set_option maxRecDepth 100000 in
set_option maxHeartbeats 4000000 in
theorem t_X4_fewest {d : Nat} {r : Int32} {M' : kx_M} (a0 : Int32) (M : kx_M) (h : f_X4_fewest a0 M = some (r, M')) : kx_Rn EX T_X4_fewest (d + 5) (0, [some (.ref 0), some (.int a0), none, none, none, none], [], M) (some (.int r)) M' := by
  unfold f_X4_fewest at h
  refine kx_go (pc' := 1) (L' := [some (.ref 0), some (.int a0), none, none, none, none]) (st' := [.ref 0]) 1 rfl ?_
  refine kx_q_getR (k := 0) (j := 1) kxo_0 rfl kfl_X4_10 rfl ?_
  refine kx_go (pc' := 5) (L' := [some (.ref 0), some (.int a0), none, none, none, none]) (st' := [.int a0, .ref 1]) 1 rfl ?_
  refine kx_q_callV (as := [.int a0]) (rest := []) (M1 := M) (rv := some (.int (kx_bi (f_X0_hasCells 1 M a0)))) kxl_1.1 rfl klk_X4_219 kse_X0_hasCells rfl rfl rfl rfl (Nat.le_of_ble_eq_true rfl) (Nat.le_of_ble_eq_true rfl) (c_X0_hasCells (d := d + 3) 1 (kxl_1) a0 M (f_X0_hasCells 1 M a0) rfl) ?_
  show kx_Rn _ _ _ (8, [some (.ref 0), some (.int a0), none, none, none, none], [.int (kx_bi (f_X0_hasCells 1 M a0))], M) _ _
  refine kx_q_zne rfl (fun hc1 => ?_) (fun hc1 => ?_)
  · rw [if_pos hc1] at h
    refine kx_go (pc' := 26) (L' := [some (.ref 0), some (.int a0), some (.int (-1 : Int32)), some (.int (9 : Int32)), some (.int (0 : Int32)), none]) (st' := []) 6 rfl ?_
    refine kx_wk [true, true, true, true, true, false] ?_
    exact t_X4_fewest_26 kx_fuel a0 (-1 : Int32) (9 : Int32) (0 : Int32) M h
  · rw [if_neg hc1] at h
    refine kx_go (pc' := 14) (L' := [some (.ref 0), some (.int a0), none, none, none, none]) (st' := [.int (-2 : Int32), .ref 0]) 2 rfl ?_
    obtain ⟨v2, M4, hv3, h⟩ := kx_bd_some h
    refine kx_q_callV (as := [.int (-2 : Int32)]) (rest := []) (M1 := M4) (rv := some (.int v2)) kxo_0 rfl klk_X4_59 kse_X4_refuse rfl rfl rfl rfl (Nat.le_of_ble_eq_true rfl) (Nat.le_of_ble_eq_true rfl) (c_X4_refuse (d := d + 3) (-2 : Int32) M v2 M4 hv3) ?_
    show kx_Rn _ _ _ (17, [some (.ref 0), some (.int a0), none, none, none, none], [.int v2], M4) _ _
    cases h
    exact kx_r_iret rfl rfl
theorem c_X4_fewest {d : Nat} (a0 : Int32) (M : kx_M) (r : Int32) (M' : kx_M) (h : f_X4_fewest a0 M = some (r, M')) : kx_Call EX (d + 5) T_X4_fewest [.ref 0, .int a0] M (some (.int r)) M' := kx_entry kok_X4_fewest (Nat.le_of_ble_eq_true rfl) rfl (t_X4_fewest (d := d) a0 M h)
set_option maxRecDepth 100000 in
set_option maxHeartbeats 4000000 in
theorem t_X4_order {d : Nat} {r : Int32} {M' : kx_M} (a0 : Int32) (a1 : Int32) (M : kx_M) (h : f_X4_order a0 a1 M = some (r, M')) : kx_Rn EX T_X4_order (d + 14) (0, [some (.ref 0), some (.int a0), some (.int a1)], [], M) (some (.int r)) M' := by
  unfold f_X4_order at h
  refine kx_go (pc' := 1) (L' := [some (.ref 0), some (.int a0), some (.int a1)]) (st' := [.ref 0]) 1 rfl ?_
  refine kx_q_getR (k := 0) (j := 1) kxo_0 rfl kfl_X4_10 rfl ?_
  refine kx_go (pc' := 5) (L' := [some (.ref 0), some (.int a0), some (.int a1)]) (st' := [.int a0, .ref 1]) 1 rfl ?_
  refine kx_q_callV (as := [.int a0]) (rest := []) (M1 := M) (rv := some (.int (kx_bi (f_X0_hasGroup 1 M a0)))) kxl_1.1 rfl klk_X4_200 kse_X0_hasGroup rfl rfl rfl rfl (Nat.le_of_ble_eq_true rfl) (Nat.le_of_ble_eq_true rfl) (c_X0_hasGroup (d := d + 12) 1 (kxl_1) a0 M (f_X0_hasGroup 1 M a0) rfl) ?_
  show kx_Rn _ _ _ (8, [some (.ref 0), some (.int a0), some (.int a1)], [.int (kx_bi (f_X0_hasGroup 1 M a0))], M) _ _
  refine kx_q_zeq rfl (fun hc1 => ?_) (fun hc1 => ?_)
  · rw [if_neg hc1] at h
    refine kx_go (pc' := 28) (L' := [some (.ref 0), some (.int a0), some (.int a1)]) (st' := [.int (-2 : Int32), .ref 0]) 2 rfl ?_
    obtain ⟨v2, M4, hv3, h⟩ := kx_bd_some h
    refine kx_q_callV (as := [.int (-2 : Int32)]) (rest := []) (M1 := M4) (rv := some (.int v2)) kxo_0 rfl klk_X4_59 kse_X4_refuse rfl rfl rfl rfl (Nat.le_of_ble_eq_true rfl) (Nat.le_of_ble_eq_true rfl) (c_X4_refuse (d := d + 12) (-2 : Int32) M v2 M4 hv3) ?_
    show kx_Rn _ _ _ (31, [some (.ref 0), some (.int a0), some (.int a1)], [.int v2], M4) _ _
    cases h
    exact kx_r_iret rfl rfl
  · rw [if_pos hc1] at h
    refine kx_go (pc' := 12) (L' := [some (.ref 0), some (.int a0), some (.int a1)]) (st' := [.int a0]) 1 rfl ?_
    refine kx_r_callS (as := [.int a0]) (rest := []) (M1 := M) (rv := some (.int (f_J6_bitCount_0f7a4 a0))) rfl klk_X4_186 kst_J6_bitCount_0f7a4 rfl rfl (Nat.le_of_ble_eq_true rfl) (Nat.le_of_ble_eq_true rfl) (c_J6_bitCount_0f7a4 (d := d + 13) a0 M (f_J6_bitCount_0f7a4 a0) rfl) ?_
    show kx_Rn _ _ _ (15, [some (.ref 0), some (.int a0), some (.int a1)], [.int (f_J6_bitCount_0f7a4 a0)], M) _ _
    refine kx_go (pc' := 17) (L' := [some (.ref 0), some (.int a0), some (.int a1)]) (st' := [.int (6 : Int32), .int (f_J6_bitCount_0f7a4 a0)]) 1 rfl ?_
    refine kx_r_icmp_gt rfl (fun hc5 => ?_) (fun hc5 => ?_)
    · rw [if_pos hc5] at h
      refine kx_go (pc' := 28) (L' := [some (.ref 0), some (.int a0), some (.int a1)]) (st' := [.int (-2 : Int32), .ref 0]) 2 rfl ?_
      obtain ⟨v6, M8, hv7, h⟩ := kx_bd_some h
      refine kx_q_callV (as := [.int (-2 : Int32)]) (rest := []) (M1 := M8) (rv := some (.int v6)) kxo_0 rfl klk_X4_59 kse_X4_refuse rfl rfl rfl rfl (Nat.le_of_ble_eq_true rfl) (Nat.le_of_ble_eq_true rfl) (c_X4_refuse (d := d + 12) (-2 : Int32) M v6 M8 hv7) ?_
      show kx_Rn _ _ _ (31, [some (.ref 0), some (.int a0), some (.int a1)], [.int v6], M8) _ _
      cases h
      exact kx_r_iret rfl rfl
    · rw [if_neg hc5] at h
      refine kx_go (pc' := 22) (L' := [some (.ref 0), some (.int a0), some (.int a1)]) (st' := [.int (-1 : Int32), .int a1]) 2 rfl ?_
      refine kx_r_icmp_ge rfl (fun hc9 => ?_) (fun hc9 => ?_)
      · rw [if_pos hc9] at h
        refine kx_go (pc' := 34) (L' := [some (.ref 0), some (.int a0), some (.int a1)]) (st' := [.int a0, .int a1]) 2 rfl ?_
        refine kx_r_callS (as := [.int a0]) (rest := [.int a1]) (M1 := M) (rv := some (.int (f_J6_bitCount_0f7a4 a0))) rfl klk_X4_186 kst_J6_bitCount_0f7a4 rfl rfl (Nat.le_of_ble_eq_true rfl) (Nat.le_of_ble_eq_true rfl) (c_J6_bitCount_0f7a4 (d := d + 13) a0 M (f_J6_bitCount_0f7a4 a0) rfl) ?_
        show kx_Rn _ _ _ (37, [some (.ref 0), some (.int a0), some (.int a1)], [.int (f_J6_bitCount_0f7a4 a0), .int a1], M) _ _
        refine kx_r_icmp_lt rfl (fun hc10 => ?_) (fun hc10 => ?_)
        · rw [if_pos hc10] at h
          refine kx_go (pc' := 48) (L' := [some (.ref 0), some (.int a0), some (.int a1)]) (st' := [.ref 0]) 1 rfl ?_
          refine kx_q_getR (k := 5) (j := 44) kxo_0 rfl kfl_X4_39 rfl ?_
          refine kx_go (pc' := 52) (L' := [some (.ref 0), some (.int a0), some (.int a1)]) (st' := [.ref 0, .ref 44]) 1 rfl ?_
          refine kx_q_getR (k := 0) (j := 1) kxo_0 rfl kfl_X4_10 rfl ?_
          refine kx_go (pc' := 56) (L' := [some (.ref 0), some (.int a0), some (.int a1)]) (st' := [.int a0, .ref 1, .ref 44]) 1 rfl ?_
          obtain ⟨M13, hv12, h⟩ := kx_bn_some h
          refine kx_q_callV (as := [.ref 1, .int a0]) (rest := []) (M1 := M13) (rv := none) kxo_44 rfl klk_X4_225 kse_X1_seek rfl rfl rfl rfl (Nat.le_of_ble_eq_true rfl) (Nat.le_of_ble_eq_true rfl) (c_X1_seek (d := d + 0) 1 (kxl_1) a0 M M13 hv12) ?_
          show kx_Rn _ _ _ (59, [some (.ref 0), some (.int a0), some (.int a1)], [], M13) _ _
          refine kx_go (pc' := 61) (L' := [some (.ref 0), some (.int a0), some (.int a1)]) (st' := [.int (-1 : Int32), .int a1]) 2 rfl ?_
          refine kx_r_icmp_ne rfl (fun hc14 => ?_) (fun hc14 => ?_)
          · rw [if_neg hc14] at h
            refine kx_go (pc' := 75) (L' := [some (.ref 0), some (.int a0), some (.int a1)]) (st' := [.ref 0]) 1 rfl ?_
            refine kx_q_getR (k := 5) (j := 44) kxo_0 rfl kfl_X4_39 rfl ?_
            refine kx_q_getR (k := 0) (j := 45) kxo_44 rfl kfl_X4_232 rfl ?_
            refine kx_go (pc' := 82) (L' := [some (.ref 0), some (.int a0), some (.int a1)]) (st' := [.int a1, .ref 45]) 1 rfl ?_
            obtain ⟨hi15, h⟩ := kx_ck_some h
            refine kx_q_iald (kxa_45) rfl hi15 ?_
            cases h
            exact kx_r_iret rfl rfl
          · rw [if_pos hc14] at h
            refine kx_go (pc' := 65) (L' := [some (.ref 0), some (.int a0), some (.int a1)]) (st' := [.ref 0]) 1 rfl ?_
            refine kx_q_getR (k := 5) (j := 44) kxo_0 rfl kfl_X4_39 rfl ?_
            refine kx_q_getI (k := 1) kxo_44 rfl kfl_X4_229 rfl ?_
            refine kx_r_goto rfl ?_
            cases h
            exact kx_r_iret rfl rfl
        · rw [if_neg hc10] at h
          refine kx_go (pc' := 43) (L' := [some (.ref 0), some (.int a0), some (.int a1)]) (st' := [.int (-5 : Int32), .ref 0]) 2 rfl ?_
          obtain ⟨v16, M18, hv17, h⟩ := kx_bd_some h
          refine kx_q_callV (as := [.int (-5 : Int32)]) (rest := []) (M1 := M18) (rv := some (.int v16)) kxo_0 rfl klk_X4_59 kse_X4_refuse rfl rfl rfl rfl (Nat.le_of_ble_eq_true rfl) (Nat.le_of_ble_eq_true rfl) (c_X4_refuse (d := d + 12) (-5 : Int32) M v16 M18 hv17) ?_
          show kx_Rn _ _ _ (46, [some (.ref 0), some (.int a0), some (.int a1)], [.int v16], M18) _ _
          cases h
          exact kx_r_iret rfl rfl
      · rw [if_neg hc9] at h
        refine kx_go (pc' := 28) (L' := [some (.ref 0), some (.int a0), some (.int a1)]) (st' := [.int (-2 : Int32), .ref 0]) 2 rfl ?_
        obtain ⟨v19, M21, hv20, h⟩ := kx_bd_some h
        refine kx_q_callV (as := [.int (-2 : Int32)]) (rest := []) (M1 := M21) (rv := some (.int v19)) kxo_0 rfl klk_X4_59 kse_X4_refuse rfl rfl rfl rfl (Nat.le_of_ble_eq_true rfl) (Nat.le_of_ble_eq_true rfl) (c_X4_refuse (d := d + 12) (-2 : Int32) M v19 M21 hv20) ?_
        show kx_Rn _ _ _ (31, [some (.ref 0), some (.int a0), some (.int a1)], [.int v19], M21) _ _
        cases h
        exact kx_r_iret rfl rfl
theorem c_X4_order {d : Nat} (a0 : Int32) (a1 : Int32) (M : kx_M) (r : Int32) (M' : kx_M) (h : f_X4_order a0 a1 M = some (r, M')) : kx_Call EX (d + 14) T_X4_order [.ref 0, .int a0, .int a1] M (some (.int r)) M' := kx_entry kok_X4_order (Nat.le_of_ble_eq_true rfl) rfl (t_X4_order (d := d) a0 a1 M h)
set_option maxRecDepth 100000 in
set_option maxHeartbeats 4000000 in
theorem t_X4_how_31 {d : Nat} {r : Int32} {M' : kx_M} : ∀ (n : Nat) (x1 : Int32) (x2 : Int32) (x3 : Int32) (M : kx_M), f_X4_how_31 n x1 x2 x3 M = some (r, M') → kx_Rn EX T_X4_how (d + 4) (31, [some (.ref 0), some (.int x1), some (.int x2), some (.int x3)], [], M) (some (.int r)) M' := by
  intro n
  induction n with
  | zero =>
    intro x1 x2 x3 M h
    cases (show (none : Option (Int32 × kx_M)) = some _ from h)
  | succ n ih =>
    intro x1 x2 x3 M h
    rw [f_X4_how_31.eq_2] at h
    refine kx_go (pc' := 34) (L' := [some (.ref 0), some (.int x1), some (.int x2), some (.int x3)]) (st' := [.int (20 : Int32), .int x3]) 2 rfl ?_
    refine kx_r_icmp_gt rfl (fun hc1 => ?_) (fun hc1 => ?_)
    · rw [if_pos hc1] at h
      refine kx_go (pc' := 63) (L' := [some (.ref 0), some (.int x1), some (.int x2), some (.int x3)]) (st' := [.int (-1 : Int32)]) 1 rfl ?_
      cases h
      exact kx_r_iret rfl rfl
    · rw [if_neg hc1] at h
      refine kx_go (pc' := 39) (L' := [some (.ref 0), some (.int x1), some (.int x2), some (.int x3)]) (st' := [.ref 0, .int x2]) 2 rfl ?_
      refine kx_q_getR (k := 0) (j := 1) kxo_0 rfl kfl_X4_10 rfl ?_
      refine kx_go (pc' := 44) (L' := [some (.ref 0), some (.int x1), some (.int x2), some (.int x3)]) (st' := [.int x3, .int x1, .ref 1, .int x2]) 2 rfl ?_
      obtain ⟨v2, hv3, h⟩ := kx_bn_some h
      refine kx_q_callV (as := [.int x1, .int x3]) (rest := [.int x2]) (M1 := M) (rv := some (.int v2)) kxl_1.1 rfl klk_X4_235 kse_X0_shownIfWanting rfl rfl rfl rfl (Nat.le_of_ble_eq_true rfl) (Nat.le_of_ble_eq_true rfl) (c_X0_shownIfWanting (d := d + 0) 1 (kxl_1) x1 x3 M v2 hv3) ?_
      show kx_Rn _ _ _ (47, [some (.ref 0), some (.int x1), some (.int x2), some (.int x3)], [.int v2, .int x2], M) _ _
      refine kx_go (pc' := 48) (L' := [some (.ref 0), some (.int x1), some (.int x2), some (.int x3)]) (st' := [.long (v2).toInt64, .int x2]) 1 rfl ?_
      refine kx_r_callS (as := [.int x2, .long (v2).toInt64]) (rest := []) (M1 := M) (rv := some (.int (kx_bi (f_X4_isIn x2 (v2).toInt64)))) rfl klk_X4_238 kst_X4_isIn rfl rfl (Nat.le_of_ble_eq_true rfl) (Nat.le_of_ble_eq_true rfl) (c_X4_isIn (d := d + 3) x2 (v2).toInt64 M (f_X4_isIn x2 (v2).toInt64) rfl) ?_
      show kx_Rn _ _ _ (51, [some (.ref 0), some (.int x1), some (.int x2), some (.int x3)], [.int (kx_bi (f_X4_isIn x2 (v2).toInt64))], M) _ _
      refine kx_q_zeq rfl (fun hc4 => ?_) (fun hc4 => ?_)
      · rw [if_neg hc4] at h
        refine kx_go (pc' := 59) (L' := [some (.ref 0), some (.int x1), some (.int x2), some (.int (x3 + (1)))]) (st' := []) 1 rfl ?_
        refine kx_r_goto rfl ?_
        refine kx_wk [true, true, true, true] ?_
        exact ih x1 x2 (x3 + (1)) M h
      · rw [if_pos hc4] at h
        refine kx_go (pc' := 55) (L' := [some (.ref 0), some (.int x1), some (.int x2), some (.int x3)]) (st' := [.int x3]) 1 rfl ?_
        cases h
        exact kx_r_iret rfl rfl
set_option maxRecDepth 100000 in
set_option maxHeartbeats 4000000 in
theorem t_X4_how {d : Nat} {r : Int32} {M' : kx_M} (a0 : Int32) (a1 : Int32) (M : kx_M) (h : f_X4_how a0 a1 M = some (r, M')) : kx_Rn EX T_X4_how (d + 4) (0, [some (.ref 0), some (.int a0), some (.int a1), none], [], M) (some (.int r)) M' := by
  unfold f_X4_how at h
  refine kx_go (pc' := 1) (L' := [some (.ref 0), some (.int a0), some (.int a1), none]) (st' := [.ref 0]) 1 rfl ?_
  refine kx_q_getR (k := 0) (j := 1) kxo_0 rfl kfl_X4_10 rfl ?_
  refine kx_go (pc' := 5) (L' := [some (.ref 0), some (.int a0), some (.int a1), none]) (st' := [.int a0, .ref 1]) 1 rfl ?_
  refine kx_q_callV (as := [.int a0]) (rest := []) (M1 := M) (rv := some (.int (kx_bi (f_X0_hasVisitor 1 M a0)))) kxl_1.1 rfl klk_X4_104 kse_X0_hasVisitor rfl rfl rfl rfl (Nat.le_of_ble_eq_true rfl) (Nat.le_of_ble_eq_true rfl) (c_X0_hasVisitor (d := d + 2) 1 (kxl_1) a0 M (f_X0_hasVisitor 1 M a0) rfl) ?_
  show kx_Rn _ _ _ (8, [some (.ref 0), some (.int a0), some (.int a1), none], [.int (kx_bi (f_X0_hasVisitor 1 M a0))], M) _ _
  refine kx_q_zeq rfl (fun hc1 => ?_) (fun hc1 => ?_)
  · rw [if_neg hc1] at h
    refine kx_go (pc' := 25) (L' := [some (.ref 0), some (.int a0), some (.int a1), none]) (st' := [.int (-2 : Int32), .ref 0]) 2 rfl ?_
    obtain ⟨v2, M4, hv3, h⟩ := kx_bd_some h
    refine kx_q_callV (as := [.int (-2 : Int32)]) (rest := []) (M1 := M4) (rv := some (.int v2)) kxo_0 rfl klk_X4_59 kse_X4_refuse rfl rfl rfl rfl (Nat.le_of_ble_eq_true rfl) (Nat.le_of_ble_eq_true rfl) (c_X4_refuse (d := d + 2) (-2 : Int32) M v2 M4 hv3) ?_
    show kx_Rn _ _ _ (28, [some (.ref 0), some (.int a0), some (.int a1), none], [.int v2], M4) _ _
    cases h
    exact kx_r_iret rfl rfl
  · rw [if_pos hc1] at h
    refine kx_go (pc' := 12) (L' := [some (.ref 0), some (.int a0), some (.int a1), none]) (st' := [.ref 0]) 1 rfl ?_
    refine kx_q_getR (k := 0) (j := 1) kxo_0 rfl kfl_X4_10 rfl ?_
    refine kx_go (pc' := 16) (L' := [some (.ref 0), some (.int a0), some (.int a1), none]) (st' := [.int a1, .ref 1]) 1 rfl ?_
    refine kx_q_callV (as := [.int a1]) (rest := []) (M1 := M) (rv := some (.int (kx_bi (f_X0_hasCell 1 M a1)))) kxl_1.1 rfl klk_X4_149 kse_X0_hasCell rfl rfl rfl rfl (Nat.le_of_ble_eq_true rfl) (Nat.le_of_ble_eq_true rfl) (c_X0_hasCell (d := d + 2) 1 (kxl_1) a1 M (f_X0_hasCell 1 M a1) rfl) ?_
    show kx_Rn _ _ _ (19, [some (.ref 0), some (.int a0), some (.int a1), none], [.int (kx_bi (f_X0_hasCell 1 M a1))], M) _ _
    refine kx_q_zne rfl (fun hc5 => ?_) (fun hc5 => ?_)
    · rw [if_pos hc5] at h
      refine kx_go (pc' := 31) (L' := [some (.ref 0), some (.int a0), some (.int a1), some (.int (0 : Int32))]) (st' := []) 2 rfl ?_
      refine kx_wk [true, true, true, true] ?_
      exact t_X4_how_31 kx_fuel a0 a1 (0 : Int32) M h
    · rw [if_neg hc5] at h
      refine kx_go (pc' := 25) (L' := [some (.ref 0), some (.int a0), some (.int a1), none]) (st' := [.int (-2 : Int32), .ref 0]) 2 rfl ?_
      obtain ⟨v6, M8, hv7, h⟩ := kx_bd_some h
      refine kx_q_callV (as := [.int (-2 : Int32)]) (rest := []) (M1 := M8) (rv := some (.int v6)) kxo_0 rfl klk_X4_59 kse_X4_refuse rfl rfl rfl rfl (Nat.le_of_ble_eq_true rfl) (Nat.le_of_ble_eq_true rfl) (c_X4_refuse (d := d + 2) (-2 : Int32) M v6 M8 hv7) ?_
      show kx_Rn _ _ _ (28, [some (.ref 0), some (.int a0), some (.int a1), none], [.int v6], M8) _ _
      cases h
      exact kx_r_iret rfl rfl
theorem c_X4_how {d : Nat} (a0 : Int32) (a1 : Int32) (M : kx_M) (r : Int32) (M' : kx_M) (h : f_X4_how a0 a1 M = some (r, M')) : kx_Call EX (d + 4) T_X4_how [.ref 0, .int a0, .int a1] M (some (.int r)) M' := kx_entry kok_X4_how (Nat.le_of_ble_eq_true rfl) rfl (t_X4_how (d := d) a0 a1 M h)
set_option maxRecDepth 100000 in
set_option maxHeartbeats 4000000 in
theorem t_X4_lifted_65 {d : Nat} {r : Int32} {M' : kx_M} (k42 : Int32 → Int32 → Int32 → Int32 → Int32 → kx_M → Option (Int32 × kx_M)) (hk42 : ∀ (x1 : Int32) (x2 : Int32) (x3 : Int32) (x4 : Int32) (x5 : Int32) (M : kx_M), k42 x1 x2 x3 x4 x5 M = some (r, M') → kx_Rn EX T_X4_lifted (d + 5) (42, [some (.ref 0), some (.int x1), some (.int x2), some (.int x3), some (.int x4), some (.int x5), none], [], M) (some (.int r)) M') (x1 : Int32) (x2 : Int32) (x3 : Int32) (x4 : Int32) (x5 : Int32) (s0 : Bool) (M : kx_M) (h : f_X4_lifted_65 k42 x1 x2 x3 x4 x5 s0 M = some (r, M')) : kx_Rn EX T_X4_lifted (d + 5) (65, [some (.ref 0), some (.int x1), some (.int x2), some (.int x3), some (.int x4), some (.int x5), none], [.int (kx_bi s0)], M) (some (.int r)) M' := by
  unfold f_X4_lifted_65 at h
  refine kx_go (pc' := 69) (L' := [some (.ref 0), some (.int x1), some (.int x2), some (.int x3), some (.int x4), some (.int x5), some (.int (kx_bi s0))]) (st' := [.int (kx_bi s0)]) 2 rfl ?_
  refine kx_q_zeq rfl (fun hc1 => ?_) (fun hc1 => ?_)
  · rw [if_neg hc1] at h
    refine kx_go (pc' := 97) (L' := [some (.ref 0), some (.int x1), some (.int x2), some (.int x3), some (.int x4), some (.int (x5 + (1))), some (.int (kx_bi s0))]) (st' := []) 1 rfl ?_
    refine kx_r_goto rfl ?_
    refine kx_wk [true, true, true, true, true, true, false] ?_
    exact hk42 x1 x2 x3 x4 (x5 + (1)) M h
  · rw [if_pos hc1] at h
    refine kx_go (pc' := 74) (L' := [some (.ref 0), some (.int x1), some (.int x2), some (.int x3), some (.int x4), some (.int x5), some (.int (kx_bi s0))]) (st' := [.ref 0, .int x2]) 2 rfl ?_
    refine kx_q_getR (k := 0) (j := 1) kxo_0 rfl kfl_X4_10 rfl ?_
    refine kx_go (pc' := 80) (L' := [some (.ref 0), some (.int x1), some (.int x2), some (.int x3), some (.int x4), some (.int x5), some (.int (kx_bi s0))]) (st' := [.int x5, .int x1, .ref 1, .int x2]) 2 rfl ?_
    obtain ⟨v2, hv3, h⟩ := kx_bn_some h
    refine kx_q_callV (as := [.int x1, .int x5]) (rest := [.int x2]) (M1 := M) (rv := some (.int v2)) kxl_1.1 rfl klk_X4_242 kse_X0_shownAlone rfl rfl rfl rfl (Nat.le_of_ble_eq_true rfl) (Nat.le_of_ble_eq_true rfl) (c_X0_shownAlone (d := d + 0) 1 (kxl_1) x1 x5 M v2 hv3) ?_
    show kx_Rn _ _ _ (83, [some (.ref 0), some (.int x1), some (.int x2), some (.int x3), some (.int x4), some (.int x5), some (.int (kx_bi s0))], [.int v2, .int x2], M) _ _
    refine kx_go (pc' := 84) (L' := [some (.ref 0), some (.int x1), some (.int x2), some (.int x3), some (.int x4), some (.int x5), some (.int (kx_bi s0))]) (st' := [.long (v2).toInt64, .int x2]) 1 rfl ?_
    refine kx_r_callS (as := [.int x2, .long (v2).toInt64]) (rest := []) (M1 := M) (rv := some (.int (kx_bi (f_X4_isIn x2 (v2).toInt64)))) rfl klk_X4_238 kst_X4_isIn rfl rfl (Nat.le_of_ble_eq_true rfl) (Nat.le_of_ble_eq_true rfl) (c_X4_isIn (d := d + 4) x2 (v2).toInt64 M (f_X4_isIn x2 (v2).toInt64) rfl) ?_
    show kx_Rn _ _ _ (87, [some (.ref 0), some (.int x1), some (.int x2), some (.int x3), some (.int x4), some (.int x5), some (.int (kx_bi s0))], [.int (kx_bi (f_X4_isIn x2 (v2).toInt64))], M) _ _
    refine kx_q_zeq rfl (fun hc4 => ?_) (fun hc4 => ?_)
    · rw [if_neg hc4] at h
      refine kx_go (pc' := 97) (L' := [some (.ref 0), some (.int x1), some (.int x2), some (.int x3), some (.int x4), some (.int (x5 + (1))), some (.int (kx_bi s0))]) (st' := []) 1 rfl ?_
      refine kx_r_goto rfl ?_
      refine kx_wk [true, true, true, true, true, true, false] ?_
      exact hk42 x1 x2 x3 x4 (x5 + (1)) M h
    · rw [if_pos hc4] at h
      refine kx_go (pc' := 97) (L' := [some (.ref 0), some (.int x1), some (.int x2), some (.int x3), some (.int x5), some (.int (x5 + (1))), some (.int (kx_bi s0))]) (st' := []) 3 rfl ?_
      refine kx_r_goto rfl ?_
      refine kx_wk [true, true, true, true, true, true, false] ?_
      exact hk42 x1 x2 x3 x5 (x5 + (1)) M h
set_option maxRecDepth 100000 in
set_option maxHeartbeats 4000000 in
theorem t_X4_lifted_42 {d : Nat} {r : Int32} {M' : kx_M} : ∀ (n : Nat) (x1 : Int32) (x2 : Int32) (x3 : Int32) (x4 : Int32) (x5 : Int32) (M : kx_M), f_X4_lifted_42 n x1 x2 x3 x4 x5 M = some (r, M') → kx_Rn EX T_X4_lifted (d + 5) (42, [some (.ref 0), some (.int x1), some (.int x2), some (.int x3), some (.int x4), some (.int x5), none], [], M) (some (.int r)) M' := by
  intro n
  induction n with
  | zero =>
    intro x1 x2 x3 x4 x5 M h
    cases (show (none : Option (Int32 × kx_M)) = some _ from h)
  | succ n ih =>
    intro x1 x2 x3 x4 x5 M h
    rw [f_X4_lifted_42.eq_2] at h
    refine kx_go (pc' := 46) (L' := [some (.ref 0), some (.int x1), some (.int x2), some (.int x3), some (.int x4), some (.int x5), none]) (st' := [.int (20 : Int32), .int x5]) 2 rfl ?_
    refine kx_r_icmp_gt rfl (fun hc1 => ?_) (fun hc1 => ?_)
    · rw [if_pos hc1] at h
      refine kx_go (pc' := 102) (L' := [some (.ref 0), some (.int x1), some (.int x2), some (.int x3), some (.int x4), some (.int x5), none]) (st' := [.int x4]) 1 rfl ?_
      cases h
      exact kx_r_iret rfl rfl
    · rw [if_neg hc1] at h
      refine kx_go (pc' := 52) (L' := [some (.ref 0), some (.int x1), some (.int x2), some (.int x3), some (.int x4), some (.int x5), none]) (st' := [.int (-1 : Int32), .int x4]) 2 rfl ?_
      refine kx_r_icmp_eq rfl (fun hc2 => ?_) (fun hc2 => ?_)
      · rw [if_pos hc2] at h
        refine kx_go (pc' := 61) (L' := [some (.ref 0), some (.int x1), some (.int x2), some (.int x3), some (.int x4), some (.int x5), none]) (st' := [.int (1 : Int32)]) 1 rfl ?_
        refine kx_r_goto rfl ?_
        refine kx_wk [true, true, true, true, true, true, false] ?_
        exact t_X4_lifted_65 (f_X4_lifted_42 n) ih x1 x2 x3 x4 x5 true M h
      · rw [if_neg hc2] at h
        refine kx_go (pc' := 57) (L' := [some (.ref 0), some (.int x1), some (.int x2), some (.int x3), some (.int x4), some (.int x5), none]) (st' := [.int (1 : Int32), .int x3]) 2 rfl ?_
        refine kx_r_icmp_ne rfl (fun hc3 => ?_) (fun hc3 => ?_)
        · rw [if_neg hc3] at h
          refine kx_go (pc' := 65) (L' := [some (.ref 0), some (.int x1), some (.int x2), some (.int x3), some (.int x4), some (.int x5), none]) (st' := [.int (0 : Int32)]) 1 rfl ?_
          refine kx_wk [true, true, true, true, true, true, false] ?_
          exact t_X4_lifted_65 (f_X4_lifted_42 n) ih x1 x2 x3 x4 x5 false M h
        · rw [if_pos hc3] at h
          refine kx_go (pc' := 61) (L' := [some (.ref 0), some (.int x1), some (.int x2), some (.int x3), some (.int x4), some (.int x5), none]) (st' := [.int (1 : Int32)]) 1 rfl ?_
          refine kx_r_goto rfl ?_
          refine kx_wk [true, true, true, true, true, true, false] ?_
          exact t_X4_lifted_65 (f_X4_lifted_42 n) ih x1 x2 x3 x4 x5 true M h
set_option maxRecDepth 100000 in
set_option maxHeartbeats 4000000 in
theorem t_X4_lifted {d : Nat} {r : Int32} {M' : kx_M} (a0 : Int32) (a1 : Int32) (a2 : Int32) (M : kx_M) (h : f_X4_lifted a0 a1 a2 M = some (r, M')) : kx_Rn EX T_X4_lifted (d + 5) (0, [some (.ref 0), some (.int a0), some (.int a1), some (.int a2), none, none, none], [], M) (some (.int r)) M' := by
  unfold f_X4_lifted at h
  refine kx_go (pc' := 1) (L' := [some (.ref 0), some (.int a0), some (.int a1), some (.int a2), none, none, none]) (st' := [.ref 0]) 1 rfl ?_
  refine kx_q_getR (k := 0) (j := 1) kxo_0 rfl kfl_X4_10 rfl ?_
  refine kx_go (pc' := 5) (L' := [some (.ref 0), some (.int a0), some (.int a1), some (.int a2), none, none, none]) (st' := [.int a0, .ref 1]) 1 rfl ?_
  refine kx_q_callV (as := [.int a0]) (rest := []) (M1 := M) (rv := some (.int (kx_bi (f_X0_hasVisitor 1 M a0)))) kxl_1.1 rfl klk_X4_104 kse_X0_hasVisitor rfl rfl rfl rfl (Nat.le_of_ble_eq_true rfl) (Nat.le_of_ble_eq_true rfl) (c_X0_hasVisitor (d := d + 3) 1 (kxl_1) a0 M (f_X0_hasVisitor 1 M a0) rfl) ?_
  show kx_Rn _ _ _ (8, [some (.ref 0), some (.int a0), some (.int a1), some (.int a2), none, none, none], [.int (kx_bi (f_X0_hasVisitor 1 M a0))], M) _ _
  refine kx_q_zeq rfl (fun hc1 => ?_) (fun hc1 => ?_)
  · rw [if_neg hc1] at h
    refine kx_go (pc' := 32) (L' := [some (.ref 0), some (.int a0), some (.int a1), some (.int a2), none, none, none]) (st' := [.int (-2 : Int32), .ref 0]) 2 rfl ?_
    obtain ⟨v2, M4, hv3, h⟩ := kx_bd_some h
    refine kx_q_callV (as := [.int (-2 : Int32)]) (rest := []) (M1 := M4) (rv := some (.int v2)) kxo_0 rfl klk_X4_59 kse_X4_refuse rfl rfl rfl rfl (Nat.le_of_ble_eq_true rfl) (Nat.le_of_ble_eq_true rfl) (c_X4_refuse (d := d + 3) (-2 : Int32) M v2 M4 hv3) ?_
    show kx_Rn _ _ _ (35, [some (.ref 0), some (.int a0), some (.int a1), some (.int a2), none, none, none], [.int v2], M4) _ _
    cases h
    exact kx_r_iret rfl rfl
  · rw [if_pos hc1] at h
    refine kx_go (pc' := 12) (L' := [some (.ref 0), some (.int a0), some (.int a1), some (.int a2), none, none, none]) (st' := [.ref 0]) 1 rfl ?_
    refine kx_q_getR (k := 0) (j := 1) kxo_0 rfl kfl_X4_10 rfl ?_
    refine kx_go (pc' := 16) (L' := [some (.ref 0), some (.int a0), some (.int a1), some (.int a2), none, none, none]) (st' := [.int a1, .ref 1]) 1 rfl ?_
    refine kx_q_callV (as := [.int a1]) (rest := []) (M1 := M) (rv := some (.int (kx_bi (f_X0_hasCell 1 M a1)))) kxl_1.1 rfl klk_X4_149 kse_X0_hasCell rfl rfl rfl rfl (Nat.le_of_ble_eq_true rfl) (Nat.le_of_ble_eq_true rfl) (c_X0_hasCell (d := d + 3) 1 (kxl_1) a1 M (f_X0_hasCell 1 M a1) rfl) ?_
    show kx_Rn _ _ _ (19, [some (.ref 0), some (.int a0), some (.int a1), some (.int a2), none, none, none], [.int (kx_bi (f_X0_hasCell 1 M a1))], M) _ _
    refine kx_q_zeq rfl (fun hc5 => ?_) (fun hc5 => ?_)
    · rw [if_neg hc5] at h
      refine kx_go (pc' := 32) (L' := [some (.ref 0), some (.int a0), some (.int a1), some (.int a2), none, none, none]) (st' := [.int (-2 : Int32), .ref 0]) 2 rfl ?_
      obtain ⟨v6, M8, hv7, h⟩ := kx_bd_some h
      refine kx_q_callV (as := [.int (-2 : Int32)]) (rest := []) (M1 := M8) (rv := some (.int v6)) kxo_0 rfl klk_X4_59 kse_X4_refuse rfl rfl rfl rfl (Nat.le_of_ble_eq_true rfl) (Nat.le_of_ble_eq_true rfl) (c_X4_refuse (d := d + 3) (-2 : Int32) M v6 M8 hv7) ?_
      show kx_Rn _ _ _ (35, [some (.ref 0), some (.int a0), some (.int a1), some (.int a2), none, none, none], [.int v6], M8) _ _
      cases h
      exact kx_r_iret rfl rfl
    · rw [if_pos hc5] at h
      refine kx_go (pc' := 23) (L' := [some (.ref 0), some (.int a0), some (.int a1), some (.int a2), none, none, none]) (st' := [.int a2]) 1 rfl ?_
      refine kx_r_callS (as := [.int a2]) (rest := []) (M1 := M) (rv := some (.int (kx_bi (f_X4_isOneOfTwo a2)))) rfl klk_X4_152 kst_X4_isOneOfTwo rfl rfl (Nat.le_of_ble_eq_true rfl) (Nat.le_of_ble_eq_true rfl) (c_X4_isOneOfTwo (d := d + 4) a2 M (f_X4_isOneOfTwo a2) rfl) ?_
      show kx_Rn _ _ _ (26, [some (.ref 0), some (.int a0), some (.int a1), some (.int a2), none, none, none], [.int (kx_bi (f_X4_isOneOfTwo a2))], M) _ _
      refine kx_q_zne rfl (fun hc9 => ?_) (fun hc9 => ?_)
      · rw [if_pos hc9] at h
        refine kx_go (pc' := 42) (L' := [some (.ref 0), some (.int a0), some (.int a1), some (.int a2), some (.int (-1 : Int32)), some (.int (0 : Int32)), none]) (st' := []) 4 rfl ?_
        refine kx_wk [true, true, true, true, true, true, false] ?_
        exact t_X4_lifted_42 kx_fuel a0 a1 a2 (-1 : Int32) (0 : Int32) M h
      · rw [if_neg hc9] at h
        refine kx_go (pc' := 32) (L' := [some (.ref 0), some (.int a0), some (.int a1), some (.int a2), none, none, none]) (st' := [.int (-2 : Int32), .ref 0]) 2 rfl ?_
        obtain ⟨v10, M12, hv11, h⟩ := kx_bd_some h
        refine kx_q_callV (as := [.int (-2 : Int32)]) (rest := []) (M1 := M12) (rv := some (.int v10)) kxo_0 rfl klk_X4_59 kse_X4_refuse rfl rfl rfl rfl (Nat.le_of_ble_eq_true rfl) (Nat.le_of_ble_eq_true rfl) (c_X4_refuse (d := d + 3) (-2 : Int32) M v10 M12 hv11) ?_
        show kx_Rn _ _ _ (35, [some (.ref 0), some (.int a0), some (.int a1), some (.int a2), none, none, none], [.int v10], M12) _ _
        cases h
        exact kx_r_iret rfl rfl
theorem c_X4_lifted {d : Nat} (a0 : Int32) (a1 : Int32) (a2 : Int32) (M : kx_M) (r : Int32) (M' : kx_M) (h : f_X4_lifted a0 a1 a2 M = some (r, M')) : kx_Call EX (d + 5) T_X4_lifted [.ref 0, .int a0, .int a1, .int a2] M (some (.int r)) M' := kx_entry kok_X4_lifted (Nat.le_of_ble_eq_true rfl) rfl (t_X4_lifted (d := d) a0 a1 a2 M h)
set_option maxRecDepth 100000 in
set_option maxHeartbeats 4000000 in
theorem t_X4_tellsVisitors_2 {d : Nat} {r : Bool} (q : Nat) (hq : kx_shelf EX q) (M : kx_M) : ∀ (n : Nat) (x2 : Int32) (x3 : Int32), f_X4_tellsVisitors_2 q M n x2 x3 = some r → kx_Rn EX T_X4_tellsVisitors (d + 0) (2, [some (.ref 0), some (.ref q), some (.int x2), some (.int x3), none, none], [], M) (some (.int (kx_bi r))) M := by
  intro n
  induction n with
  | zero =>
    intro x2 x3 h
    cases (show (none : Option Bool) = some _ from h)
  | succ n ih =>
    intro x2 x3 h
    rw [f_X4_tellsVisitors_2.eq_2] at h
    refine kx_go (pc' := 4) (L' := [some (.ref 0), some (.ref q), some (.int x2), some (.int x3), none, none]) (st' := [.int x2, .int x3]) 2 rfl ?_
    refine kx_r_icmp_ge rfl (fun hc1 => ?_) (fun hc1 => ?_)
    · rw [if_pos hc1] at h
      refine kx_go (pc' := 47) (L' := [some (.ref 0), some (.ref q), some (.int x2), some (.int x3), none, none]) (st' := [.int (1 : Int32)]) 1 rfl ?_
      cases h
      exact kx_r_zret rfl rfl (Or.inr rfl)
    · rw [if_neg hc1] at h
      refine kx_go (pc' := 8) (L' := [some (.ref 0), some (.ref q), some (.int x2), some (.int x3), none, none]) (st' := [.ref q]) 1 rfl ?_
      refine kx_q_getR (k := 0) (j := (q + 1)) hq.1 rfl kfl_X4_87 rfl ?_
      refine kx_go (pc' := 14) (L' := [some (.ref 0), some (.ref q), some (.int x2), some (.int x3), none, none]) (st' := [.int ((2 : Int32) * x3), .ref (q + 1)]) 3 rfl ?_
      obtain ⟨hi2, h⟩ := kx_ck_some h
      refine kx_q_lald (hq.2) rfl hi2 ?_
      refine kx_go (pc' := 21) (L' := [some (.ref 0), some (.ref q), some (.int x2), some (.int x3), some (.long (M.2 (q + 1) (((2 : Int32) * x3)).toNatClampNeg)), none]) (st' := [.int (lg_cmp (M.2 (q + 1) (((2 : Int32) * x3)).toNatClampNeg) (0 : Int64))]) 4 rfl ?_
      refine kx_r_if_lt rfl (fun hc3 => ?_) (fun hc3 => ?_)
      · rw [if_pos hc3] at h
        refine kx_go (pc' := 39) (L' := [some (.ref 0), some (.ref q), some (.int x2), some (.int x3), some (.long (M.2 (q + 1) (((2 : Int32) * x3)).toNatClampNeg)), none]) (st' := [.int (0 : Int32)]) 1 rfl ?_
        cases h
        exact kx_r_zret rfl rfl (Or.inl rfl)
      · rw [if_neg hc3] at h
        refine kx_go (pc' := 27) (L' := [some (.ref 0), some (.ref q), some (.int x2), some (.int x3), some (.long (M.2 (q + 1) (((2 : Int32) * x3)).toNatClampNeg)), none]) (st' := [.ref 0, .long (M.2 (q + 1) (((2 : Int32) * x3)).toNatClampNeg)]) 2 rfl ?_
        refine kx_q_getR (k := 0) (j := 1) kxo_0 rfl kfl_X4_10 rfl ?_
        refine kx_q_getI (k := 11) kxl_1.1 rfl kfl_X4_146 rfl ?_
        refine kx_go (pc' := 35) (L' := [some (.ref 0), some (.ref q), some (.int x2), some (.int x3), some (.long (M.2 (q + 1) (((2 : Int32) * x3)).toNatClampNeg)), none]) (st' := [.int (lg_cmp (M.2 (q + 1) (((2 : Int32) * x3)).toNatClampNeg) ((M.1 1 11)).toInt64)]) 2 rfl ?_
        refine kx_r_if_lt rfl (fun hc4 => ?_) (fun hc4 => ?_)
        · rw [if_pos hc4] at h
          refine kx_go (pc' := 43) (L' := [some (.ref 0), some (.ref q), some (.int x2), some (.int (x3 + (1))), some (.long (M.2 (q + 1) (((2 : Int32) * x3)).toNatClampNeg)), none]) (st' := []) 1 rfl ?_
          refine kx_r_goto rfl ?_
          refine kx_wk [true, true, true, true, false, false] ?_
          exact ih x2 (x3 + (1)) h
        · rw [if_neg hc4] at h
          refine kx_go (pc' := 39) (L' := [some (.ref 0), some (.ref q), some (.int x2), some (.int x3), some (.long (M.2 (q + 1) (((2 : Int32) * x3)).toNatClampNeg)), none]) (st' := [.int (0 : Int32)]) 1 rfl ?_
          cases h
          exact kx_r_zret rfl rfl (Or.inl rfl)
set_option maxRecDepth 100000 in
set_option maxHeartbeats 4000000 in
theorem t_X4_tellsVisitors {d : Nat} {r : Bool} (q : Nat) (hq : kx_shelf EX q) (M : kx_M) (a1 : Int32) (h : f_X4_tellsVisitors q M a1 = some r) : kx_Rn EX T_X4_tellsVisitors (d + 0) (0, [some (.ref 0), some (.ref q), some (.int a1), none, none, none], [], M) (some (.int (kx_bi r))) M := by
  unfold f_X4_tellsVisitors at h
  refine kx_go (pc' := 2) (L' := [some (.ref 0), some (.ref q), some (.int a1), some (.int (0 : Int32)), none, none]) (st' := []) 2 rfl ?_
  refine kx_wk [true, true, true, true, false, false] ?_
  exact t_X4_tellsVisitors_2 q hq M kx_fuel a1 (0 : Int32) h
theorem c_X4_tellsVisitors {d : Nat} (q : Nat) (hq : kx_shelf EX q) (a1 : Int32) (M : kx_M) (r : Bool) (h : f_X4_tellsVisitors q M a1 = some r) : kx_Call EX (d + 0) T_X4_tellsVisitors [.ref 0, .ref q, .int a1] M (some (.int (kx_bi r))) M := kx_entry kok_X4_tellsVisitors (Nat.le_of_ble_eq_true rfl) rfl (t_X4_tellsVisitors (d := d) q hq M a1 h)
set_option maxRecDepth 100000 in
set_option maxHeartbeats 4000000 in
theorem t_X4_register_104 {d : Nat} {r : Int32} {M' : kx_M} : ∀ (n : Nat) (x1 : Int32) (x2 : Int32) (x3 : Int32) (x4 : Int32) (x7 : Int32) (x8 : Int32) (x9 : Int32) (M : kx_M), f_X4_register_104 n x1 x2 x3 x4 x7 x8 x9 M = some (r, M') → kx_Rn EX T_X4_register (d + 3) (104, [some (.ref 0), some (.int x1), some (.int x2), some (.int x3), some (.int x4), none, none, some (.int x7), some (.int x8), some (.int x9), none, none], [], M) (some (.int r)) M' := by
  intro n
  induction n with
  | zero =>
    intro x1 x2 x3 x4 x7 x8 x9 M h
    cases (show (none : Option (Int32 × kx_M)) = some _ from h)
  | succ n ih =>
    intro x1 x2 x3 x4 x7 x8 x9 M h
    rw [f_X4_register_104.eq_2] at h
    refine kx_go (pc' := 107) (L' := [some (.ref 0), some (.int x1), some (.int x2), some (.int x3), some (.int x4), none, none, some (.int x7), some (.int x8), some (.int x9), none, none]) (st' := [.int x2, .int x9]) 2 rfl ?_
    refine kx_r_icmp_ge rfl (fun hc1 => ?_) (fun hc1 => ?_)
    · rw [if_pos hc1] at h
      refine kx_go (pc' := 204) (L' := [some (.ref 0), some (.int x1), some (.int x2), some (.int x3), some (.int x4), none, none, some (.int x7), some (.int x8), some (.int x9), none, none]) (st' := [.int (2 : Int32), .int x4]) 2 rfl ?_
      refine kx_r_icmp_ne rfl (fun hc2 => ?_) (fun hc2 => ?_)
      · rw [if_neg hc2] at h
        refine kx_go (pc' := 223) (L' := [some (.ref 0), some (.int x1), some (.int x2), some (.int x3), some (.int x4), none, none, some (.int x7), some (.int x8), some (.int x9), none, none]) (st' := [.int x8, .int x7]) 2 rfl ?_
        refine kx_r_icmp_le rfl (fun hc3 => ?_) (fun hc3 => ?_)
        · rw [if_pos hc3] at h
          refine kx_go (pc' := 230) (L' := [some (.ref 0), some (.int x1), some (.int x2), some (.int x3), some (.int x4), none, none, some (.int x7), some (.int x8), some (.int x9), none, none]) (st' := [.int x4]) 1 rfl ?_
          refine kx_r_if_ne rfl (fun hc4 => ?_) (fun hc4 => ?_)
          · rw [if_neg hc4] at h
            refine kx_go (pc' := 240) (L' := [some (.ref 0), some (.int x1), some (.int x2), some (.int x3), some (.int x4), none, none, some (.int x7), some (.int x8), some (.int x9), none, none]) (st' := [.int x8]) 1 rfl ?_
            cases h
            exact kx_r_iret rfl rfl
          · rw [if_pos hc4] at h
            refine kx_go (pc' := 235) (L' := [some (.ref 0), some (.int x1), some (.int x2), some (.int x3), some (.int x4), none, none, some (.int x7), some (.int x8), some (.int x9), none, none]) (st' := [.int x7]) 1 rfl ?_
            refine kx_r_goto rfl ?_
            cases h
            exact kx_r_iret rfl rfl
        · rw [if_neg hc3] at h
          refine kx_go (pc' := 227) (L' := [some (.ref 0), some (.int x1), some (.int x2), some (.int x3), some (.int x4), none, none, some (.int x7), some (.int x8), some (.int x9), none, none]) (st' := [.int (-1 : Int32)]) 1 rfl ?_
          cases h
          exact kx_r_iret rfl rfl
      · rw [if_pos hc2] at h
        refine kx_go (pc' := 215) (L' := [some (.ref 0), some (.int x1), some (.int x2), some (.int x3), some (.int x4), none, none, some (.int x7), some (.int x8), some (.int x9), none, none]) (st' := [.int ((x8 - x7) + (1 : Int32)), .int (0 : Int32)]) 6 rfl ?_
        refine kx_q_max rfl kml_X4_254 kst_max kini_math kcd_max (Nat.le_of_ble_eq_true rfl) ?_
        cases h
        exact kx_r_iret rfl rfl
    · rw [if_neg hc1] at h
      refine kx_go (pc' := 111) (L' := [some (.ref 0), some (.int x1), some (.int x2), some (.int x3), some (.int x4), none, none, some (.int x7), some (.int x8), some (.int x9), none, none]) (st' := [.ref 0]) 1 rfl ?_
      refine kx_q_getR (k := 3) (j := 25) kxo_0 rfl kfl_X4_24 rfl ?_
      refine kx_go (pc' := 115) (L' := [some (.ref 0), some (.int x1), some (.int x2), some (.int x3), some (.int x4), none, none, some (.int x7), some (.int x8), some (.int x9), none, none]) (st' := [.int x1, .ref 25]) 1 rfl ?_
      obtain ⟨hi5, h⟩ := kx_ck_some h
      refine kx_q_aald rfl hi5 ?_
      refine kx_q_getR (k := 0) (j := ((26 + 2 * (x1).toNatClampNeg) + 1)) (kxs_in hi5).1 rfl kfl_X4_87 rfl ?_
      refine kx_go (pc' := 123) (L' := [some (.ref 0), some (.int x1), some (.int x2), some (.int x3), some (.int x4), none, none, some (.int x7), some (.int x8), some (.int x9), none, none]) (st' := [.int ((2 : Int32) * x9), .ref ((26 + 2 * (x1).toNatClampNeg) + 1)]) 3 rfl ?_
      obtain ⟨hi6, h⟩ := kx_ck_some h
      refine kx_q_lald ((kxs_in hi5).2) rfl hi6 ?_
      refine kx_go (pc' := 128) (L' := [some (.ref 0), some (.int x1), some (.int x2), some (.int x3), some (.int x4), none, none, some (.int x7), some (.int x8), some (.int x9), some (.int ((M.2 ((26 + 2 * (x1).toNatClampNeg) + 1) (((2 : Int32) * x9)).toNatClampNeg)).toInt32), none]) (st' := [.ref 0]) 3 rfl ?_
      refine kx_q_getR (k := 0) (j := 1) kxo_0 rfl kfl_X4_10 rfl ?_
      refine kx_go (pc' := 138) (L' := [some (.ref 0), some (.int x1), some (.int x2), some (.int x3), some (.int x4), none, none, some (.int x7), some (.int x8), some (.int x9), some (.int ((M.2 ((26 + 2 * (x1).toNatClampNeg) + 1) (((2 : Int32) * x9)).toNatClampNeg)).toInt32), none]) (st' := [.ref 0, .int ((1 : Int32) <<< (((M.2 ((26 + 2 * (x1).toNatClampNeg) + 1) (((2 : Int32) * x9)).toNatClampNeg)).toInt32 &&& 31)), .int ((M.2 ((26 + 2 * (x1).toNatClampNeg) + 1) (((2 : Int32) * x9)).toNatClampNeg)).toInt32, .ref 1]) 5 rfl ?_
      refine kx_q_getR (k := 0) (j := 1) kxo_0 rfl kfl_X4_10 rfl ?_
      refine kx_q_getI (k := 8) kxl_1.1 rfl kfl_X4_122 rfl ?_
      obtain ⟨v7, hv8, h⟩ := kx_bn_some h
      refine kx_q_callV (as := [.int ((M.2 ((26 + 2 * (x1).toNatClampNeg) + 1) (((2 : Int32) * x9)).toNatClampNeg)).toInt32, .int ((1 : Int32) <<< (((M.2 ((26 + 2 * (x1).toNatClampNeg) + 1) (((2 : Int32) * x9)).toNatClampNeg)).toInt32 &&& 31)), .int (M.1 1 8)]) (rest := []) (M1 := M) (rv := some (.int v7)) kxl_1.1 rfl klk_X4_125 kse_X0_openTo rfl rfl rfl rfl (Nat.le_of_ble_eq_true rfl) (Nat.le_of_ble_eq_true rfl) (c_X0_openTo (d := d + 0) 1 (kxl_1) ((M.2 ((26 + 2 * (x1).toNatClampNeg) + 1) (((2 : Int32) * x9)).toNatClampNeg)).toInt32 ((1 : Int32) <<< (((M.2 ((26 + 2 * (x1).toNatClampNeg) + 1) (((2 : Int32) * x9)).toNatClampNeg)).toInt32 &&& 31)) (M.1 1 8) M v7 hv8) ?_
      show kx_Rn _ _ _ (147, [some (.ref 0), some (.int x1), some (.int x2), some (.int x3), some (.int x4), none, none, some (.int x7), some (.int x8), some (.int x9), some (.int ((M.2 ((26 + 2 * (x1).toNatClampNeg) + 1) (((2 : Int32) * x9)).toNatClampNeg)).toInt32), none], [.int v7], M) _ _
      refine kx_go (pc' := 151) (L' := [some (.ref 0), some (.int x1), some (.int x2), some (.int x3), some (.int x4), none, none, some (.int x7), some (.int x8), some (.int x9), some (.int ((M.2 ((26 + 2 * (x1).toNatClampNeg) + 1) (((2 : Int32) * x9)).toNatClampNeg)).toInt32), some (.int v7)]) (st' := [.ref 0, .int x3]) 3 rfl ?_
      refine kx_q_getR (k := 3) (j := 25) kxo_0 rfl kfl_X4_24 rfl ?_
      refine kx_go (pc' := 155) (L' := [some (.ref 0), some (.int x1), some (.int x2), some (.int x3), some (.int x4), none, none, some (.int x7), some (.int x8), some (.int x9), some (.int ((M.2 ((26 + 2 * (x1).toNatClampNeg) + 1) (((2 : Int32) * x9)).toNatClampNeg)).toInt32), some (.int v7)]) (st' := [.int x1, .ref 25, .int x3]) 1 rfl ?_
      obtain ⟨hi9, h⟩ := kx_ck_some h
      refine kx_q_aald rfl hi9 ?_
      refine kx_q_getR (k := 0) (j := ((26 + 2 * (x1).toNatClampNeg) + 1)) (kxs_in hi9).1 rfl kfl_X4_87 rfl ?_
      refine kx_go (pc' := 165) (L' := [some (.ref 0), some (.int x1), some (.int x2), some (.int x3), some (.int x4), none, none, some (.int x7), some (.int x8), some (.int x9), some (.int ((M.2 ((26 + 2 * (x1).toNatClampNeg) + 1) (((2 : Int32) * x9)).toNatClampNeg)).toInt32), some (.int v7)]) (st' := [.int (((2 : Int32) * x9) + (1 : Int32)), .ref ((26 + 2 * (x1).toNatClampNeg) + 1), .int x3]) 5 rfl ?_
      obtain ⟨hi10, h⟩ := kx_ck_some h
      refine kx_q_lald ((kxs_in hi9).2) rfl hi10 ?_
      refine kx_r_callS (as := [.int x3, .long (M.2 ((26 + 2 * (x1).toNatClampNeg) + 1) ((((2 : Int32) * x9) + (1 : Int32))).toNatClampNeg)]) (rest := []) (M1 := M) (rv := some (.int (kx_bi (f_X4_isIn x3 (M.2 ((26 + 2 * (x1).toNatClampNeg) + 1) ((((2 : Int32) * x9) + (1 : Int32))).toNatClampNeg))))) rfl klk_X4_238 kst_X4_isIn rfl rfl (Nat.le_of_ble_eq_true rfl) (Nat.le_of_ble_eq_true rfl) (c_X4_isIn (d := d + 2) x3 (M.2 ((26 + 2 * (x1).toNatClampNeg) + 1) ((((2 : Int32) * x9) + (1 : Int32))).toNatClampNeg) M (f_X4_isIn x3 (M.2 ((26 + 2 * (x1).toNatClampNeg) + 1) ((((2 : Int32) * x9) + (1 : Int32))).toNatClampNeg)) rfl) ?_
      show kx_Rn _ _ _ (169, [some (.ref 0), some (.int x1), some (.int x2), some (.int x3), some (.int x4), none, none, some (.int x7), some (.int x8), some (.int x9), some (.int ((M.2 ((26 + 2 * (x1).toNatClampNeg) + 1) (((2 : Int32) * x9)).toNatClampNeg)).toInt32), some (.int v7)], [.int (kx_bi (f_X4_isIn x3 (M.2 ((26 + 2 * (x1).toNatClampNeg) + 1) ((((2 : Int32) * x9) + (1 : Int32))).toNatClampNeg)))], M) _ _
      refine kx_q_zeq rfl (fun hc11 => ?_) (fun hc11 => ?_)
      · rw [if_neg hc11] at h
        refine kx_go (pc' := 190) (L' := [some (.ref 0), some (.int x1), some (.int x2), some (.int x3), some (.int x4), none, none, some (.int x7), some (.int x8), some (.int x9), some (.int ((M.2 ((26 + 2 * (x1).toNatClampNeg) + 1) (((2 : Int32) * x9)).toNatClampNeg)).toInt32), some (.int v7)]) (st' := [.int (v7 + (1 : Int32)), .int x7]) 4 rfl ?_
        refine kx_q_max rfl kml_X4_254 kst_max kini_math kcd_max (Nat.le_of_ble_eq_true rfl) ?_
        refine kx_go (pc' := 198) (L' := [some (.ref 0), some (.int x1), some (.int x2), some (.int x3), some (.int x4), none, none, some (.int (if x7 < (v7 + (1 : Int32)) then (v7 + (1 : Int32)) else x7)), some (.int x8), some (.int (x9 + (1))), some (.int ((M.2 ((26 + 2 * (x1).toNatClampNeg) + 1) (((2 : Int32) * x9)).toNatClampNeg)).toInt32), some (.int v7)]) (st' := []) 2 rfl ?_
        refine kx_r_goto rfl ?_
        refine kx_wk [true, true, true, true, true, false, false, true, true, true, false, false] ?_
        exact ih x1 x2 x3 x4 (if x7 < (v7 + (1 : Int32)) then (v7 + (1 : Int32)) else x7) x8 (x9 + (1)) M h
      · rw [if_pos hc11] at h
        refine kx_go (pc' := 176) (L' := [some (.ref 0), some (.int x1), some (.int x2), some (.int x3), some (.int x4), none, none, some (.int x7), some (.int x8), some (.int x9), some (.int ((M.2 ((26 + 2 * (x1).toNatClampNeg) + 1) (((2 : Int32) * x9)).toNatClampNeg)).toInt32), some (.int v7)]) (st' := [.int v7, .int x8]) 2 rfl ?_
        refine kx_q_min rfl kml_X4_249 kst_min kini_math kcd_min (Nat.le_of_ble_eq_true rfl) ?_
        refine kx_go (pc' := 181) (L' := [some (.ref 0), some (.int x1), some (.int x2), some (.int x3), some (.int x4), none, none, some (.int x7), some (.int (if v7 < x8 then v7 else x8)), some (.int x9), some (.int ((M.2 ((26 + 2 * (x1).toNatClampNeg) + 1) (((2 : Int32) * x9)).toNatClampNeg)).toInt32), some (.int v7)]) (st' := []) 1 rfl ?_
        refine kx_r_goto rfl ?_
        refine kx_go (pc' := 198) (L' := [some (.ref 0), some (.int x1), some (.int x2), some (.int x3), some (.int x4), none, none, some (.int x7), some (.int (if v7 < x8 then v7 else x8)), some (.int (x9 + (1))), some (.int ((M.2 ((26 + 2 * (x1).toNatClampNeg) + 1) (((2 : Int32) * x9)).toNatClampNeg)).toInt32), some (.int v7)]) (st' := []) 1 rfl ?_
        refine kx_r_goto rfl ?_
        refine kx_wk [true, true, true, true, true, false, false, true, true, true, false, false] ?_
        exact ih x1 x2 x3 x4 x7 (if v7 < x8 then v7 else x8) (x9 + (1)) M h
set_option maxRecDepth 100000 in
set_option maxHeartbeats 4000000 in
theorem t_X4_register_82 {d : Nat} {r : Int32} {M' : kx_M} (x1 : Int32) (x2 : Int32) (x3 : Int32) (x4 : Int32) (x6 : Int32) (M : kx_M) (h : f_X4_register_82 x1 x2 x3 x4 x6 M = some (r, M')) : kx_Rn EX T_X4_register (d + 3) (82, [some (.ref 0), some (.int x1), some (.int x2), some (.int x3), some (.int x4), none, some (.int x6), none, none, none, none, none], [], M) (some (.int r)) M' := by
  unfold f_X4_register_82 at h
  refine kx_go (pc' := 84) (L' := [some (.ref 0), some (.int x1), some (.int x2), some (.int x3), some (.int x4), none, some (.int x6), none, none, none, none, none]) (st' := [.int x6]) 1 rfl ?_
  refine kx_r_if_eq rfl (fun hc1 => ?_) (fun hc1 => ?_)
  · rw [if_pos hc1] at h
    refine kx_go (pc' := 104) (L' := [some (.ref 0), some (.int x1), some (.int x2), some (.int x3), some (.int x4), none, some (.int x6), some (.int (0 : Int32)), some (.int (20 : Int32)), some (.int (0 : Int32)), none, none]) (st' := []) 6 rfl ?_
    refine kx_wk [true, true, true, true, true, false, false, true, true, true, false, false] ?_
    exact t_X4_register_104 kx_fuel x1 x2 x3 x4 (0 : Int32) (20 : Int32) (0 : Int32) M h
  · rw [if_neg hc1] at h
    refine kx_go (pc' := 90) (L' := [some (.ref 0), some (.int x1), some (.int x2), some (.int x3), some (.int x4), none, some (.int x6), none, none, none, none, none]) (st' := [.int x6, .ref 0]) 2 rfl ?_
    obtain ⟨v2, M4, hv3, h⟩ := kx_bd_some h
    refine kx_q_callV (as := [.int x6]) (rest := []) (M1 := M4) (rv := some (.int v2)) kxo_0 rfl klk_X4_59 kse_X4_refuse rfl rfl rfl rfl (Nat.le_of_ble_eq_true rfl) (Nat.le_of_ble_eq_true rfl) (c_X4_refuse (d := d + 1) x6 M v2 M4 hv3) ?_
    show kx_Rn _ _ _ (93, [some (.ref 0), some (.int x1), some (.int x2), some (.int x3), some (.int x4), none, some (.int x6), none, none, none, none, none], [.int v2], M4) _ _
    cases h
    exact kx_r_iret rfl rfl
set_option maxRecDepth 100000 in
set_option maxHeartbeats 4000000 in
theorem t_X4_register_54 {d : Nat} {r : Int32} {M' : kx_M} (x1 : Int32) (x2 : Int32) (x3 : Int32) (x4 : Int32) (s0 : Int32) (s1 : Bool) (s2 : Int32) (M : kx_M) (h : f_X4_register_54 x1 x2 x3 x4 s0 s1 s2 M = some (r, M')) : kx_Rn EX T_X4_register (d + 3) (54, [some (.ref 0), some (.int x1), some (.int x2), some (.int x3), some (.int x4), none, none, none, none, none, none, none], [.int s0, .int (kx_bi s1), .int s2, .ref 0], M) (some (.int r)) M' := by
  unfold f_X4_register_54 at h
  obtain ⟨v1, hv2, h⟩ := kx_bn_some h
  refine kx_q_callV (as := [.int s2, .int (kx_bi s1), .int s0]) (rest := []) (M1 := M) (rv := some (.int v1)) kxo_0 rfl klk_X4_67 kse_X4_rowFault rfl rfl rfl rfl (Nat.le_of_ble_eq_true rfl) (Nat.le_of_ble_eq_true rfl) (c_X4_rowFault (d := d + 0) s2 s1 s0 M v1 hv2) ?_
  show kx_Rn _ _ _ (57, [some (.ref 0), some (.int x1), some (.int x2), some (.int x3), some (.int x4), none, none, none, none, none, none, none], [.int v1], M) _ _
  refine kx_go (pc' := 61) (L' := [some (.ref 0), some (.int x1), some (.int x2), some (.int x3), some (.int x4), none, some (.int v1), none, none, none, none, none]) (st' := [.int v1]) 2 rfl ?_
  refine kx_r_if_ne rfl (fun hc3 => ?_) (fun hc3 => ?_)
  · rw [if_neg hc3] at h
    refine kx_wk [true, true, true, true, true, false, true, false, false, false, false, false] ?_
    exact t_X4_register_82 x1 x2 x3 x4 v1 M h
  · rw [if_pos hc3] at h
    refine kx_go (pc' := 66) (L' := [some (.ref 0), some (.int x1), some (.int x2), some (.int x3), some (.int x4), none, some (.int v1), none, none, none, none, none]) (st' := [.ref 0, .ref 0]) 2 rfl ?_
    refine kx_q_getR (k := 3) (j := 25) kxo_0 rfl kfl_X4_24 rfl ?_
    refine kx_go (pc' := 70) (L' := [some (.ref 0), some (.int x1), some (.int x2), some (.int x3), some (.int x4), none, some (.int v1), none, none, none, none, none]) (st' := [.int x1, .ref 25, .ref 0]) 1 rfl ?_
    obtain ⟨hi4, h⟩ := kx_ck_some h
    refine kx_q_aald rfl hi4 ?_
    refine kx_go (pc' := 72) (L' := [some (.ref 0), some (.int x1), some (.int x2), some (.int x3), some (.int x4), none, some (.int v1), none, none, none, none, none]) (st' := [.int x2, .ref (26 + 2 * (x1).toNatClampNeg), .ref 0]) 1 rfl ?_
    obtain ⟨v5, hv6, h⟩ := kx_bn_some h
    refine kx_q_callV (as := [.ref (26 + 2 * (x1).toNatClampNeg), .int x2]) (rest := []) (M1 := M) (rv := some (.int (kx_bi v5))) kxo_0 rfl klk_X4_245 kse_X4_tellsVisitors rfl rfl rfl rfl (Nat.le_of_ble_eq_true rfl) (Nat.le_of_ble_eq_true rfl) (c_X4_tellsVisitors (d := d + 2) (26 + 2 * (x1).toNatClampNeg) ((kxs_in hi4)) x2 M v5 hv6) ?_
    show kx_Rn _ _ _ (75, [some (.ref 0), some (.int x1), some (.int x2), some (.int x3), some (.int x4), none, some (.int v1), none, none, none, none, none], [.int (kx_bi v5)], M) _ _
    refine kx_q_zne rfl (fun hc7 => ?_) (fun hc7 => ?_)
    · rw [if_pos hc7] at h
      refine kx_wk [true, true, true, true, true, false, true, false, false, false, false, false] ?_
      exact t_X4_register_82 x1 x2 x3 x4 v1 M h
    · rw [if_neg hc7] at h
      refine kx_go (pc' := 82) (L' := [some (.ref 0), some (.int x1), some (.int x2), some (.int x3), some (.int x4), none, some (.int (-5 : Int32)), none, none, none, none, none]) (st' := []) 2 rfl ?_
      refine kx_wk [true, true, true, true, true, false, true, false, false, false, false, false] ?_
      exact t_X4_register_82 x1 x2 x3 x4 (-5 : Int32) M h
set_option maxRecDepth 100000 in
set_option maxHeartbeats 4000000 in
theorem t_X4_register_36 {d : Nat} {r : Int32} {M' : kx_M} (x1 : Int32) (x2 : Int32) (x3 : Int32) (x4 : Int32) (s0 : Bool) (M : kx_M) (h : f_X4_register_36 x1 x2 x3 x4 s0 M = some (r, M')) : kx_Rn EX T_X4_register (d + 3) (36, [some (.ref 0), some (.int x1), some (.int x2), some (.int x3), some (.int x4), none, none, none, none, none, none, none], [.int (kx_bi s0)], M) (some (.int r)) M' := by
  unfold f_X4_register_36 at h
  refine kx_go (pc' := 44) (L' := [some (.ref 0), some (.int x1), some (.int x2), some (.int x3), some (.int x4), some (.int (kx_bi s0)), none, none, none, none, none, none]) (st' := [.int (kx_bi s0), .int (kx_bi s0), .int x1, .ref 0]) 5 rfl ?_
  refine kx_q_zeq rfl (fun hc1 => ?_) (fun hc1 => ?_)
  · rw [if_neg hc1] at h
    refine kx_go (pc' := 54) (L' := [some (.ref 0), some (.int x1), some (.int x2), some (.int x3), some (.int x4), some (.int (kx_bi s0)), none, none, none, none, none, none]) (st' := [.int (0 : Int32), .int (kx_bi s0), .int x1, .ref 0]) 1 rfl ?_
    refine kx_wk [true, true, true, true, true, false, false, false, false, false, false, false] ?_
    exact t_X4_register_54 x1 x2 x3 x4 (0 : Int32) s0 x1 M h
  · rw [if_pos hc1] at h
    refine kx_go (pc' := 50) (L' := [some (.ref 0), some (.int x1), some (.int x2), some (.int x3), some (.int x4), some (.int (kx_bi s0)), none, none, none, none, none, none]) (st' := [.int ((2 : Int32) * x2), .int (kx_bi s0), .int x1, .ref 0]) 3 rfl ?_
    refine kx_r_goto rfl ?_
    refine kx_wk [true, true, true, true, true, false, false, false, false, false, false, false] ?_
    exact t_X4_register_54 x1 x2 x3 x4 ((2 : Int32) * x2) s0 x1 M h
set_option maxRecDepth 100000 in
set_option maxHeartbeats 4000000 in
theorem t_X4_register {d : Nat} {r : Int32} {M' : kx_M} (a0 : Int32) (a1 : Int32) (a2 : Int32) (a3 : Int32) (M : kx_M) (h : f_X4_register a0 a1 a2 a3 M = some (r, M')) : kx_Rn EX T_X4_register (d + 3) (0, [some (.ref 0), some (.int a0), some (.int a1), some (.int a2), some (.int a3), none, none, none, none, none, none, none], [], M) (some (.int r)) M' := by
  unfold f_X4_register at h
  refine kx_go (pc' := 4) (L' := [some (.ref 0), some (.int a0), some (.int a1), some (.int a2), some (.int a3), none, none, none, none, none, none, none]) (st' := [.int (20 : Int32), .int (0 : Int32), .int a1]) 3 rfl ?_
  refine kx_r_callS (as := [.int a1, .int (0 : Int32), .int (20 : Int32)]) (rest := []) (M1 := M) (rv := some (.int (kx_bi (f_X4_isWithin a1 (0 : Int32) (20 : Int32))))) rfl klk_X4_55 kst_X4_isWithin rfl rfl (Nat.le_of_ble_eq_true rfl) (Nat.le_of_ble_eq_true rfl) (c_X4_isWithin (d := d + 2) a1 (0 : Int32) (20 : Int32) M (f_X4_isWithin a1 (0 : Int32) (20 : Int32)) rfl) ?_
  show kx_Rn _ _ _ (7, [some (.ref 0), some (.int a0), some (.int a1), some (.int a2), some (.int a3), none, none, none, none, none, none, none], [.int (kx_bi (f_X4_isWithin a1 (0 : Int32) (20 : Int32)))], M) _ _
  refine kx_q_zeq rfl (fun hc1 => ?_) (fun hc1 => ?_)
  · rw [if_neg hc1] at h
    refine kx_go (pc' := 36) (L' := [some (.ref 0), some (.int a0), some (.int a1), some (.int a2), some (.int a3), none, none, none, none, none, none, none]) (st' := [.int (0 : Int32)]) 1 rfl ?_
    refine kx_wk [true, true, true, true, true, false, false, false, false, false, false, false] ?_
    exact t_X4_register_36 a0 a1 a2 a3 false M h
  · rw [if_pos hc1] at h
    refine kx_go (pc' := 11) (L' := [some (.ref 0), some (.int a0), some (.int a1), some (.int a2), some (.int a3), none, none, none, none, none, none, none]) (st' := [.ref 0]) 1 rfl ?_
    refine kx_q_getR (k := 0) (j := 1) kxo_0 rfl kfl_X4_10 rfl ?_
    refine kx_go (pc' := 15) (L' := [some (.ref 0), some (.int a0), some (.int a1), some (.int a2), some (.int a3), none, none, none, none, none, none, none]) (st' := [.int a2, .ref 1]) 1 rfl ?_
    refine kx_q_callV (as := [.int a2]) (rest := []) (M1 := M) (rv := some (.int (kx_bi (f_X0_hasCell 1 M a2)))) kxl_1.1 rfl klk_X4_149 kse_X0_hasCell rfl rfl rfl rfl (Nat.le_of_ble_eq_true rfl) (Nat.le_of_ble_eq_true rfl) (c_X0_hasCell (d := d + 1) 1 (kxl_1) a2 M (f_X0_hasCell 1 M a2) rfl) ?_
    show kx_Rn _ _ _ (18, [some (.ref 0), some (.int a0), some (.int a1), some (.int a2), some (.int a3), none, none, none, none, none, none, none], [.int (kx_bi (f_X0_hasCell 1 M a2))], M) _ _
    refine kx_q_zeq rfl (fun hc2 => ?_) (fun hc2 => ?_)
    · rw [if_neg hc2] at h
      refine kx_go (pc' := 36) (L' := [some (.ref 0), some (.int a0), some (.int a1), some (.int a2), some (.int a3), none, none, none, none, none, none, none]) (st' := [.int (0 : Int32)]) 1 rfl ?_
      refine kx_wk [true, true, true, true, true, false, false, false, false, false, false, false] ?_
      exact t_X4_register_36 a0 a1 a2 a3 false M h
    · rw [if_pos hc2] at h
      refine kx_go (pc' := 25) (L' := [some (.ref 0), some (.int a0), some (.int a1), some (.int a2), some (.int a3), none, none, none, none, none, none, none]) (st' := [.int (2 : Int32), .int (0 : Int32), .int a3]) 3 rfl ?_
      refine kx_r_callS (as := [.int a3, .int (0 : Int32), .int (2 : Int32)]) (rest := []) (M1 := M) (rv := some (.int (kx_bi (f_X4_isWithin a3 (0 : Int32) (2 : Int32))))) rfl klk_X4_55 kst_X4_isWithin rfl rfl (Nat.le_of_ble_eq_true rfl) (Nat.le_of_ble_eq_true rfl) (c_X4_isWithin (d := d + 2) a3 (0 : Int32) (2 : Int32) M (f_X4_isWithin a3 (0 : Int32) (2 : Int32)) rfl) ?_
      show kx_Rn _ _ _ (28, [some (.ref 0), some (.int a0), some (.int a1), some (.int a2), some (.int a3), none, none, none, none, none, none, none], [.int (kx_bi (f_X4_isWithin a3 (0 : Int32) (2 : Int32)))], M) _ _
      refine kx_q_zeq rfl (fun hc3 => ?_) (fun hc3 => ?_)
      · rw [if_neg hc3] at h
        refine kx_go (pc' := 36) (L' := [some (.ref 0), some (.int a0), some (.int a1), some (.int a2), some (.int a3), none, none, none, none, none, none, none]) (st' := [.int (0 : Int32)]) 1 rfl ?_
        refine kx_wk [true, true, true, true, true, false, false, false, false, false, false, false] ?_
        exact t_X4_register_36 a0 a1 a2 a3 false M h
      · rw [if_pos hc3] at h
        refine kx_go (pc' := 32) (L' := [some (.ref 0), some (.int a0), some (.int a1), some (.int a2), some (.int a3), none, none, none, none, none, none, none]) (st' := [.int (1 : Int32)]) 1 rfl ?_
        refine kx_r_goto rfl ?_
        refine kx_wk [true, true, true, true, true, false, false, false, false, false, false, false] ?_
        exact t_X4_register_36 a0 a1 a2 a3 true M h
theorem c_X4_register {d : Nat} (a0 : Int32) (a1 : Int32) (a2 : Int32) (a3 : Int32) (M : kx_M) (r : Int32) (M' : kx_M) (h : f_X4_register a0 a1 a2 a3 M = some (r, M')) : kx_Call EX (d + 3) T_X4_register [.ref 0, .int a0, .int a1, .int a2, .int a3] M (some (.int r)) M' := kx_entry kok_X4_register (Nat.le_of_ble_eq_true rfl) rfl (t_X4_register (d := d) a0 a1 a2 a3 M h)
set_option maxRecDepth 100000 in
set_option maxHeartbeats 4000000 in
theorem t_X4_isShownAsTold_3 {d : Nat} {r : Bool} (q : Nat) (hq : kx_shelf EX q) (M : kx_M) : ∀ (n : Nat) (x2 : Int32) (x3 : Int32) (x4 : Int32) (x5 : Int32) (x6 : Int32), f_X4_isShownAsTold_3 q M n x2 x3 x4 x5 x6 = some r → kx_Rn EX T_X4_isShownAsTold (d + 3) (3, [some (.ref 0), some (.ref q), some (.int x2), some (.int x3), some (.int x4), some (.int x5), some (.int x6), none], [], M) (some (.int (kx_bi r))) M := by
  intro n
  induction n with
  | zero =>
    intro x2 x3 x4 x5 x6 h
    cases (show (none : Option Bool) = some _ from h)
  | succ n ih =>
    intro x2 x3 x4 x5 x6 h
    rw [f_X4_isShownAsTold_3.eq_2] at h
    refine kx_go (pc' := 6) (L' := [some (.ref 0), some (.ref q), some (.int x2), some (.int x3), some (.int x4), some (.int x5), some (.int x6), none]) (st' := [.int x2, .int x6]) 2 rfl ?_
    refine kx_r_icmp_ge rfl (fun hc1 => ?_) (fun hc1 => ?_)
    · rw [if_pos hc1] at h
      refine kx_go (pc' := 60) (L' := [some (.ref 0), some (.ref q), some (.int x2), some (.int x3), some (.int x4), some (.int x5), some (.int x6), none]) (st' := [.int (1 : Int32)]) 1 rfl ?_
      cases h
      exact kx_r_zret rfl rfl (Or.inr rfl)
    · rw [if_neg hc1] at h
      refine kx_go (pc' := 10) (L' := [some (.ref 0), some (.ref q), some (.int x2), some (.int x3), some (.int x4), some (.int x5), some (.int x6), none]) (st' := [.ref q]) 1 rfl ?_
      refine kx_q_getR (k := 0) (j := (q + 1)) hq.1 rfl kfl_X4_87 rfl ?_
      refine kx_go (pc' := 17) (L' := [some (.ref 0), some (.ref q), some (.int x2), some (.int x3), some (.int x4), some (.int x5), some (.int x6), none]) (st' := [.int ((2 : Int32) * x6), .ref (q + 1)]) 3 rfl ?_
      obtain ⟨hi2, h⟩ := kx_ck_some h
      refine kx_q_lald (hq.2) rfl hi2 ?_
      refine kx_go (pc' := 22) (L' := [some (.ref 0), some (.ref q), some (.int x2), some (.int x3), some (.int x4), some (.int x5), some (.int x6), some (.int ((M.2 (q + 1) (((2 : Int32) * x6)).toNatClampNeg)).toInt32)]) (st' := [.ref 0]) 3 rfl ?_
      refine kx_q_getR (k := 0) (j := 1) kxo_0 rfl kfl_X4_10 rfl ?_
      refine kx_go (pc' := 32) (L' := [some (.ref 0), some (.ref q), some (.int x2), some (.int x3), some (.int x4), some (.int x5), some (.int x6), some (.int ((M.2 (q + 1) (((2 : Int32) * x6)).toNatClampNeg)).toInt32)]) (st' := [.int ((M.2 (q + 1) (((2 : Int32) * x6)).toNatClampNeg)).toInt32, .int x5, .int x4, .int x3, .ref 1]) 4 rfl ?_
      obtain ⟨v3, hv4, h⟩ := kx_bn_some h
      refine kx_q_callV (as := [.int x3, .int x4, .int x5, .int ((M.2 (q + 1) (((2 : Int32) * x6)).toNatClampNeg)).toInt32]) (rest := []) (M1 := M) (rv := some (.int v3)) kxl_1.1 rfl klk_X4_306 kse_X0_shownIf rfl rfl rfl rfl (Nat.le_of_ble_eq_true rfl) (Nat.le_of_ble_eq_true rfl) (c_X0_shownIf (d := d + 0) 1 (kxl_1) x3 x4 x5 ((M.2 (q + 1) (((2 : Int32) * x6)).toNatClampNeg)).toInt32 M v3 hv4) ?_
      show kx_Rn _ _ _ (35, [some (.ref 0), some (.ref q), some (.int x2), some (.int x3), some (.int x4), some (.int x5), some (.int x6), some (.int ((M.2 (q + 1) (((2 : Int32) * x6)).toNatClampNeg)).toInt32)], [.int v3], M) _ _
      refine kx_go (pc' := 37) (L' := [some (.ref 0), some (.ref q), some (.int x2), some (.int x3), some (.int x4), some (.int x5), some (.int x6), some (.int ((M.2 (q + 1) (((2 : Int32) * x6)).toNatClampNeg)).toInt32)]) (st' := [.ref q, .long (v3).toInt64]) 2 rfl ?_
      refine kx_q_getR (k := 0) (j := (q + 1)) hq.1 rfl kfl_X4_87 rfl ?_
      refine kx_go (pc' := 46) (L' := [some (.ref 0), some (.ref q), some (.int x2), some (.int x3), some (.int x4), some (.int x5), some (.int x6), some (.int ((M.2 (q + 1) (((2 : Int32) * x6)).toNatClampNeg)).toInt32)]) (st' := [.int (((2 : Int32) * x6) + (1 : Int32)), .ref (q + 1), .long (v3).toInt64]) 5 rfl ?_
      obtain ⟨hi5, h⟩ := kx_ck_some h
      refine kx_q_lald (hq.2) rfl hi5 ?_
      refine kx_go (pc' := 48) (L' := [some (.ref 0), some (.ref q), some (.int x2), some (.int x3), some (.int x4), some (.int x5), some (.int x6), some (.int ((M.2 (q + 1) (((2 : Int32) * x6)).toNatClampNeg)).toInt32)]) (st' := [.int (lg_cmp (v3).toInt64 (M.2 (q + 1) ((((2 : Int32) * x6) + (1 : Int32))).toNatClampNeg))]) 1 rfl ?_
      refine kx_r_if_eq rfl (fun hc6 => ?_) (fun hc6 => ?_)
      · rw [if_pos hc6] at h
        refine kx_go (pc' := 56) (L' := [some (.ref 0), some (.ref q), some (.int x2), some (.int x3), some (.int x4), some (.int x5), some (.int (x6 + (1))), some (.int ((M.2 (q + 1) (((2 : Int32) * x6)).toNatClampNeg)).toInt32)]) (st' := []) 1 rfl ?_
        refine kx_r_goto rfl ?_
        refine kx_wk [true, true, true, true, true, true, true, false] ?_
        exact ih x2 x3 x4 x5 (x6 + (1)) h
      · rw [if_neg hc6] at h
        refine kx_go (pc' := 52) (L' := [some (.ref 0), some (.ref q), some (.int x2), some (.int x3), some (.int x4), some (.int x5), some (.int x6), some (.int ((M.2 (q + 1) (((2 : Int32) * x6)).toNatClampNeg)).toInt32)]) (st' := [.int (0 : Int32)]) 1 rfl ?_
        cases h
        exact kx_r_zret rfl rfl (Or.inl rfl)
set_option maxRecDepth 100000 in
set_option maxHeartbeats 4000000 in
theorem t_X4_isShownAsTold {d : Nat} {r : Bool} (q : Nat) (hq : kx_shelf EX q) (M : kx_M) (a1 : Int32) (a2 : Int32) (a3 : Int32) (a4 : Int32) (h : f_X4_isShownAsTold q M a1 a2 a3 a4 = some r) : kx_Rn EX T_X4_isShownAsTold (d + 3) (0, [some (.ref 0), some (.ref q), some (.int a1), some (.int a2), some (.int a3), some (.int a4), none, none], [], M) (some (.int (kx_bi r))) M := by
  unfold f_X4_isShownAsTold at h
  refine kx_go (pc' := 3) (L' := [some (.ref 0), some (.ref q), some (.int a1), some (.int a2), some (.int a3), some (.int a4), some (.int (0 : Int32)), none]) (st' := []) 2 rfl ?_
  refine kx_wk [true, true, true, true, true, true, true, false] ?_
  exact t_X4_isShownAsTold_3 q hq M kx_fuel a1 a2 a3 a4 (0 : Int32) h
theorem c_X4_isShownAsTold {d : Nat} (q : Nat) (hq : kx_shelf EX q) (a1 : Int32) (a2 : Int32) (a3 : Int32) (a4 : Int32) (M : kx_M) (r : Bool) (h : f_X4_isShownAsTold q M a1 a2 a3 a4 = some r) : kx_Call EX (d + 3) T_X4_isShownAsTold [.ref 0, .ref q, .int a1, .int a2, .int a3, .int a4] M (some (.int (kx_bi r))) M := kx_entry kok_X4_isShownAsTold (Nat.le_of_ble_eq_true rfl) rfl (t_X4_isShownAsTold (d := d) q hq M a1 a2 a3 a4 h)
set_option maxRecDepth 100000 in
set_option maxHeartbeats 4000000 in
theorem t_X4_kindsThatFit_6 {d : Nat} {r : Int32} (q : Nat) (hq : kx_shelf EX q) (M : kx_M) : ∀ (n : Nat) (x2 : Int32) (x3 : Int32) (x4 : Int32) (x5 : Int32), f_X4_kindsThatFit_6 q M n x2 x3 x4 x5 = some r → kx_Rn EX T_X4_kindsThatFit (d + 4) (6, [some (.ref 0), some (.ref q), some (.int x2), some (.int x3), some (.int x4), some (.int x5)], [], M) (some (.int r)) M := by
  intro n
  induction n with
  | zero =>
    intro x2 x3 x4 x5 h
    cases (show (none : Option Int32) = some _ from h)
  | succ n ih =>
    intro x2 x3 x4 x5 h
    rw [f_X4_kindsThatFit_6.eq_2] at h
    refine kx_go (pc' := 10) (L' := [some (.ref 0), some (.ref q), some (.int x2), some (.int x3), some (.int x4), some (.int x5)]) (st' := [.int (6 : Int32), .int x5]) 2 rfl ?_
    refine kx_r_icmp_ge rfl (fun hc1 => ?_) (fun hc1 => ?_)
    · rw [if_pos hc1] at h
      refine kx_go (pc' := 51) (L' := [some (.ref 0), some (.ref q), some (.int x2), some (.int x3), some (.int x4), some (.int x5)]) (st' := [.int x4]) 1 rfl ?_
      cases h
      exact kx_r_iret rfl rfl
    · rw [if_neg hc1] at h
      refine kx_go (pc' := 20) (L' := [some (.ref 0), some (.ref q), some (.int x2), some (.int x3), some (.int x4), some (.int x5)]) (st' := [.ref 0, .int x5, .int x3, .int x2, .ref q, .ref 0]) 6 rfl ?_
      refine kx_q_getR (k := 0) (j := 1) kxo_0 rfl kfl_X4_10 rfl ?_
      refine kx_q_getR (k := 5) (j := 7) kxl_1.1 rfl kfl_X4_119 rfl ?_
      refine kx_go (pc' := 27) (L' := [some (.ref 0), some (.ref q), some (.int x2), some (.int x3), some (.int x4), some (.int x5)]) (st' := [.int x3, .ref 7, .int x5, .int x3, .int x2, .ref q, .ref 0]) 1 rfl ?_
      obtain ⟨hi2, h⟩ := kx_ck_some h
      refine kx_q_iald (kxl_1.2.2.2.2.2.2.1) rfl hi2 ?_
      obtain ⟨v3, hv4, h⟩ := kx_bn_some h
      refine kx_q_callV (as := [.ref q, .int x2, .int x3, .int x5, .int (M.1 7 (x3).toNatClampNeg)]) (rest := []) (M1 := M) (rv := some (.int (kx_bi v3))) kxo_0 rfl klk_X4_302 kse_X4_isShownAsTold rfl rfl rfl rfl (Nat.le_of_ble_eq_true rfl) (Nat.le_of_ble_eq_true rfl) (c_X4_isShownAsTold (d := d + 0) q (hq) x2 x3 x5 (M.1 7 (x3).toNatClampNeg) M v3 hv4) ?_
      show kx_Rn _ _ _ (31, [some (.ref 0), some (.ref q), some (.int x2), some (.int x3), some (.int x4), some (.int x5)], [.int (kx_bi v3)], M) _ _
      refine kx_q_zeq rfl (fun hc5 => ?_) (fun hc5 => ?_)
      · rw [if_neg hc5] at h
        refine kx_go (pc' := 46) (L' := [some (.ref 0), some (.ref q), some (.int x2), some (.int x3), some (.int x4), some (.int (x5 + (1)))]) (st' := []) 1 rfl ?_
        refine kx_r_goto rfl ?_
        refine kx_wk [true, true, true, true, true, true] ?_
        exact ih x2 x3 x4 (x5 + (1)) h
      · rw [if_pos hc5] at h
        refine kx_go (pc' := 46) (L' := [some (.ref 0), some (.ref q), some (.int x2), some (.int x3), some (.int (x4 ||| ((1 : Int32) <<< (x5 &&& 31)))), some (.int (x5 + (1)))]) (st' := []) 7 rfl ?_
        refine kx_r_goto rfl ?_
        refine kx_wk [true, true, true, true, true, true] ?_
        exact ih x2 x3 (x4 ||| ((1 : Int32) <<< (x5 &&& 31))) (x5 + (1)) h
set_option maxRecDepth 100000 in
set_option maxHeartbeats 4000000 in
theorem t_X4_kindsThatFit {d : Nat} {r : Int32} (q : Nat) (hq : kx_shelf EX q) (M : kx_M) (a1 : Int32) (a2 : Int32) (h : f_X4_kindsThatFit q M a1 a2 = some r) : kx_Rn EX T_X4_kindsThatFit (d + 4) (0, [some (.ref 0), some (.ref q), some (.int a1), some (.int a2), none, none], [], M) (some (.int r)) M := by
  unfold f_X4_kindsThatFit at h
  refine kx_go (pc' := 6) (L' := [some (.ref 0), some (.ref q), some (.int a1), some (.int a2), some (.int (0 : Int32)), some (.int (0 : Int32))]) (st' := []) 4 rfl ?_
  refine kx_wk [true, true, true, true, true, true] ?_
  exact t_X4_kindsThatFit_6 q hq M kx_fuel a1 a2 (0 : Int32) (0 : Int32) h
theorem c_X4_kindsThatFit {d : Nat} (q : Nat) (hq : kx_shelf EX q) (a1 : Int32) (a2 : Int32) (M : kx_M) (r : Int32) (h : f_X4_kindsThatFit q M a1 a2 = some r) : kx_Call EX (d + 4) T_X4_kindsThatFit [.ref 0, .ref q, .int a1, .int a2] M (some (.int r)) M := kx_entry kok_X4_kindsThatFit (Nat.le_of_ble_eq_true rfl) rfl (t_X4_kindsThatFit (d := d) q hq M a1 a2 h)
set_option maxRecDepth 100000 in
set_option maxHeartbeats 4000000 in
theorem t_X4_tellsVeils_2 {d : Nat} {r : Bool} (q : Nat) (hq : kx_shelf EX q) (M : kx_M) : ∀ (n : Nat) (x2 : Int32) (x3 : Int32), f_X4_tellsVeils_2 q M n x2 x3 = some r → kx_Rn EX T_X4_tellsVeils (d + 0) (2, [none, some (.ref q), some (.int x2), some (.int x3), none, none], [], M) (some (.int (kx_bi r))) M := by
  intro n
  induction n with
  | zero =>
    intro x2 x3 h
    cases (show (none : Option Bool) = some _ from h)
  | succ n ih =>
    intro x2 x3 h
    rw [f_X4_tellsVeils_2.eq_2] at h
    refine kx_go (pc' := 4) (L' := [none, some (.ref q), some (.int x2), some (.int x3), none, none]) (st' := [.int x2, .int x3]) 2 rfl ?_
    refine kx_r_icmp_ge rfl (fun hc1 => ?_) (fun hc1 => ?_)
    · rw [if_pos hc1] at h
      refine kx_go (pc' := 42) (L' := [none, some (.ref q), some (.int x2), some (.int x3), none, none]) (st' := [.int (1 : Int32)]) 1 rfl ?_
      cases h
      exact kx_r_zret rfl rfl (Or.inr rfl)
    · rw [if_neg hc1] at h
      refine kx_go (pc' := 8) (L' := [none, some (.ref q), some (.int x2), some (.int x3), none, none]) (st' := [.ref q]) 1 rfl ?_
      refine kx_q_getR (k := 0) (j := (q + 1)) hq.1 rfl kfl_X4_87 rfl ?_
      refine kx_go (pc' := 14) (L' := [none, some (.ref q), some (.int x2), some (.int x3), none, none]) (st' := [.int ((2 : Int32) * x3), .ref (q + 1)]) 3 rfl ?_
      obtain ⟨hi2, h⟩ := kx_ck_some h
      refine kx_q_lald (hq.2) rfl hi2 ?_
      refine kx_go (pc' := 21) (L' := [none, some (.ref q), some (.int x2), some (.int x3), some (.long (M.2 (q + 1) (((2 : Int32) * x3)).toNatClampNeg)), none]) (st' := [.int (lg_cmp (M.2 (q + 1) (((2 : Int32) * x3)).toNatClampNeg) (0 : Int64))]) 4 rfl ?_
      refine kx_r_if_lt rfl (fun hc3 => ?_) (fun hc3 => ?_)
      · rw [if_pos hc3] at h
        refine kx_go (pc' := 34) (L' := [none, some (.ref q), some (.int x2), some (.int x3), some (.long (M.2 (q + 1) (((2 : Int32) * x3)).toNatClampNeg)), none]) (st' := [.int (0 : Int32)]) 1 rfl ?_
        cases h
        exact kx_r_zret rfl rfl (Or.inl rfl)
      · rw [if_neg hc3] at h
        refine kx_go (pc' := 26) (L' := [none, some (.ref q), some (.int x2), some (.int x3), some (.long (M.2 (q + 1) (((2 : Int32) * x3)).toNatClampNeg)), none]) (st' := [.long (M.2 (q + 1) (((2 : Int32) * x3)).toNatClampNeg)]) 1 rfl ?_
        refine kx_q_ldc2 (v := 20) (show decode T_X4_tellsVeils.2.1 26 = .ok (.ldc2_w 300, 3) from by decide +kernel) (kx_tb 642 (by decide +kernel) (by decide +kernel)) ?_
        refine kx_go (pc' := 30) (L' := [none, some (.ref q), some (.int x2), some (.int x3), some (.long (M.2 (q + 1) (((2 : Int32) * x3)).toNatClampNeg)), none]) (st' := [.int (lg_cmp (M.2 (q + 1) (((2 : Int32) * x3)).toNatClampNeg) (20 : Int64))]) 1 rfl ?_
        refine kx_r_if_le rfl (fun hc4 => ?_) (fun hc4 => ?_)
        · rw [if_pos hc4] at h
          refine kx_go (pc' := 38) (L' := [none, some (.ref q), some (.int x2), some (.int (x3 + (1))), some (.long (M.2 (q + 1) (((2 : Int32) * x3)).toNatClampNeg)), none]) (st' := []) 1 rfl ?_
          refine kx_r_goto rfl ?_
          refine kx_wk [false, true, true, true, false, false] ?_
          exact ih x2 (x3 + (1)) h
        · rw [if_neg hc4] at h
          refine kx_go (pc' := 34) (L' := [none, some (.ref q), some (.int x2), some (.int x3), some (.long (M.2 (q + 1) (((2 : Int32) * x3)).toNatClampNeg)), none]) (st' := [.int (0 : Int32)]) 1 rfl ?_
          cases h
          exact kx_r_zret rfl rfl (Or.inl rfl)
set_option maxRecDepth 100000 in
set_option maxHeartbeats 4000000 in
theorem t_X4_tellsVeils {d : Nat} {r : Bool} (q : Nat) (hq : kx_shelf EX q) (M : kx_M) (a1 : Int32) (h : f_X4_tellsVeils q M a1 = some r) : kx_Rn EX T_X4_tellsVeils (d + 0) (0, [some (.ref 0), some (.ref q), some (.int a1), none, none, none], [], M) (some (.int (kx_bi r))) M := by
  unfold f_X4_tellsVeils at h
  refine kx_go (pc' := 2) (L' := [some (.ref 0), some (.ref q), some (.int a1), some (.int (0 : Int32)), none, none]) (st' := []) 2 rfl ?_
  refine kx_wk [false, true, true, true, false, false] ?_
  exact t_X4_tellsVeils_2 q hq M kx_fuel a1 (0 : Int32) h
theorem c_X4_tellsVeils {d : Nat} (q : Nat) (hq : kx_shelf EX q) (a1 : Int32) (M : kx_M) (r : Bool) (h : f_X4_tellsVeils q M a1 = some r) : kx_Call EX (d + 0) T_X4_tellsVeils [.ref 0, .ref q, .int a1] M (some (.int (kx_bi r))) M := kx_entry kok_X4_tellsVeils (Nat.le_of_ble_eq_true rfl) rfl (t_X4_tellsVeils (d := d) q hq M a1 h)
set_option maxRecDepth 100000 in
set_option maxHeartbeats 4000000 in
theorem t_X4_wantsThatFit_6 {d : Nat} {r : Int32} (q : Nat) (hq : kx_shelf EX q) (M : kx_M) : ∀ (n : Nat) (x2 : Int32) (x3 : Int32) (x4 : Int32) (x5 : Int32), f_X4_wantsThatFit_6 q M n x2 x3 x4 x5 = some r → kx_Rn EX T_X4_wantsThatFit (d + 4) (6, [some (.ref 0), some (.ref q), some (.int x2), some (.int x3), some (.int x4), some (.int x5)], [], M) (some (.int r)) M := by
  intro n
  induction n with
  | zero =>
    intro x2 x3 x4 x5 h
    cases (show (none : Option Int32) = some _ from h)
  | succ n ih =>
    intro x2 x3 x4 x5 h
    rw [f_X4_wantsThatFit_6.eq_2] at h
    refine kx_go (pc' := 10) (L' := [some (.ref 0), some (.ref q), some (.int x2), some (.int x3), some (.int x4), some (.int x5)]) (st' := [.int (20 : Int32), .int x5]) 2 rfl ?_
    refine kx_r_icmp_gt rfl (fun hc1 => ?_) (fun hc1 => ?_)
    · rw [if_pos hc1] at h
      refine kx_go (pc' := 51) (L' := [some (.ref 0), some (.ref q), some (.int x2), some (.int x3), some (.int x4), some (.int x5)]) (st' := [.int x4]) 1 rfl ?_
      cases h
      exact kx_r_iret rfl rfl
    · rw [if_neg hc1] at h
      refine kx_go (pc' := 18) (L' := [some (.ref 0), some (.ref q), some (.int x2), some (.int x3), some (.int x4), some (.int x5)]) (st' := [.ref 0, .int x3, .int x2, .ref q, .ref 0]) 5 rfl ?_
      refine kx_q_getR (k := 0) (j := 1) kxo_0 rfl kfl_X4_10 rfl ?_
      refine kx_q_getR (k := 3) (j := 5) kxl_1.1 rfl kfl_X4_113 rfl ?_
      refine kx_go (pc' := 25) (L' := [some (.ref 0), some (.ref q), some (.int x2), some (.int x3), some (.int x4), some (.int x5)]) (st' := [.int x3, .ref 5, .int x3, .int x2, .ref q, .ref 0]) 1 rfl ?_
      obtain ⟨hi2, h⟩ := kx_ck_some h
      refine kx_q_iald (kxl_1.2.2.2.2.1) rfl hi2 ?_
      refine kx_go (pc' := 28) (L' := [some (.ref 0), some (.ref q), some (.int x2), some (.int x3), some (.int x4), some (.int x5)]) (st' := [.int x5, .int (M.1 5 (x3).toNatClampNeg), .int x3, .int x2, .ref q, .ref 0]) 1 rfl ?_
      obtain ⟨v3, hv4, h⟩ := kx_bn_some h
      refine kx_q_callV (as := [.ref q, .int x2, .int x3, .int (M.1 5 (x3).toNatClampNeg), .int x5]) (rest := []) (M1 := M) (rv := some (.int (kx_bi v3))) kxo_0 rfl klk_X4_302 kse_X4_isShownAsTold rfl rfl rfl rfl (Nat.le_of_ble_eq_true rfl) (Nat.le_of_ble_eq_true rfl) (c_X4_isShownAsTold (d := d + 0) q (hq) x2 x3 (M.1 5 (x3).toNatClampNeg) x5 M v3 hv4) ?_
      show kx_Rn _ _ _ (31, [some (.ref 0), some (.ref q), some (.int x2), some (.int x3), some (.int x4), some (.int x5)], [.int (kx_bi v3)], M) _ _
      refine kx_q_zeq rfl (fun hc5 => ?_) (fun hc5 => ?_)
      · rw [if_neg hc5] at h
        refine kx_go (pc' := 46) (L' := [some (.ref 0), some (.ref q), some (.int x2), some (.int x3), some (.int x4), some (.int (x5 + (1)))]) (st' := []) 1 rfl ?_
        refine kx_r_goto rfl ?_
        refine kx_wk [true, true, true, true, true, true] ?_
        exact ih x2 x3 x4 (x5 + (1)) h
      · rw [if_pos hc5] at h
        refine kx_go (pc' := 46) (L' := [some (.ref 0), some (.ref q), some (.int x2), some (.int x3), some (.int (x4 ||| ((1 : Int32) <<< (x5 &&& 31)))), some (.int (x5 + (1)))]) (st' := []) 7 rfl ?_
        refine kx_r_goto rfl ?_
        refine kx_wk [true, true, true, true, true, true] ?_
        exact ih x2 x3 (x4 ||| ((1 : Int32) <<< (x5 &&& 31))) (x5 + (1)) h
set_option maxRecDepth 100000 in
set_option maxHeartbeats 4000000 in
theorem t_X4_wantsThatFit {d : Nat} {r : Int32} (q : Nat) (hq : kx_shelf EX q) (M : kx_M) (a1 : Int32) (a2 : Int32) (h : f_X4_wantsThatFit q M a1 a2 = some r) : kx_Rn EX T_X4_wantsThatFit (d + 4) (0, [some (.ref 0), some (.ref q), some (.int a1), some (.int a2), none, none], [], M) (some (.int r)) M := by
  unfold f_X4_wantsThatFit at h
  refine kx_go (pc' := 6) (L' := [some (.ref 0), some (.ref q), some (.int a1), some (.int a2), some (.int (0 : Int32)), some (.int (0 : Int32))]) (st' := []) 4 rfl ?_
  refine kx_wk [true, true, true, true, true, true] ?_
  exact t_X4_wantsThatFit_6 q hq M kx_fuel a1 a2 (0 : Int32) (0 : Int32) h
theorem c_X4_wantsThatFit {d : Nat} (q : Nat) (hq : kx_shelf EX q) (a1 : Int32) (a2 : Int32) (M : kx_M) (r : Int32) (h : f_X4_wantsThatFit q M a1 a2 = some r) : kx_Call EX (d + 4) T_X4_wantsThatFit [.ref 0, .ref q, .int a1, .int a2] M (some (.int r)) M := kx_entry kok_X4_wantsThatFit (Nat.le_of_ble_eq_true rfl) rfl (t_X4_wantsThatFit (d := d) q hq M a1 a2 h)
set_option maxRecDepth 100000 in
set_option maxHeartbeats 4000000 in
theorem t_X4_fits_80 {d : Nat} {r : Int32} {M' : kx_M} (x1 : Int32) (x2 : Int32) (x3 : Int32) (x4 : Int32) (x6 : Int32) (M : kx_M) (h : f_X4_fits_80 x1 x2 x3 x4 x6 M = some (r, M')) : kx_Rn EX T_X4_fits (d + 5) (80, [some (.ref 0), some (.int x1), some (.int x2), some (.int x3), some (.int x4), none, some (.int x6)], [], M) (some (.int r)) M' := by
  unfold f_X4_fits_80 at h
  refine kx_go (pc' := 82) (L' := [some (.ref 0), some (.int x1), some (.int x2), some (.int x3), some (.int x4), none, some (.int x6)]) (st' := [.int x6]) 1 rfl ?_
  refine kx_r_if_eq rfl (fun hc1 => ?_) (fun hc1 => ?_)
  · rw [if_pos hc1] at h
    refine kx_go (pc' := 94) (L' := [some (.ref 0), some (.int x1), some (.int x2), some (.int x3), some (.int x4), none, some (.int x6)]) (st' := [.int x4]) 1 rfl ?_
    refine kx_r_if_ne rfl (fun hc2 => ?_) (fun hc2 => ?_)
    · rw [if_neg hc2] at h
      refine kx_go (pc' := 114) (L' := [some (.ref 0), some (.int x1), some (.int x2), some (.int x3), some (.int x4), none, some (.int x6)]) (st' := [.ref 0, .ref 0]) 2 rfl ?_
      refine kx_q_getR (k := 3) (j := 25) kxo_0 rfl kfl_X4_24 rfl ?_
      refine kx_go (pc' := 118) (L' := [some (.ref 0), some (.int x1), some (.int x2), some (.int x3), some (.int x4), none, some (.int x6)]) (st' := [.int x1, .ref 25, .ref 0]) 1 rfl ?_
      obtain ⟨hi3, h⟩ := kx_ck_some h
      refine kx_q_aald rfl hi3 ?_
      refine kx_go (pc' := 121) (L' := [some (.ref 0), some (.int x1), some (.int x2), some (.int x3), some (.int x4), none, some (.int x6)]) (st' := [.int x3, .int x2, .ref (26 + 2 * (x1).toNatClampNeg), .ref 0]) 2 rfl ?_
      obtain ⟨v4, hv5, h⟩ := kx_bn_some h
      refine kx_q_callV (as := [.ref (26 + 2 * (x1).toNatClampNeg), .int x2, .int x3]) (rest := []) (M1 := M) (rv := some (.int v4)) kxo_0 rfl klk_X4_264 kse_X4_wantsThatFit rfl rfl rfl rfl (Nat.le_of_ble_eq_true rfl) (Nat.le_of_ble_eq_true rfl) (c_X4_wantsThatFit (d := d + 0) (26 + 2 * (x1).toNatClampNeg) ((kxs_in hi3)) x2 x3 M v4 hv5) ?_
      show kx_Rn _ _ _ (124, [some (.ref 0), some (.int x1), some (.int x2), some (.int x3), some (.int x4), none, some (.int x6)], [.int v4], M) _ _
      cases h
      exact kx_r_iret rfl rfl
    · rw [if_pos hc2] at h
      refine kx_go (pc' := 99) (L' := [some (.ref 0), some (.int x1), some (.int x2), some (.int x3), some (.int x4), none, some (.int x6)]) (st' := [.ref 0, .ref 0]) 2 rfl ?_
      refine kx_q_getR (k := 3) (j := 25) kxo_0 rfl kfl_X4_24 rfl ?_
      refine kx_go (pc' := 103) (L' := [some (.ref 0), some (.int x1), some (.int x2), some (.int x3), some (.int x4), none, some (.int x6)]) (st' := [.int x1, .ref 25, .ref 0]) 1 rfl ?_
      obtain ⟨hi6, h⟩ := kx_ck_some h
      refine kx_q_aald rfl hi6 ?_
      refine kx_go (pc' := 106) (L' := [some (.ref 0), some (.int x1), some (.int x2), some (.int x3), some (.int x4), none, some (.int x6)]) (st' := [.int x3, .int x2, .ref (26 + 2 * (x1).toNatClampNeg), .ref 0]) 2 rfl ?_
      obtain ⟨v7, hv8, h⟩ := kx_bn_some h
      refine kx_q_callV (as := [.ref (26 + 2 * (x1).toNatClampNeg), .int x2, .int x3]) (rest := []) (M1 := M) (rv := some (.int v7)) kxo_0 rfl klk_X4_260 kse_X4_kindsThatFit rfl rfl rfl rfl (Nat.le_of_ble_eq_true rfl) (Nat.le_of_ble_eq_true rfl) (c_X4_kindsThatFit (d := d + 0) (26 + 2 * (x1).toNatClampNeg) ((kxs_in hi6)) x2 x3 M v7 hv8) ?_
      show kx_Rn _ _ _ (109, [some (.ref 0), some (.int x1), some (.int x2), some (.int x3), some (.int x4), none, some (.int x6)], [.int v7], M) _ _
      refine kx_r_goto rfl ?_
      cases h
      exact kx_r_iret rfl rfl
  · rw [if_neg hc1] at h
    refine kx_go (pc' := 88) (L' := [some (.ref 0), some (.int x1), some (.int x2), some (.int x3), some (.int x4), none, some (.int x6)]) (st' := [.int x6, .ref 0]) 2 rfl ?_
    obtain ⟨v9, M11, hv10, h⟩ := kx_bd_some h
    refine kx_q_callV (as := [.int x6]) (rest := []) (M1 := M11) (rv := some (.int v9)) kxo_0 rfl klk_X4_59 kse_X4_refuse rfl rfl rfl rfl (Nat.le_of_ble_eq_true rfl) (Nat.le_of_ble_eq_true rfl) (c_X4_refuse (d := d + 3) x6 M v9 M11 hv10) ?_
    show kx_Rn _ _ _ (91, [some (.ref 0), some (.int x1), some (.int x2), some (.int x3), some (.int x4), none, some (.int x6)], [.int v9], M11) _ _
    cases h
    exact kx_r_iret rfl rfl
set_option maxRecDepth 100000 in
set_option maxHeartbeats 4000000 in
theorem t_X4_fits_52 {d : Nat} {r : Int32} {M' : kx_M} (x1 : Int32) (x2 : Int32) (x3 : Int32) (x4 : Int32) (s0 : Int32) (s1 : Bool) (s2 : Int32) (M : kx_M) (h : f_X4_fits_52 x1 x2 x3 x4 s0 s1 s2 M = some (r, M')) : kx_Rn EX T_X4_fits (d + 5) (52, [some (.ref 0), some (.int x1), some (.int x2), some (.int x3), some (.int x4), none, none], [.int s0, .int (kx_bi s1), .int s2, .ref 0], M) (some (.int r)) M' := by
  unfold f_X4_fits_52 at h
  obtain ⟨v1, hv2, h⟩ := kx_bn_some h
  refine kx_q_callV (as := [.int s2, .int (kx_bi s1), .int s0]) (rest := []) (M1 := M) (rv := some (.int v1)) kxo_0 rfl klk_X4_67 kse_X4_rowFault rfl rfl rfl rfl (Nat.le_of_ble_eq_true rfl) (Nat.le_of_ble_eq_true rfl) (c_X4_rowFault (d := d + 2) s2 s1 s0 M v1 hv2) ?_
  show kx_Rn _ _ _ (55, [some (.ref 0), some (.int x1), some (.int x2), some (.int x3), some (.int x4), none, none], [.int v1], M) _ _
  refine kx_go (pc' := 59) (L' := [some (.ref 0), some (.int x1), some (.int x2), some (.int x3), some (.int x4), none, some (.int v1)]) (st' := [.int v1]) 2 rfl ?_
  refine kx_r_if_ne rfl (fun hc3 => ?_) (fun hc3 => ?_)
  · rw [if_neg hc3] at h
    refine kx_wk [true, true, true, true, true, false, true] ?_
    exact t_X4_fits_80 x1 x2 x3 x4 v1 M h
  · rw [if_pos hc3] at h
    refine kx_go (pc' := 64) (L' := [some (.ref 0), some (.int x1), some (.int x2), some (.int x3), some (.int x4), none, some (.int v1)]) (st' := [.ref 0, .ref 0]) 2 rfl ?_
    refine kx_q_getR (k := 3) (j := 25) kxo_0 rfl kfl_X4_24 rfl ?_
    refine kx_go (pc' := 68) (L' := [some (.ref 0), some (.int x1), some (.int x2), some (.int x3), some (.int x4), none, some (.int v1)]) (st' := [.int x1, .ref 25, .ref 0]) 1 rfl ?_
    obtain ⟨hi4, h⟩ := kx_ck_some h
    refine kx_q_aald rfl hi4 ?_
    refine kx_go (pc' := 70) (L' := [some (.ref 0), some (.int x1), some (.int x2), some (.int x3), some (.int x4), none, some (.int v1)]) (st' := [.int x2, .ref (26 + 2 * (x1).toNatClampNeg), .ref 0]) 1 rfl ?_
    obtain ⟨v5, hv6, h⟩ := kx_bn_some h
    refine kx_q_callV (as := [.ref (26 + 2 * (x1).toNatClampNeg), .int x2]) (rest := []) (M1 := M) (rv := some (.int (kx_bi v5))) kxo_0 rfl klk_X4_257 kse_X4_tellsVeils rfl rfl rfl rfl (Nat.le_of_ble_eq_true rfl) (Nat.le_of_ble_eq_true rfl) (c_X4_tellsVeils (d := d + 4) (26 + 2 * (x1).toNatClampNeg) ((kxs_in hi4)) x2 M v5 hv6) ?_
    show kx_Rn _ _ _ (73, [some (.ref 0), some (.int x1), some (.int x2), some (.int x3), some (.int x4), none, some (.int v1)], [.int (kx_bi v5)], M) _ _
    refine kx_q_zne rfl (fun hc7 => ?_) (fun hc7 => ?_)
    · rw [if_pos hc7] at h
      refine kx_wk [true, true, true, true, true, false, true] ?_
      exact t_X4_fits_80 x1 x2 x3 x4 v1 M h
    · rw [if_neg hc7] at h
      refine kx_go (pc' := 80) (L' := [some (.ref 0), some (.int x1), some (.int x2), some (.int x3), some (.int x4), none, some (.int (-5 : Int32))]) (st' := []) 2 rfl ?_
      refine kx_wk [true, true, true, true, true, false, true] ?_
      exact t_X4_fits_80 x1 x2 x3 x4 (-5 : Int32) M h
set_option maxRecDepth 100000 in
set_option maxHeartbeats 4000000 in
theorem t_X4_fits_34 {d : Nat} {r : Int32} {M' : kx_M} (x1 : Int32) (x2 : Int32) (x3 : Int32) (x4 : Int32) (s0 : Bool) (M : kx_M) (h : f_X4_fits_34 x1 x2 x3 x4 s0 M = some (r, M')) : kx_Rn EX T_X4_fits (d + 5) (34, [some (.ref 0), some (.int x1), some (.int x2), some (.int x3), some (.int x4), none, none], [.int (kx_bi s0)], M) (some (.int r)) M' := by
  unfold f_X4_fits_34 at h
  refine kx_go (pc' := 42) (L' := [some (.ref 0), some (.int x1), some (.int x2), some (.int x3), some (.int x4), some (.int (kx_bi s0)), none]) (st' := [.int (kx_bi s0), .int (kx_bi s0), .int x1, .ref 0]) 5 rfl ?_
  refine kx_q_zeq rfl (fun hc1 => ?_) (fun hc1 => ?_)
  · rw [if_neg hc1] at h
    refine kx_go (pc' := 52) (L' := [some (.ref 0), some (.int x1), some (.int x2), some (.int x3), some (.int x4), some (.int (kx_bi s0)), none]) (st' := [.int (0 : Int32), .int (kx_bi s0), .int x1, .ref 0]) 1 rfl ?_
    refine kx_wk [true, true, true, true, true, false, false] ?_
    exact t_X4_fits_52 x1 x2 x3 x4 (0 : Int32) s0 x1 M h
  · rw [if_pos hc1] at h
    refine kx_go (pc' := 48) (L' := [some (.ref 0), some (.int x1), some (.int x2), some (.int x3), some (.int x4), some (.int (kx_bi s0)), none]) (st' := [.int ((2 : Int32) * x2), .int (kx_bi s0), .int x1, .ref 0]) 3 rfl ?_
    refine kx_r_goto rfl ?_
    refine kx_wk [true, true, true, true, true, false, false] ?_
    exact t_X4_fits_52 x1 x2 x3 x4 ((2 : Int32) * x2) s0 x1 M h
set_option maxRecDepth 100000 in
set_option maxHeartbeats 4000000 in
theorem t_X4_fits {d : Nat} {r : Int32} {M' : kx_M} (a0 : Int32) (a1 : Int32) (a2 : Int32) (a3 : Int32) (M : kx_M) (h : f_X4_fits a0 a1 a2 a3 M = some (r, M')) : kx_Rn EX T_X4_fits (d + 5) (0, [some (.ref 0), some (.int a0), some (.int a1), some (.int a2), some (.int a3), none, none], [], M) (some (.int r)) M' := by
  unfold f_X4_fits at h
  refine kx_go (pc' := 4) (L' := [some (.ref 0), some (.int a0), some (.int a1), some (.int a2), some (.int a3), none, none]) (st' := [.int (20 : Int32), .int (0 : Int32), .int a1]) 3 rfl ?_
  refine kx_r_callS (as := [.int a1, .int (0 : Int32), .int (20 : Int32)]) (rest := []) (M1 := M) (rv := some (.int (kx_bi (f_X4_isWithin a1 (0 : Int32) (20 : Int32))))) rfl klk_X4_55 kst_X4_isWithin rfl rfl (Nat.le_of_ble_eq_true rfl) (Nat.le_of_ble_eq_true rfl) (c_X4_isWithin (d := d + 4) a1 (0 : Int32) (20 : Int32) M (f_X4_isWithin a1 (0 : Int32) (20 : Int32)) rfl) ?_
  show kx_Rn _ _ _ (7, [some (.ref 0), some (.int a0), some (.int a1), some (.int a2), some (.int a3), none, none], [.int (kx_bi (f_X4_isWithin a1 (0 : Int32) (20 : Int32)))], M) _ _
  refine kx_q_zeq rfl (fun hc1 => ?_) (fun hc1 => ?_)
  · rw [if_neg hc1] at h
    refine kx_go (pc' := 34) (L' := [some (.ref 0), some (.int a0), some (.int a1), some (.int a2), some (.int a3), none, none]) (st' := [.int (0 : Int32)]) 1 rfl ?_
    refine kx_wk [true, true, true, true, true, false, false] ?_
    exact t_X4_fits_34 a0 a1 a2 a3 false M h
  · rw [if_pos hc1] at h
    refine kx_go (pc' := 11) (L' := [some (.ref 0), some (.int a0), some (.int a1), some (.int a2), some (.int a3), none, none]) (st' := [.ref 0]) 1 rfl ?_
    refine kx_q_getR (k := 0) (j := 1) kxo_0 rfl kfl_X4_10 rfl ?_
    refine kx_go (pc' := 15) (L' := [some (.ref 0), some (.int a0), some (.int a1), some (.int a2), some (.int a3), none, none]) (st' := [.int a2, .ref 1]) 1 rfl ?_
    refine kx_q_callV (as := [.int a2]) (rest := []) (M1 := M) (rv := some (.int (kx_bi (f_X0_hasVisitor 1 M a2)))) kxl_1.1 rfl klk_X4_104 kse_X0_hasVisitor rfl rfl rfl rfl (Nat.le_of_ble_eq_true rfl) (Nat.le_of_ble_eq_true rfl) (c_X0_hasVisitor (d := d + 3) 1 (kxl_1) a2 M (f_X0_hasVisitor 1 M a2) rfl) ?_
    show kx_Rn _ _ _ (18, [some (.ref 0), some (.int a0), some (.int a1), some (.int a2), some (.int a3), none, none], [.int (kx_bi (f_X0_hasVisitor 1 M a2))], M) _ _
    refine kx_q_zeq rfl (fun hc2 => ?_) (fun hc2 => ?_)
    · rw [if_neg hc2] at h
      refine kx_go (pc' := 34) (L' := [some (.ref 0), some (.int a0), some (.int a1), some (.int a2), some (.int a3), none, none]) (st' := [.int (0 : Int32)]) 1 rfl ?_
      refine kx_wk [true, true, true, true, true, false, false] ?_
      exact t_X4_fits_34 a0 a1 a2 a3 false M h
    · rw [if_pos hc2] at h
      refine kx_go (pc' := 23) (L' := [some (.ref 0), some (.int a0), some (.int a1), some (.int a2), some (.int a3), none, none]) (st' := [.int a3]) 1 rfl ?_
      refine kx_r_callS (as := [.int a3]) (rest := []) (M1 := M) (rv := some (.int (kx_bi (f_X4_isOneOfTwo a3)))) rfl klk_X4_152 kst_X4_isOneOfTwo rfl rfl (Nat.le_of_ble_eq_true rfl) (Nat.le_of_ble_eq_true rfl) (c_X4_isOneOfTwo (d := d + 4) a3 M (f_X4_isOneOfTwo a3) rfl) ?_
      show kx_Rn _ _ _ (26, [some (.ref 0), some (.int a0), some (.int a1), some (.int a2), some (.int a3), none, none], [.int (kx_bi (f_X4_isOneOfTwo a3))], M) _ _
      refine kx_q_zeq rfl (fun hc3 => ?_) (fun hc3 => ?_)
      · rw [if_neg hc3] at h
        refine kx_go (pc' := 34) (L' := [some (.ref 0), some (.int a0), some (.int a1), some (.int a2), some (.int a3), none, none]) (st' := [.int (0 : Int32)]) 1 rfl ?_
        refine kx_wk [true, true, true, true, true, false, false] ?_
        exact t_X4_fits_34 a0 a1 a2 a3 false M h
      · rw [if_pos hc3] at h
        refine kx_go (pc' := 30) (L' := [some (.ref 0), some (.int a0), some (.int a1), some (.int a2), some (.int a3), none, none]) (st' := [.int (1 : Int32)]) 1 rfl ?_
        refine kx_r_goto rfl ?_
        refine kx_wk [true, true, true, true, true, false, false] ?_
        exact t_X4_fits_34 a0 a1 a2 a3 true M h
theorem c_X4_fits {d : Nat} (a0 : Int32) (a1 : Int32) (a2 : Int32) (a3 : Int32) (M : kx_M) (r : Int32) (M' : kx_M) (h : f_X4_fits a0 a1 a2 a3 M = some (r, M')) : kx_Call EX (d + 5) T_X4_fits [.ref 0, .int a0, .int a1, .int a2, .int a3] M (some (.int r)) M' := kx_entry kok_X4_fits (Nat.le_of_ble_eq_true rfl) rfl (t_X4_fits (d := d) a0 a1 a2 a3 M h)
set_option maxRecDepth 100000 in
set_option maxHeartbeats 4000000 in
theorem t_X4_together_4 {d : Nat} {r : Int32} (M : kx_M) : ∀ (n : Nat) (x1 : Int32) (x2 : Int32), f_X4_together_4 M n x1 x2 = some r → kx_Rn EX T_X4_together (d + 2) (4, [some (.ref 0), some (.int x1), some (.int x2)], [], M) (some (.int r)) M := by
  intro n
  induction n with
  | zero =>
    intro x1 x2 h
    cases (show (none : Option Int32) = some _ from h)
  | succ n ih =>
    intro x1 x2 h
    rw [f_X4_together_4.eq_2] at h
    refine kx_go (pc' := 6) (L' := [some (.ref 0), some (.int x1), some (.int x2)]) (st' := [.ref 0, .int x2]) 2 rfl ?_
    refine kx_q_getR (k := 0) (j := 1) kxo_0 rfl kfl_X4_10 rfl ?_
    refine kx_q_getI (k := 7) kxl_1.1 rfl kfl_X4_129 rfl ?_
    refine kx_r_icmp_ge rfl (fun hc1 => ?_) (fun hc1 => ?_)
    · rw [if_pos hc1] at h
      refine kx_go (pc' := 47) (L' := [some (.ref 0), some (.int x1), some (.int x2)]) (st' := [.ref 0, .int x1]) 2 rfl ?_
      refine kx_q_getR (k := 0) (j := 1) kxo_0 rfl kfl_X4_10 rfl ?_
      refine kx_q_getI (k := 11) kxl_1.1 rfl kfl_X4_146 rfl ?_
      refine kx_r_icmp_ge rfl (fun hc2 => ?_) (fun hc2 => ?_)
      · rw [if_pos hc2] at h
        refine kx_go (pc' := 63) (L' := [some (.ref 0), some (.int x1), some (.int x2)]) (st' := [.int (-1 : Int32)]) 1 rfl ?_
        cases h
        exact kx_r_iret rfl rfl
      · rw [if_neg hc2] at h
        refine kx_go (pc' := 59) (L' := [some (.ref 0), some (.int x1), some (.int x2)]) (st' := [.int (x1 + (1 : Int32))]) 3 rfl ?_
        refine kx_r_goto rfl ?_
        cases h
        exact kx_r_iret rfl rfl
    · rw [if_neg hc1] at h
      refine kx_go (pc' := 17) (L' := [some (.ref 0), some (.int x1), some (.int x2)]) (st' := [.ref 0, .int x1]) 2 rfl ?_
      refine kx_q_getR (k := 0) (j := 1) kxo_0 rfl kfl_X4_10 rfl ?_
      refine kx_q_getI (k := 11) kxl_1.1 rfl kfl_X4_146 rfl ?_
      refine kx_go (pc' := 24) (L' := [some (.ref 0), some (.int x1), some (.int x2)]) (st' := [.ref 0, .int (M.1 1 11), .int x1]) 1 rfl ?_
      refine kx_q_getR (k := 0) (j := 1) kxo_0 rfl kfl_X4_10 rfl ?_
      refine kx_go (pc' := 28) (L' := [some (.ref 0), some (.int x1), some (.int x2)]) (st' := [.int x2, .ref 1, .int (M.1 1 11), .int x1]) 1 rfl ?_
      obtain ⟨v3, hv4, h⟩ := kx_bn_some h
      refine kx_q_callV (as := [.int x2]) (rest := [.int (M.1 1 11), .int x1]) (M1 := M) (rv := some (.int v3)) kxl_1.1 rfl klk_X4_191 kse_X0_seenBy rfl rfl rfl rfl (Nat.le_of_ble_eq_true rfl) (Nat.le_of_ble_eq_true rfl) (c_X0_seenBy (d := d + 0) 1 (kxl_1) x2 M v3 hv4) ?_
      show kx_Rn _ _ _ (31, [some (.ref 0), some (.int x1), some (.int x2)], [.int v3, .int (M.1 1 11), .int x1], M) _ _
      refine kx_r_callS (as := [.int v3]) (rest := [.int (M.1 1 11), .int x1]) (M1 := M) (rv := some (.int (f_J6_bitCount_0f7a4 v3))) rfl klk_X4_186 kst_J6_bitCount_0f7a4 rfl rfl (Nat.le_of_ble_eq_true rfl) (Nat.le_of_ble_eq_true rfl) (c_J6_bitCount_0f7a4 (d := d + 1) v3 M (f_J6_bitCount_0f7a4 v3) rfl) ?_
      show kx_Rn _ _ _ (34, [some (.ref 0), some (.int x1), some (.int x2)], [.int (f_J6_bitCount_0f7a4 v3), .int (M.1 1 11), .int x1], M) _ _
      refine kx_go (pc' := 35) (L' := [some (.ref 0), some (.int x1), some (.int x2)]) (st' := [.int ((M.1 1 11) - (f_J6_bitCount_0f7a4 v3)), .int x1]) 1 rfl ?_
      refine kx_q_max rfl kml_X4_254 kst_max kini_math kcd_max (Nat.le_of_ble_eq_true rfl) ?_
      refine kx_go (pc' := 42) (L' := [some (.ref 0), some (.int (if x1 < ((M.1 1 11) - (f_J6_bitCount_0f7a4 v3)) then ((M.1 1 11) - (f_J6_bitCount_0f7a4 v3)) else x1)), some (.int (x2 + (1)))]) (st' := []) 2 rfl ?_
      refine kx_r_goto rfl ?_
      refine kx_wk [true, true, true] ?_
      exact ih (if x1 < ((M.1 1 11) - (f_J6_bitCount_0f7a4 v3)) then ((M.1 1 11) - (f_J6_bitCount_0f7a4 v3)) else x1) (x2 + (1)) h
set_option maxRecDepth 100000 in
set_option maxHeartbeats 4000000 in
theorem t_X4_together {d : Nat} {r : Int32} (M : kx_M) (h : f_X4_together M = some r) : kx_Rn EX T_X4_together (d + 2) (0, [some (.ref 0), none, none], [], M) (some (.int r)) M := by
  unfold f_X4_together at h
  refine kx_go (pc' := 4) (L' := [some (.ref 0), some (.int (0 : Int32)), some (.int (0 : Int32))]) (st' := []) 4 rfl ?_
  refine kx_wk [true, true, true] ?_
  exact t_X4_together_4 M kx_fuel (0 : Int32) (0 : Int32) h
theorem c_X4_together {d : Nat} (M : kx_M) (r : Int32) (h : f_X4_together M = some r) : kx_Call EX (d + 2) T_X4_together [.ref 0] M (some (.int r)) M := kx_entry kok_X4_together (Nat.le_of_ble_eq_true rfl) rfl (t_X4_together (d := d) M h)
set_option maxRecDepth 100000 in
set_option maxHeartbeats 4000000 in
theorem t_X4_needed_12 {d : Nat} {r : Int32} (M : kx_M) : ∀ (n : Nat) (x1 : Int32) (x2 : Int32) (x3 : Int32), f_X4_needed_12 M n x1 x2 x3 = some r → kx_Rn EX T_X4_needed (d + 2) (12, [some (.ref 0), some (.int x1), some (.int x2), some (.int x3)], [], M) (some (.int r)) M := by
  intro n
  induction n with
  | zero =>
    intro x1 x2 x3 h
    cases (show (none : Option Int32) = some _ from h)
  | succ n ih =>
    intro x1 x2 x3 h
    rw [f_X4_needed_12.eq_2] at h
    refine kx_go (pc' := 14) (L' := [some (.ref 0), some (.int x1), some (.int x2), some (.int x3)]) (st' := [.ref 0, .int x3]) 2 rfl ?_
    refine kx_q_getR (k := 0) (j := 1) kxo_0 rfl kfl_X4_10 rfl ?_
    refine kx_q_getI (k := 11) kxl_1.1 rfl kfl_X4_146 rfl ?_
    refine kx_r_icmp_ge rfl (fun hc1 => ?_) (fun hc1 => ?_)
    · rw [if_pos hc1] at h
      refine kx_go (pc' := 61) (L' := [some (.ref 0), some (.int x1), some (.int x2), some (.int x3)]) (st' := [.int x1]) 1 rfl ?_
      cases h
      exact kx_r_iret rfl rfl
    · rw [if_neg hc1] at h
      refine kx_go (pc' := 24) (L' := [some (.ref 0), some (.int x1), some (.int x2), some (.int x3)]) (st' := [.ref 0]) 1 rfl ?_
      refine kx_q_getR (k := 0) (j := 1) kxo_0 rfl kfl_X4_10 rfl ?_
      refine kx_go (pc' := 34) (L' := [some (.ref 0), some (.int x1), some (.int x2), some (.int x3)]) (st' := [.int (x2 &&& (((1 : Int32) <<< (x3 &&& 31)) ^^^ (-1 : Int32))), .ref 1]) 7 rfl ?_
      obtain ⟨v2, hv3, h⟩ := kx_bn_some h
      refine kx_q_callV (as := [.int (x2 &&& (((1 : Int32) <<< (x3 &&& 31)) ^^^ (-1 : Int32)))]) (rest := []) (M1 := M) (rv := some (.int v2)) kxl_1.1 rfl klk_X4_203 kse_X0_knownBy rfl rfl rfl rfl (Nat.le_of_ble_eq_true rfl) (Nat.le_of_ble_eq_true rfl) (c_X0_knownBy (d := d + 0) 1 (kxl_1) (x2 &&& (((1 : Int32) <<< (x3 &&& 31)) ^^^ (-1 : Int32))) M v2 hv3) ?_
      show kx_Rn _ _ _ (37, [some (.ref 0), some (.int x1), some (.int x2), some (.int x3)], [.int v2], M) _ _
      refine kx_go (pc' := 38) (L' := [some (.ref 0), some (.int x1), some (.int x2), some (.int x3)]) (st' := [.ref 0, .int v2]) 1 rfl ?_
      refine kx_q_getR (k := 0) (j := 1) kxo_0 rfl kfl_X4_10 rfl ?_
      refine kx_go (pc' := 42) (L' := [some (.ref 0), some (.int x1), some (.int x2), some (.int x3)]) (st' := [.int x2, .ref 1, .int v2]) 1 rfl ?_
      obtain ⟨v4, hv5, h⟩ := kx_bn_some h
      refine kx_q_callV (as := [.int x2]) (rest := [.int v2]) (M1 := M) (rv := some (.int v4)) kxl_1.1 rfl klk_X4_203 kse_X0_knownBy rfl rfl rfl rfl (Nat.le_of_ble_eq_true rfl) (Nat.le_of_ble_eq_true rfl) (c_X0_knownBy (d := d + 0) 1 (kxl_1) x2 M v4 hv5) ?_
      show kx_Rn _ _ _ (45, [some (.ref 0), some (.int x1), some (.int x2), some (.int x3)], [.int v4, .int v2], M) _ _
      refine kx_r_icmp_eq rfl (fun hc6 => ?_) (fun hc6 => ?_)
      · rw [if_pos hc6] at h
        refine kx_go (pc' := 57) (L' := [some (.ref 0), some (.int x1), some (.int x2), some (.int (x3 + (1)))]) (st' := []) 1 rfl ?_
        refine kx_r_goto rfl ?_
        refine kx_wk [true, true, true, true] ?_
        exact ih x1 x2 (x3 + (1)) h
      · rw [if_neg hc6] at h
        refine kx_go (pc' := 57) (L' := [some (.ref 0), some (.int (x1 ||| ((1 : Int32) <<< (x3 &&& 31)))), some (.int x2), some (.int (x3 + (1)))]) (st' := []) 7 rfl ?_
        refine kx_r_goto rfl ?_
        refine kx_wk [true, true, true, true] ?_
        exact ih (x1 ||| ((1 : Int32) <<< (x3 &&& 31))) x2 (x3 + (1)) h
set_option maxRecDepth 100000 in
set_option maxHeartbeats 4000000 in
theorem t_X4_needed {d : Nat} {r : Int32} (M : kx_M) (h : f_X4_needed M = some r) : kx_Rn EX T_X4_needed (d + 2) (0, [some (.ref 0), none, none, none], [], M) (some (.int r)) M := by
  unfold f_X4_needed at h
  refine kx_go (pc' := 3) (L' := [some (.ref 0), some (.int (0 : Int32)), none, none]) (st' := [.ref 0]) 3 rfl ?_
  refine kx_q_getR (k := 0) (j := 1) kxo_0 rfl kfl_X4_10 rfl ?_
  refine kx_q_callV (as := []) (rest := []) (M1 := M) (rv := some (.int (f_X0_all 1 M))) kxl_1.1 rfl klk_X4_215 kse_X0_all rfl rfl rfl rfl (Nat.le_of_ble_eq_true rfl) (Nat.le_of_ble_eq_true rfl) (c_X0_all (d := d + 1) 1 (kxl_1) M (f_X0_all 1 M) rfl) ?_
  show kx_Rn _ _ _ (9, [some (.ref 0), some (.int (0 : Int32)), none, none], [.int (f_X0_all 1 M)], M) _ _
  refine kx_go (pc' := 12) (L' := [some (.ref 0), some (.int (0 : Int32)), some (.int (f_X0_all 1 M)), some (.int (0 : Int32))]) (st' := []) 3 rfl ?_
  refine kx_wk [true, true, true, true] ?_
  exact t_X4_needed_12 M kx_fuel (0 : Int32) (f_X0_all 1 M) (0 : Int32) h
theorem c_X4_needed {d : Nat} (M : kx_M) (r : Int32) (h : f_X4_needed M = some r) : kx_Call EX (d + 2) T_X4_needed [.ref 0] M (some (.int r)) M := kx_entry kok_X4_needed (Nat.le_of_ble_eq_true rfl) rfl (t_X4_needed (d := d) M h)
set_option maxRecDepth 100000 in
set_option maxHeartbeats 4000000 in
theorem t_X4_isSoFrom_3 {d : Nat} {r : Bool} (q : Nat) (hq : kx_shelf EX q) (M : kx_M) : ∀ (n : Nat) (x1 : Int32) (x3 : Int32) (x4 : Int32) (x5 : Int32), f_X4_isSoFrom_3 q M n x1 x3 x4 x5 = some r → kx_Rn EX T_X4_isSoFrom (d + 1) (3, [some (.ref 0), some (.int x1), some (.ref q), some (.int x3), some (.int x4), some (.int x5)], [], M) (some (.int (kx_bi r))) M := by
  intro n
  induction n with
  | zero =>
    intro x1 x3 x4 x5 h
    cases (show (none : Option Bool) = some _ from h)
  | succ n ih =>
    intro x1 x3 x4 x5 h
    rw [f_X4_isSoFrom_3.eq_2] at h
    refine kx_go (pc' := 6) (L' := [some (.ref 0), some (.int x1), some (.ref q), some (.int x3), some (.int x4), some (.int x5)]) (st' := [.int x3, .int x5]) 2 rfl ?_
    refine kx_r_icmp_ge rfl (fun hc1 => ?_) (fun hc1 => ?_)
    · rw [if_pos hc1] at h
      refine kx_go (pc' := 55) (L' := [some (.ref 0), some (.int x1), some (.ref q), some (.int x3), some (.int x4), some (.int x5)]) (st' := [.int (1 : Int32)]) 1 rfl ?_
      cases h
      exact kx_r_zret rfl rfl (Or.inr rfl)
    · rw [if_neg hc1] at h
      refine kx_go (pc' := 16) (L' := [some (.ref 0), some (.int x1), some (.ref q), some (.int x3), some (.int x4), some (.int x5)]) (st' := [.long (x4).toInt64, .int (x1 + x5)]) 5 rfl ?_
      refine kx_r_callS (as := [.int (x1 + x5), .long (x4).toInt64]) (rest := []) (M1 := M) (rv := some (.int (kx_bi (f_X4_isIn (x1 + x5) (x4).toInt64)))) rfl klk_X4_238 kst_X4_isIn rfl rfl (Nat.le_of_ble_eq_true rfl) (Nat.le_of_ble_eq_true rfl) (c_X4_isIn (d := d + 0) (x1 + x5) (x4).toInt64 M (f_X4_isIn (x1 + x5) (x4).toInt64) rfl) ?_
      show kx_Rn _ _ _ (19, [some (.ref 0), some (.int x1), some (.ref q), some (.int x3), some (.int x4), some (.int x5)], [.int (kx_bi (f_X4_isIn (x1 + x5) (x4).toInt64))], M) _ _
      refine kx_q_zeq rfl (fun hc2 => ?_) (fun hc2 => ?_)
      · rw [if_neg hc2] at h
        refine kx_go (pc' := 51) (L' := [some (.ref 0), some (.int x1), some (.ref q), some (.int x3), some (.int x4), some (.int (x5 + (1)))]) (st' := []) 1 rfl ?_
        refine kx_r_goto rfl ?_
        refine kx_wk [true, true, true, true, true, true] ?_
        exact ih x1 x3 x4 (x5 + (1)) h
      · rw [if_pos hc2] at h
        refine kx_go (pc' := 23) (L' := [some (.ref 0), some (.int x1), some (.ref q), some (.int x3), some (.int x4), some (.int x5)]) (st' := [.ref 0]) 1 rfl ?_
        refine kx_q_getR (k := 0) (j := 1) kxo_0 rfl kfl_X4_10 rfl ?_
        refine kx_q_getR (k := 1) (j := 3) kxl_1.1 rfl kfl_X4_158 rfl ?_
        refine kx_go (pc' := 33) (L' := [some (.ref 0), some (.int x1), some (.ref q), some (.int x3), some (.int x4), some (.int x5)]) (st' := [.int (x1 + x5), .ref 3]) 3 rfl ?_
        obtain ⟨hi3, h⟩ := kx_ck_some h
        refine kx_q_iald (kxl_1.2.2.1) rfl hi3 ?_
        refine kx_go (pc' := 36) (L' := [some (.ref 0), some (.int x1), some (.ref q), some (.int x3), some (.int x4), some (.int x5)]) (st' := [.ref q, .long ((M.1 3 ((x1 + x5)).toNatClampNeg)).toInt64]) 2 rfl ?_
        refine kx_q_getR (k := 0) (j := (q + 1)) hq.1 rfl kfl_X4_87 rfl ?_
        refine kx_go (pc' := 41) (L' := [some (.ref 0), some (.int x1), some (.ref q), some (.int x3), some (.int x4), some (.int x5)]) (st' := [.int x5, .ref (q + 1), .long ((M.1 3 ((x1 + x5)).toNatClampNeg)).toInt64]) 1 rfl ?_
        obtain ⟨hi4, h⟩ := kx_ck_some h
        refine kx_q_lald (hq.2) rfl hi4 ?_
        refine kx_go (pc' := 43) (L' := [some (.ref 0), some (.int x1), some (.ref q), some (.int x3), some (.int x4), some (.int x5)]) (st' := [.int (lg_cmp ((M.1 3 ((x1 + x5)).toNatClampNeg)).toInt64 (M.2 (q + 1) (x5).toNatClampNeg))]) 1 rfl ?_
        refine kx_r_if_eq rfl (fun hc5 => ?_) (fun hc5 => ?_)
        · rw [if_pos hc5] at h
          refine kx_go (pc' := 51) (L' := [some (.ref 0), some (.int x1), some (.ref q), some (.int x3), some (.int x4), some (.int (x5 + (1)))]) (st' := []) 1 rfl ?_
          refine kx_r_goto rfl ?_
          refine kx_wk [true, true, true, true, true, true] ?_
          exact ih x1 x3 x4 (x5 + (1)) h
        · rw [if_neg hc5] at h
          refine kx_go (pc' := 47) (L' := [some (.ref 0), some (.int x1), some (.ref q), some (.int x3), some (.int x4), some (.int x5)]) (st' := [.int (0 : Int32)]) 1 rfl ?_
          cases h
          exact kx_r_zret rfl rfl (Or.inl rfl)
set_option maxRecDepth 100000 in
set_option maxHeartbeats 4000000 in
theorem t_X4_isSoFrom {d : Nat} {r : Bool} (q : Nat) (hq : kx_shelf EX q) (M : kx_M) (a0 : Int32) (a2 : Int32) (a3 : Int32) (h : f_X4_isSoFrom q M a0 a2 a3 = some r) : kx_Rn EX T_X4_isSoFrom (d + 1) (0, [some (.ref 0), some (.int a0), some (.ref q), some (.int a2), some (.int a3), none], [], M) (some (.int (kx_bi r))) M := by
  unfold f_X4_isSoFrom at h
  refine kx_go (pc' := 3) (L' := [some (.ref 0), some (.int a0), some (.ref q), some (.int a2), some (.int a3), some (.int (0 : Int32))]) (st' := []) 2 rfl ?_
  refine kx_wk [true, true, true, true, true, true] ?_
  exact t_X4_isSoFrom_3 q hq M kx_fuel a0 a2 a3 (0 : Int32) h
theorem c_X4_isSoFrom {d : Nat} (q : Nat) (hq : kx_shelf EX q) (a0 : Int32) (a2 : Int32) (a3 : Int32) (M : kx_M) (r : Bool) (h : f_X4_isSoFrom q M a0 a2 a3 = some r) : kx_Call EX (d + 1) T_X4_isSoFrom [.ref 0, .int a0, .ref q, .int a2, .int a3] M (some (.int (kx_bi r))) M := kx_entry kok_X4_isSoFrom (Nat.le_of_ble_eq_true rfl) rfl (t_X4_isSoFrom (d := d) q hq M a0 a2 a3 h)
set_option maxRecDepth 100000 in
set_option maxHeartbeats 4000000 in
theorem t_X4_picture_56 {d : Nat} {r : Int32} {M' : kx_M} : ∀ (n : Nat) (x1 : Int32) (x2 : Int32) (x3 : Int32) (x6 : Int32) (x7 : Int32) (M : kx_M), f_X4_picture_56 n x1 x2 x3 x6 x7 M = some (r, M') → kx_Rn EX T_X4_picture (d + 3) (56, [some (.ref 0), some (.int x1), some (.int x2), some (.int x3), none, none, some (.int x6), some (.int x7)], [], M) (some (.int r)) M' := by
  intro n
  induction n with
  | zero =>
    intro x1 x2 x3 x6 x7 M h
    cases (show (none : Option (Int32 × kx_M)) = some _ from h)
  | succ n ih =>
    intro x1 x2 x3 x6 x7 M h
    rw [f_X4_picture_56.eq_2] at h
    refine kx_go (pc' := 61) (L' := [some (.ref 0), some (.int x1), some (.int x2), some (.int x3), none, none, some (.int x6), some (.int x7)]) (st' := [.ref 0, .int (x7 + x2)]) 4 rfl ?_
    refine kx_q_getR (k := 0) (j := 1) kxo_0 rfl kfl_X4_10 rfl ?_
    refine kx_q_getI (k := 7) kxl_1.1 rfl kfl_X4_129 rfl ?_
    refine kx_r_icmp_gt rfl (fun hc1 => ?_) (fun hc1 => ?_)
    · rw [if_pos hc1] at h
      refine kx_go (pc' := 112) (L' := [some (.ref 0), some (.int x1), some (.int x2), some (.int x3), none, none, some (.int x6), some (.int x7)]) (st' := [.int x6]) 1 rfl ?_
      cases h
      exact kx_r_iret rfl rfl
    · rw [if_neg hc1] at h
      refine kx_go (pc' := 74) (L' := [some (.ref 0), some (.int x1), some (.int x2), some (.int x3), none, none, some (.int x6), some (.int x7)]) (st' := [.ref 0, .int x7, .ref 0]) 3 rfl ?_
      refine kx_q_getR (k := 3) (j := 25) kxo_0 rfl kfl_X4_24 rfl ?_
      refine kx_go (pc' := 78) (L' := [some (.ref 0), some (.int x1), some (.int x2), some (.int x3), none, none, some (.int x6), some (.int x7)]) (st' := [.int x1, .ref 25, .int x7, .ref 0]) 1 rfl ?_
      obtain ⟨hi2, h⟩ := kx_ck_some h
      refine kx_q_aald rfl hi2 ?_
      refine kx_go (pc' := 81) (L' := [some (.ref 0), some (.int x1), some (.int x2), some (.int x3), none, none, some (.int x6), some (.int x7)]) (st' := [.ref 0, .int x2, .ref (26 + 2 * (x1).toNatClampNeg), .int x7, .ref 0]) 2 rfl ?_
      refine kx_q_getR (k := 0) (j := 1) kxo_0 rfl kfl_X4_10 rfl ?_
      refine kx_q_getR (k := 6) (j := 8) kxl_1.1 rfl kfl_X4_183 rfl ?_
      refine kx_go (pc' := 88) (L' := [some (.ref 0), some (.int x1), some (.int x2), some (.int x3), none, none, some (.int x6), some (.int x7)]) (st' := [.int x3, .ref 8, .int x2, .ref (26 + 2 * (x1).toNatClampNeg), .int x7, .ref 0]) 1 rfl ?_
      obtain ⟨hi3, h⟩ := kx_ck_some h
      refine kx_q_iald (kxl_1.2.2.2.2.2.2.2) rfl hi3 ?_
      obtain ⟨v4, hv5, h⟩ := kx_bn_some h
      refine kx_q_callV (as := [.int x7, .ref (26 + 2 * (x1).toNatClampNeg), .int x2, .int (M.1 8 (x3).toNatClampNeg)]) (rest := []) (M1 := M) (rv := some (.int (kx_bi v4))) kxo_0 rfl klk_X4_267 kse_X4_isSoFrom rfl rfl rfl rfl (Nat.le_of_ble_eq_true rfl) (Nat.le_of_ble_eq_true rfl) (c_X4_isSoFrom (d := d + 1) (26 + 2 * (x1).toNatClampNeg) ((kxs_in hi2)) x7 x2 (M.1 8 (x3).toNatClampNeg) M v4 hv5) ?_
      show kx_Rn _ _ _ (92, [some (.ref 0), some (.int x1), some (.int x2), some (.int x3), none, none, some (.int x6), some (.int x7)], [.int (kx_bi v4)], M) _ _
      refine kx_q_zeq rfl (fun hc6 => ?_) (fun hc6 => ?_)
      · rw [if_neg hc6] at h
        refine kx_go (pc' := 107) (L' := [some (.ref 0), some (.int x1), some (.int x2), some (.int x3), none, none, some (.int x6), some (.int (x7 + (1)))]) (st' := []) 1 rfl ?_
        refine kx_r_goto rfl ?_
        refine kx_wk [true, true, true, true, false, false, true, true] ?_
        exact ih x1 x2 x3 x6 (x7 + (1)) M h
      · rw [if_pos hc6] at h
        refine kx_go (pc' := 107) (L' := [some (.ref 0), some (.int x1), some (.int x2), some (.int x3), none, none, some (.int (x6 ||| ((1 : Int32) <<< (x7 &&& 31)))), some (.int (x7 + (1)))]) (st' := []) 7 rfl ?_
        refine kx_r_goto rfl ?_
        refine kx_wk [true, true, true, true, false, false, true, true] ?_
        exact ih x1 x2 x3 (x6 ||| ((1 : Int32) <<< (x7 &&& 31))) (x7 + (1)) M h
set_option maxRecDepth 100000 in
set_option maxHeartbeats 4000000 in
theorem t_X4_picture_26 {d : Nat} {r : Int32} {M' : kx_M} (x1 : Int32) (x2 : Int32) (x3 : Int32) (s0 : Bool) (M : kx_M) (h : f_X4_picture_26 x1 x2 x3 s0 M = some (r, M')) : kx_Rn EX T_X4_picture (d + 3) (26, [some (.ref 0), some (.int x1), some (.int x2), some (.int x3), none, none, none, none], [.int (kx_bi s0)], M) (some (.int r)) M' := by
  unfold f_X4_picture_26 at h
  refine kx_go (pc' := 33) (L' := [some (.ref 0), some (.int x1), some (.int x2), some (.int x3), some (.int (kx_bi s0)), none, none, none]) (st' := [.int x2, .int (kx_bi s0), .int x1, .ref 0]) 5 rfl ?_
  obtain ⟨v1, hv2, h⟩ := kx_bn_some h
  refine kx_q_callV (as := [.int x1, .int (kx_bi s0), .int x2]) (rest := []) (M1 := M) (rv := some (.int v1)) kxo_0 rfl klk_X4_67 kse_X4_rowFault rfl rfl rfl rfl (Nat.le_of_ble_eq_true rfl) (Nat.le_of_ble_eq_true rfl) (c_X4_rowFault (d := d + 0) x1 s0 x2 M v1 hv2) ?_
  show kx_Rn _ _ _ (36, [some (.ref 0), some (.int x1), some (.int x2), some (.int x3), some (.int (kx_bi s0)), none, none, none], [.int v1], M) _ _
  refine kx_go (pc' := 40) (L' := [some (.ref 0), some (.int x1), some (.int x2), some (.int x3), some (.int (kx_bi s0)), some (.int v1), none, none]) (st' := [.int v1]) 2 rfl ?_
  refine kx_r_if_eq rfl (fun hc3 => ?_) (fun hc3 => ?_)
  · rw [if_pos hc3] at h
    refine kx_go (pc' := 56) (L' := [some (.ref 0), some (.int x1), some (.int x2), some (.int x3), some (.int (kx_bi s0)), some (.int v1), some (.int (0 : Int32)), some (.int (0 : Int32))]) (st' := []) 4 rfl ?_
    refine kx_wk [true, true, true, true, false, false, true, true] ?_
    exact t_X4_picture_56 kx_fuel x1 x2 x3 (0 : Int32) (0 : Int32) M h
  · rw [if_neg hc3] at h
    refine kx_go (pc' := 46) (L' := [some (.ref 0), some (.int x1), some (.int x2), some (.int x3), some (.int (kx_bi s0)), some (.int v1), none, none]) (st' := [.int v1, .ref 0]) 2 rfl ?_
    obtain ⟨v4, M6, hv5, h⟩ := kx_bd_some h
    refine kx_q_callV (as := [.int v1]) (rest := []) (M1 := M6) (rv := some (.int v4)) kxo_0 rfl klk_X4_59 kse_X4_refuse rfl rfl rfl rfl (Nat.le_of_ble_eq_true rfl) (Nat.le_of_ble_eq_true rfl) (c_X4_refuse (d := d + 1) v1 M v4 M6 hv5) ?_
    show kx_Rn _ _ _ (49, [some (.ref 0), some (.int x1), some (.int x2), some (.int x3), some (.int (kx_bi s0)), some (.int v1), none, none], [.int v4], M6) _ _
    cases h
    exact kx_r_iret rfl rfl
set_option maxRecDepth 100000 in
set_option maxHeartbeats 4000000 in
theorem t_X4_picture {d : Nat} {r : Int32} {M' : kx_M} (a0 : Int32) (a1 : Int32) (a2 : Int32) (M : kx_M) (h : f_X4_picture a0 a1 a2 M = some (r, M')) : kx_Rn EX T_X4_picture (d + 3) (0, [some (.ref 0), some (.int a0), some (.int a1), some (.int a2), none, none, none, none], [], M) (some (.int r)) M' := by
  unfold f_X4_picture at h
  refine kx_go (pc' := 4) (L' := [some (.ref 0), some (.int a0), some (.int a1), some (.int a2), none, none, none, none]) (st' := [.int (24 : Int32), .int (0 : Int32), .int a1]) 3 rfl ?_
  refine kx_r_callS (as := [.int a1, .int (0 : Int32), .int (24 : Int32)]) (rest := []) (M1 := M) (rv := some (.int (kx_bi (f_X4_isWithin a1 (0 : Int32) (24 : Int32))))) rfl klk_X4_55 kst_X4_isWithin rfl rfl (Nat.le_of_ble_eq_true rfl) (Nat.le_of_ble_eq_true rfl) (c_X4_isWithin (d := d + 2) a1 (0 : Int32) (24 : Int32) M (f_X4_isWithin a1 (0 : Int32) (24 : Int32)) rfl) ?_
  show kx_Rn _ _ _ (7, [some (.ref 0), some (.int a0), some (.int a1), some (.int a2), none, none, none, none], [.int (kx_bi (f_X4_isWithin a1 (0 : Int32) (24 : Int32)))], M) _ _
  refine kx_q_zeq rfl (fun hc1 => ?_) (fun hc1 => ?_)
  · rw [if_neg hc1] at h
    refine kx_go (pc' := 26) (L' := [some (.ref 0), some (.int a0), some (.int a1), some (.int a2), none, none, none, none]) (st' := [.int (0 : Int32)]) 1 rfl ?_
    refine kx_wk [true, true, true, true, false, false, false, false] ?_
    exact t_X4_picture_26 a0 a1 a2 false M h
  · rw [if_pos hc1] at h
    refine kx_go (pc' := 11) (L' := [some (.ref 0), some (.int a0), some (.int a1), some (.int a2), none, none, none, none]) (st' := [.ref 0]) 1 rfl ?_
    refine kx_q_getR (k := 0) (j := 1) kxo_0 rfl kfl_X4_10 rfl ?_
    refine kx_go (pc' := 15) (L' := [some (.ref 0), some (.int a0), some (.int a1), some (.int a2), none, none, none, none]) (st' := [.int a2, .ref 1]) 1 rfl ?_
    refine kx_q_callV (as := [.int a2]) (rest := []) (M1 := M) (rv := some (.int (kx_bi (f_X0_hasVisitor 1 M a2)))) kxl_1.1 rfl klk_X4_104 kse_X0_hasVisitor rfl rfl rfl rfl (Nat.le_of_ble_eq_true rfl) (Nat.le_of_ble_eq_true rfl) (c_X0_hasVisitor (d := d + 1) 1 (kxl_1) a2 M (f_X0_hasVisitor 1 M a2) rfl) ?_
    show kx_Rn _ _ _ (18, [some (.ref 0), some (.int a0), some (.int a1), some (.int a2), none, none, none, none], [.int (kx_bi (f_X0_hasVisitor 1 M a2))], M) _ _
    refine kx_q_zeq rfl (fun hc2 => ?_) (fun hc2 => ?_)
    · rw [if_neg hc2] at h
      refine kx_go (pc' := 26) (L' := [some (.ref 0), some (.int a0), some (.int a1), some (.int a2), none, none, none, none]) (st' := [.int (0 : Int32)]) 1 rfl ?_
      refine kx_wk [true, true, true, true, false, false, false, false] ?_
      exact t_X4_picture_26 a0 a1 a2 false M h
    · rw [if_pos hc2] at h
      refine kx_go (pc' := 22) (L' := [some (.ref 0), some (.int a0), some (.int a1), some (.int a2), none, none, none, none]) (st' := [.int (1 : Int32)]) 1 rfl ?_
      refine kx_r_goto rfl ?_
      refine kx_wk [true, true, true, true, false, false, false, false] ?_
      exact t_X4_picture_26 a0 a1 a2 true M h
theorem c_X4_picture {d : Nat} (a0 : Int32) (a1 : Int32) (a2 : Int32) (M : kx_M) (r : Int32) (M' : kx_M) (h : f_X4_picture a0 a1 a2 M = some (r, M')) : kx_Call EX (d + 3) T_X4_picture [.ref 0, .int a0, .int a1, .int a2] M (some (.int r)) M' := kx_entry kok_X4_picture (Nat.le_of_ble_eq_true rfl) rfl (t_X4_picture (d := d) a0 a1 a2 M h)
set_option maxRecDepth 100000 in
set_option maxHeartbeats 4000000 in
theorem t_X4_veilByTurns_168 {E : kx_E} {d : Nat} {r : Int32} (M : kx_M) (rec : Int32 → Int32 → Int32 → Int32 → Int32 → Bool → Option Int32) (hrec : ∀ (a0 : Int32) (a1 : Int32) (a2 : Int32) (a3 : Int32) (a4 : Int32) (a5 : Bool) (r : Int32), rec a0 a1 a2 a3 a4 a5 = some r → kx_Call E (d + 1) T_X4_veilByTurns [.int a0, .int a1, .int a2, .int a3, .int a4, .int (kx_bi a5)] M (some (.int r)) M) (x5 : Bool) (x6 : Int32) (s0 : Bool) (s1 : Int32) (s2 : Int32) (s3 : Int32) (s4 : Int32) (s5 : Int32) (h : f_X4_veilByTurns_168 rec x5 x6 s0 s1 s2 s3 s4 s5 = some r) : kx_Rn E T_X4_veilByTurns (d + 2) (168, [none, none, none, none, none, some (.int (kx_bi x5)), some (.int x6), none], [.int (kx_bi s0), .int s1, .int s2, .int s3, .int s4, .int s5], M) (some (.int r)) M := by
  unfold f_X4_veilByTurns_168 at h
  obtain ⟨v1, hv2, h⟩ := kx_bn_some h
  refine kx_r_callS (as := [.int s5, .int s4, .int s3, .int s2, .int s1, .int (kx_bi s0)]) (rest := []) (M1 := M) (rv := some (.int v1)) rfl klk_X4_316 kst_X4_veilByTurns rfl rfl (Nat.le_of_ble_eq_true rfl) (Nat.le_of_ble_eq_true rfl) (hrec s5 s4 s3 s2 s1 s0 v1 hv2) ?_
  show kx_Rn _ _ _ (171, [none, none, none, none, none, some (.int (kx_bi x5)), some (.int x6), none], [.int v1], M) _ _
  refine kx_go (pc' := 175) (L' := [none, none, none, none, none, some (.int (kx_bi x5)), some (.int x6), some (.int v1)]) (st' := [.int (kx_bi x5)]) 2 rfl ?_
  refine kx_q_zeq rfl (fun hc3 => ?_) (fun hc3 => ?_)
  · rw [if_neg hc3] at h
    refine kx_go (pc' := 192) (L' := [none, none, none, none, none, some (.int (kx_bi x5)), some (.int x6), some (.int v1)]) (st' := [.int v1, .int x6]) 2 rfl ?_
    refine kx_q_max rfl kml_X4_254 kst_max kini_math kcd_max (Nat.le_of_ble_eq_true rfl) ?_
    refine kx_go (pc' := 199) (L' := [none, none, none, none, none, some (.int (kx_bi x5)), some (.int (if x6 < v1 then v1 else x6)), some (.int v1)]) (st' := [.int (if x6 < v1 then v1 else x6)]) 2 rfl ?_
    cases h
    exact kx_r_iret rfl rfl
  · rw [if_pos hc3] at h
    refine kx_go (pc' := 182) (L' := [none, none, none, none, none, some (.int (kx_bi x5)), some (.int x6), some (.int v1)]) (st' := [.int v1, .int x6]) 2 rfl ?_
    refine kx_q_min rfl kml_X4_249 kst_min kini_math kcd_min (Nat.le_of_ble_eq_true rfl) ?_
    refine kx_r_goto rfl ?_
    refine kx_go (pc' := 199) (L' := [none, none, none, none, none, some (.int (kx_bi x5)), some (.int (if v1 < x6 then v1 else x6)), some (.int v1)]) (st' := [.int (if v1 < x6 then v1 else x6)]) 2 rfl ?_
    cases h
    exact kx_r_iret rfl rfl
set_option maxRecDepth 100000 in
set_option maxHeartbeats 4000000 in
theorem t_X4_veilByTurns_144 {E : kx_E} {d : Nat} {r : Int32} (M : kx_M) (rec : Int32 → Int32 → Int32 → Int32 → Int32 → Bool → Option Int32) (hrec : ∀ (a0 : Int32) (a1 : Int32) (a2 : Int32) (a3 : Int32) (a4 : Int32) (a5 : Bool) (r : Int32), rec a0 a1 a2 a3 a4 a5 = some r → kx_Call E (d + 1) T_X4_veilByTurns [.int a0, .int a1, .int a2, .int a3, .int a4, .int (kx_bi a5)] M (some (.int r)) M) (x0 : Int32) (x1 : Int32) (x2 : Int32) (x3 : Int32) (x4 : Int32) (x5 : Bool) (x6 : Int32) (h : f_X4_veilByTurns_144 rec x0 x1 x2 x3 x4 x5 x6 = some r) : kx_Rn E T_X4_veilByTurns (d + 2) (144, [some (.int x0), some (.int x1), some (.int x2), some (.int x3), some (.int x4), some (.int (kx_bi x5)), some (.int x6), none], [], M) (some (.int r)) M := by
  unfold f_X4_veilByTurns_144 at h
  refine kx_go (pc' := 145) (L' := [some (.int x0), some (.int x1), some (.int x2), some (.int x3), some (.int x4), some (.int (kx_bi x5)), some (.int x6), none]) (st' := [.int x3]) 1 rfl ?_
  refine kx_r_if_le rfl (fun hc1 => ?_) (fun hc1 => ?_)
  · rw [if_pos hc1] at h
    refine kx_go (pc' := 199) (L' := [some (.int x0), some (.int x1), some (.int x2), some (.int x3), some (.int x4), some (.int (kx_bi x5)), some (.int x6), none]) (st' := [.int x6]) 1 rfl ?_
    cases h
    exact kx_r_iret rfl rfl
  · rw [if_neg hc1] at h
    refine kx_go (pc' := 160) (L' := [some (.int x0), some (.int x1), some (.int x2), some (.int x3), some (.int x4), some (.int (kx_bi x5)), some (.int x6), none]) (st' := [.int (kx_bi x5), .int (x4 - (1 : Int32)), .int (x3 - (1 : Int32)), .int x2, .int x1, .int x0]) 10 rfl ?_
    refine kx_q_zne rfl (fun hc2 => ?_) (fun hc2 => ?_)
    · rw [if_pos hc2] at h
      refine kx_go (pc' := 168) (L' := [some (.int x0), some (.int x1), some (.int x2), some (.int x3), some (.int x4), some (.int (kx_bi x5)), some (.int x6), none]) (st' := [.int (0 : Int32), .int (x4 - (1 : Int32)), .int (x3 - (1 : Int32)), .int x2, .int x1, .int x0]) 1 rfl ?_
      refine kx_wk [false, false, false, false, false, true, true, false] ?_
      exact t_X4_veilByTurns_168 M rec hrec x5 x6 false (x4 - (1 : Int32)) (x3 - (1 : Int32)) x2 x1 x0 h
    · rw [if_neg hc2] at h
      refine kx_go (pc' := 164) (L' := [some (.int x0), some (.int x1), some (.int x2), some (.int x3), some (.int x4), some (.int (kx_bi x5)), some (.int x6), none]) (st' := [.int (1 : Int32), .int (x4 - (1 : Int32)), .int (x3 - (1 : Int32)), .int x2, .int x1, .int x0]) 1 rfl ?_
      refine kx_r_goto rfl ?_
      refine kx_wk [false, false, false, false, false, true, true, false] ?_
      exact t_X4_veilByTurns_168 M rec hrec x5 x6 true (x4 - (1 : Int32)) (x3 - (1 : Int32)) x2 x1 x0 h
set_option maxRecDepth 100000 in
set_option maxHeartbeats 4000000 in
theorem t_X4_veilByTurns_115 {E : kx_E} {d : Nat} {r : Int32} (M : kx_M) (rec : Int32 → Int32 → Int32 → Int32 → Int32 → Bool → Option Int32) (hrec : ∀ (a0 : Int32) (a1 : Int32) (a2 : Int32) (a3 : Int32) (a4 : Int32) (a5 : Bool) (r : Int32), rec a0 a1 a2 a3 a4 a5 = some r → kx_Call E (d + 1) T_X4_veilByTurns [.int a0, .int a1, .int a2, .int a3, .int a4, .int (kx_bi a5)] M (some (.int r)) M) (x0 : Int32) (x1 : Int32) (x2 : Int32) (x3 : Int32) (x4 : Int32) (x5 : Bool) (x6 : Int32) (s0 : Bool) (s1 : Int32) (s2 : Int32) (s3 : Int32) (s4 : Int32) (s5 : Int32) (h : f_X4_veilByTurns_115 rec x0 x1 x2 x3 x4 x5 x6 s0 s1 s2 s3 s4 s5 = some r) : kx_Rn E T_X4_veilByTurns (d + 2) (115, [some (.int x0), some (.int x1), some (.int x2), some (.int x3), some (.int x4), some (.int (kx_bi x5)), some (.int x6), none], [.int (kx_bi s0), .int s1, .int s2, .int s3, .int s4, .int s5], M) (some (.int r)) M := by
  unfold f_X4_veilByTurns_115 at h
  obtain ⟨v1, hv2, h⟩ := kx_bn_some h
  refine kx_r_callS (as := [.int s5, .int s4, .int s3, .int s2, .int s1, .int (kx_bi s0)]) (rest := []) (M1 := M) (rv := some (.int v1)) rfl klk_X4_316 kst_X4_veilByTurns rfl rfl (Nat.le_of_ble_eq_true rfl) (Nat.le_of_ble_eq_true rfl) (hrec s5 s4 s3 s2 s1 s0 v1 hv2) ?_
  show kx_Rn _ _ _ (118, [some (.int x0), some (.int x1), some (.int x2), some (.int x3), some (.int x4), some (.int (kx_bi x5)), some (.int x6), none], [.int v1], M) _ _
  refine kx_go (pc' := 122) (L' := [some (.int x0), some (.int x1), some (.int x2), some (.int x3), some (.int x4), some (.int (kx_bi x5)), some (.int x6), some (.int v1)]) (st' := [.int (kx_bi x5)]) 2 rfl ?_
  refine kx_q_zeq rfl (fun hc3 => ?_) (fun hc3 => ?_)
  · rw [if_neg hc3] at h
    refine kx_go (pc' := 139) (L' := [some (.int x0), some (.int x1), some (.int x2), some (.int x3), some (.int x4), some (.int (kx_bi x5)), some (.int x6), some (.int v1)]) (st' := [.int v1, .int x6]) 2 rfl ?_
    refine kx_q_max rfl kml_X4_254 kst_max kini_math kcd_max (Nat.le_of_ble_eq_true rfl) ?_
    refine kx_go (pc' := 144) (L' := [some (.int x0), some (.int x1), some (.int x2), some (.int x3), some (.int x4), some (.int (kx_bi x5)), some (.int (if x6 < v1 then v1 else x6)), some (.int v1)]) (st' := []) 1 rfl ?_
    refine kx_wk [true, true, true, true, true, true, true, false] ?_
    exact t_X4_veilByTurns_144 M rec hrec x0 x1 x2 x3 x4 x5 (if x6 < v1 then v1 else x6) h
  · rw [if_pos hc3] at h
    refine kx_go (pc' := 129) (L' := [some (.int x0), some (.int x1), some (.int x2), some (.int x3), some (.int x4), some (.int (kx_bi x5)), some (.int x6), some (.int v1)]) (st' := [.int v1, .int x6]) 2 rfl ?_
    refine kx_q_min rfl kml_X4_249 kst_min kini_math kcd_min (Nat.le_of_ble_eq_true rfl) ?_
    refine kx_r_goto rfl ?_
    refine kx_go (pc' := 144) (L' := [some (.int x0), some (.int x1), some (.int x2), some (.int x3), some (.int x4), some (.int (kx_bi x5)), some (.int (if v1 < x6 then v1 else x6)), some (.int v1)]) (st' := []) 1 rfl ?_
    refine kx_wk [true, true, true, true, true, true, true, false] ?_
    exact t_X4_veilByTurns_144 M rec hrec x0 x1 x2 x3 x4 x5 (if v1 < x6 then v1 else x6) h
set_option maxRecDepth 100000 in
set_option maxHeartbeats 4000000 in
theorem t_X4_veilByTurns_86 {E : kx_E} {d : Nat} {r : Int32} (M : kx_M) (rec : Int32 → Int32 → Int32 → Int32 → Int32 → Bool → Option Int32) (hrec : ∀ (a0 : Int32) (a1 : Int32) (a2 : Int32) (a3 : Int32) (a4 : Int32) (a5 : Bool) (r : Int32), rec a0 a1 a2 a3 a4 a5 = some r → kx_Call E (d + 1) T_X4_veilByTurns [.int a0, .int a1, .int a2, .int a3, .int a4, .int (kx_bi a5)] M (some (.int r)) M) (x0 : Int32) (x1 : Int32) (x2 : Int32) (x3 : Int32) (x4 : Int32) (x5 : Bool) (x6 : Int32) (h : f_X4_veilByTurns_86 rec x0 x1 x2 x3 x4 x5 x6 = some r) : kx_Rn E T_X4_veilByTurns (d + 2) (86, [some (.int x0), some (.int x1), some (.int x2), some (.int x3), some (.int x4), some (.int (kx_bi x5)), some (.int x6), none], [], M) (some (.int r)) M := by
  unfold f_X4_veilByTurns_86 at h
  refine kx_go (pc' := 87) (L' := [some (.int x0), some (.int x1), some (.int x2), some (.int x3), some (.int x4), some (.int (kx_bi x5)), some (.int x6), none]) (st' := [.int x2]) 1 rfl ?_
  refine kx_r_if_le rfl (fun hc1 => ?_) (fun hc1 => ?_)
  · rw [if_pos hc1] at h
    refine kx_wk [true, true, true, true, true, true, true, false] ?_
    exact t_X4_veilByTurns_144 M rec hrec x0 x1 x2 x3 x4 x5 x6 h
  · rw [if_neg hc1] at h
    refine kx_go (pc' := 93) (L' := [some (.int x0), some (.int x1), some (.int x2), some (.int x3), some (.int x4), some (.int (kx_bi x5)), some (.int x6), none]) (st' := [.int (x0 - (1 : Int32))]) 3 rfl ?_
    refine kx_r_callS (as := [.int (x0 - (1 : Int32))]) (rest := []) (M1 := M) (rv := some (.int (f_X4_levelOf (x0 - (1 : Int32))))) rfl klk_X4_320 kst_X4_levelOf rfl rfl (Nat.le_of_ble_eq_true rfl) (Nat.le_of_ble_eq_true rfl) (c_X4_levelOf (d := d + 0) (x0 - (1 : Int32)) M (f_X4_levelOf (x0 - (1 : Int32))) rfl) ?_
    show kx_Rn _ _ _ (96, [some (.int x0), some (.int x1), some (.int x2), some (.int x3), some (.int x4), some (.int (kx_bi x5)), some (.int x6), none], [.int (f_X4_levelOf (x0 - (1 : Int32)))], M) _ _
    refine kx_go (pc' := 107) (L' := [some (.int x0), some (.int x1), some (.int x2), some (.int x3), some (.int x4), some (.int (kx_bi x5)), some (.int x6), none]) (st' := [.int (kx_bi x5), .int (x4 - (1 : Int32)), .int x3, .int (x2 - (1 : Int32)), .int x1, .int (f_X4_levelOf (x0 - (1 : Int32)))]) 9 rfl ?_
    refine kx_q_zne rfl (fun hc2 => ?_) (fun hc2 => ?_)
    · rw [if_pos hc2] at h
      refine kx_go (pc' := 115) (L' := [some (.int x0), some (.int x1), some (.int x2), some (.int x3), some (.int x4), some (.int (kx_bi x5)), some (.int x6), none]) (st' := [.int (0 : Int32), .int (x4 - (1 : Int32)), .int x3, .int (x2 - (1 : Int32)), .int x1, .int (f_X4_levelOf (x0 - (1 : Int32)))]) 1 rfl ?_
      refine kx_wk [true, true, true, true, true, true, true, false] ?_
      exact t_X4_veilByTurns_115 M rec hrec x0 x1 x2 x3 x4 x5 x6 false (x4 - (1 : Int32)) x3 (x2 - (1 : Int32)) x1 (f_X4_levelOf (x0 - (1 : Int32))) h
    · rw [if_neg hc2] at h
      refine kx_go (pc' := 111) (L' := [some (.int x0), some (.int x1), some (.int x2), some (.int x3), some (.int x4), some (.int (kx_bi x5)), some (.int x6), none]) (st' := [.int (1 : Int32), .int (x4 - (1 : Int32)), .int x3, .int (x2 - (1 : Int32)), .int x1, .int (f_X4_levelOf (x0 - (1 : Int32)))]) 1 rfl ?_
      refine kx_r_goto rfl ?_
      refine kx_wk [true, true, true, true, true, true, true, false] ?_
      exact t_X4_veilByTurns_115 M rec hrec x0 x1 x2 x3 x4 x5 x6 true (x4 - (1 : Int32)) x3 (x2 - (1 : Int32)) x1 (f_X4_levelOf (x0 - (1 : Int32))) h
set_option maxRecDepth 100000 in
set_option maxHeartbeats 4000000 in
theorem t_X4_veilByTurns_57 {E : kx_E} {d : Nat} {r : Int32} (M : kx_M) (rec : Int32 → Int32 → Int32 → Int32 → Int32 → Bool → Option Int32) (hrec : ∀ (a0 : Int32) (a1 : Int32) (a2 : Int32) (a3 : Int32) (a4 : Int32) (a5 : Bool) (r : Int32), rec a0 a1 a2 a3 a4 a5 = some r → kx_Call E (d + 1) T_X4_veilByTurns [.int a0, .int a1, .int a2, .int a3, .int a4, .int (kx_bi a5)] M (some (.int r)) M) (x0 : Int32) (x1 : Int32) (x2 : Int32) (x3 : Int32) (x4 : Int32) (x5 : Bool) (x6 : Int32) (s0 : Bool) (s1 : Int32) (s2 : Int32) (s3 : Int32) (s4 : Int32) (s5 : Int32) (h : f_X4_veilByTurns_57 rec x0 x1 x2 x3 x4 x5 x6 s0 s1 s2 s3 s4 s5 = some r) : kx_Rn E T_X4_veilByTurns (d + 2) (57, [some (.int x0), some (.int x1), some (.int x2), some (.int x3), some (.int x4), some (.int (kx_bi x5)), some (.int x6), none], [.int (kx_bi s0), .int s1, .int s2, .int s3, .int s4, .int s5], M) (some (.int r)) M := by
  unfold f_X4_veilByTurns_57 at h
  obtain ⟨v1, hv2, h⟩ := kx_bn_some h
  refine kx_r_callS (as := [.int s5, .int s4, .int s3, .int s2, .int s1, .int (kx_bi s0)]) (rest := []) (M1 := M) (rv := some (.int v1)) rfl klk_X4_316 kst_X4_veilByTurns rfl rfl (Nat.le_of_ble_eq_true rfl) (Nat.le_of_ble_eq_true rfl) (hrec s5 s4 s3 s2 s1 s0 v1 hv2) ?_
  show kx_Rn _ _ _ (60, [some (.int x0), some (.int x1), some (.int x2), some (.int x3), some (.int x4), some (.int (kx_bi x5)), some (.int x6), none], [.int v1], M) _ _
  refine kx_go (pc' := 64) (L' := [some (.int x0), some (.int x1), some (.int x2), some (.int x3), some (.int x4), some (.int (kx_bi x5)), some (.int x6), some (.int v1)]) (st' := [.int (kx_bi x5)]) 2 rfl ?_
  refine kx_q_zeq rfl (fun hc3 => ?_) (fun hc3 => ?_)
  · rw [if_neg hc3] at h
    refine kx_go (pc' := 81) (L' := [some (.int x0), some (.int x1), some (.int x2), some (.int x3), some (.int x4), some (.int (kx_bi x5)), some (.int x6), some (.int v1)]) (st' := [.int v1, .int x6]) 2 rfl ?_
    refine kx_q_max rfl kml_X4_254 kst_max kini_math kcd_max (Nat.le_of_ble_eq_true rfl) ?_
    refine kx_go (pc' := 86) (L' := [some (.int x0), some (.int x1), some (.int x2), some (.int x3), some (.int x4), some (.int (kx_bi x5)), some (.int (if x6 < v1 then v1 else x6)), some (.int v1)]) (st' := []) 1 rfl ?_
    refine kx_wk [true, true, true, true, true, true, true, false] ?_
    exact t_X4_veilByTurns_86 M rec hrec x0 x1 x2 x3 x4 x5 (if x6 < v1 then v1 else x6) h
  · rw [if_pos hc3] at h
    refine kx_go (pc' := 71) (L' := [some (.int x0), some (.int x1), some (.int x2), some (.int x3), some (.int x4), some (.int (kx_bi x5)), some (.int x6), some (.int v1)]) (st' := [.int v1, .int x6]) 2 rfl ?_
    refine kx_q_min rfl kml_X4_249 kst_min kini_math kcd_min (Nat.le_of_ble_eq_true rfl) ?_
    refine kx_r_goto rfl ?_
    refine kx_go (pc' := 86) (L' := [some (.int x0), some (.int x1), some (.int x2), some (.int x3), some (.int x4), some (.int (kx_bi x5)), some (.int (if v1 < x6 then v1 else x6)), some (.int v1)]) (st' := []) 1 rfl ?_
    refine kx_wk [true, true, true, true, true, true, true, false] ?_
    exact t_X4_veilByTurns_86 M rec hrec x0 x1 x2 x3 x4 x5 (if v1 < x6 then v1 else x6) h
set_option maxRecDepth 100000 in
set_option maxHeartbeats 4000000 in
theorem t_X4_veilByTurns_26 {E : kx_E} {d : Nat} {r : Int32} (M : kx_M) (rec : Int32 → Int32 → Int32 → Int32 → Int32 → Bool → Option Int32) (hrec : ∀ (a0 : Int32) (a1 : Int32) (a2 : Int32) (a3 : Int32) (a4 : Int32) (a5 : Bool) (r : Int32), rec a0 a1 a2 a3 a4 a5 = some r → kx_Call E (d + 1) T_X4_veilByTurns [.int a0, .int a1, .int a2, .int a3, .int a4, .int (kx_bi a5)] M (some (.int r)) M) (x0 : Int32) (x1 : Int32) (x2 : Int32) (x3 : Int32) (x4 : Int32) (x5 : Bool) (s0 : Int32) (h : f_X4_veilByTurns_26 rec x0 x1 x2 x3 x4 x5 s0 = some r) : kx_Rn E T_X4_veilByTurns (d + 2) (26, [some (.int x0), some (.int x1), some (.int x2), some (.int x3), some (.int x4), some (.int (kx_bi x5)), none, none], [.int s0], M) (some (.int r)) M := by
  unfold f_X4_veilByTurns_26 at h
  refine kx_go (pc' := 29) (L' := [some (.int x0), some (.int x1), some (.int x2), some (.int x3), some (.int x4), some (.int (kx_bi x5)), some (.int s0), none]) (st' := [.int x1]) 2 rfl ?_
  refine kx_r_if_le rfl (fun hc1 => ?_) (fun hc1 => ?_)
  · rw [if_pos hc1] at h
    refine kx_wk [true, true, true, true, true, true, true, false] ?_
    exact t_X4_veilByTurns_86 M rec hrec x0 x1 x2 x3 x4 x5 s0 h
  · rw [if_neg hc1] at h
    refine kx_go (pc' := 35) (L' := [some (.int x0), some (.int x1), some (.int x2), some (.int x3), some (.int x4), some (.int (kx_bi x5)), some (.int s0), none]) (st' := [.int (x0 + (1 : Int32))]) 3 rfl ?_
    refine kx_r_callS (as := [.int (x0 + (1 : Int32))]) (rest := []) (M1 := M) (rv := some (.int (f_X4_levelOf (x0 + (1 : Int32))))) rfl klk_X4_320 kst_X4_levelOf rfl rfl (Nat.le_of_ble_eq_true rfl) (Nat.le_of_ble_eq_true rfl) (c_X4_levelOf (d := d + 0) (x0 + (1 : Int32)) M (f_X4_levelOf (x0 + (1 : Int32))) rfl) ?_
    show kx_Rn _ _ _ (38, [some (.int x0), some (.int x1), some (.int x2), some (.int x3), some (.int x4), some (.int (kx_bi x5)), some (.int s0), none], [.int (f_X4_levelOf (x0 + (1 : Int32)))], M) _ _
    refine kx_go (pc' := 49) (L' := [some (.int x0), some (.int x1), some (.int x2), some (.int x3), some (.int x4), some (.int (kx_bi x5)), some (.int s0), none]) (st' := [.int (kx_bi x5), .int (x4 - (1 : Int32)), .int x3, .int x2, .int (x1 - (1 : Int32)), .int (f_X4_levelOf (x0 + (1 : Int32)))]) 9 rfl ?_
    refine kx_q_zne rfl (fun hc2 => ?_) (fun hc2 => ?_)
    · rw [if_pos hc2] at h
      refine kx_go (pc' := 57) (L' := [some (.int x0), some (.int x1), some (.int x2), some (.int x3), some (.int x4), some (.int (kx_bi x5)), some (.int s0), none]) (st' := [.int (0 : Int32), .int (x4 - (1 : Int32)), .int x3, .int x2, .int (x1 - (1 : Int32)), .int (f_X4_levelOf (x0 + (1 : Int32)))]) 1 rfl ?_
      refine kx_wk [true, true, true, true, true, true, true, false] ?_
      exact t_X4_veilByTurns_57 M rec hrec x0 x1 x2 x3 x4 x5 s0 false (x4 - (1 : Int32)) x3 x2 (x1 - (1 : Int32)) (f_X4_levelOf (x0 + (1 : Int32))) h
    · rw [if_neg hc2] at h
      refine kx_go (pc' := 53) (L' := [some (.int x0), some (.int x1), some (.int x2), some (.int x3), some (.int x4), some (.int (kx_bi x5)), some (.int s0), none]) (st' := [.int (1 : Int32), .int (x4 - (1 : Int32)), .int x3, .int x2, .int (x1 - (1 : Int32)), .int (f_X4_levelOf (x0 + (1 : Int32)))]) 1 rfl ?_
      refine kx_r_goto rfl ?_
      refine kx_wk [true, true, true, true, true, true, true, false] ?_
      exact t_X4_veilByTurns_57 M rec hrec x0 x1 x2 x3 x4 x5 s0 true (x4 - (1 : Int32)) x3 x2 (x1 - (1 : Int32)) (f_X4_levelOf (x0 + (1 : Int32))) h
set_option maxRecDepth 100000 in
set_option maxHeartbeats 4000000 in
theorem t_X4_veilByTurns {E : kx_E} {d : Nat} {r : Int32} (M : kx_M) (rec : Int32 → Int32 → Int32 → Int32 → Int32 → Bool → Option Int32) (hrec : ∀ (a0 : Int32) (a1 : Int32) (a2 : Int32) (a3 : Int32) (a4 : Int32) (a5 : Bool) (r : Int32), rec a0 a1 a2 a3 a4 a5 = some r → kx_Call E (d + 1) T_X4_veilByTurns [.int a0, .int a1, .int a2, .int a3, .int a4, .int (kx_bi a5)] M (some (.int r)) M) (a0 : Int32) (a1 : Int32) (a2 : Int32) (a3 : Int32) (a4 : Int32) (a5 : Bool) (h : f_X4_veilByTurns_b rec a0 a1 a2 a3 a4 a5 = some r) : kx_Rn E T_X4_veilByTurns (d + 2) (0, [some (.int a0), some (.int a1), some (.int a2), some (.int a3), some (.int a4), some (.int (kx_bi a5)), none, none], [], M) (some (.int r)) M := by
  unfold f_X4_veilByTurns_b at h
  refine kx_go (pc' := 2) (L' := [some (.int a0), some (.int a1), some (.int a2), some (.int a3), some (.int a4), some (.int (kx_bi a5)), none, none]) (st' := [.int a4]) 1 rfl ?_
  refine kx_r_if_le rfl (fun hc1 => ?_) (fun hc1 => ?_)
  · rw [if_pos hc1] at h
    refine kx_go (pc' := 14) (L' := [some (.int a0), some (.int a1), some (.int a2), some (.int a3), some (.int a4), some (.int (kx_bi a5)), none, none]) (st' := [.int a0]) 1 rfl ?_
    cases h
    exact kx_r_iret rfl rfl
  · rw [if_neg hc1] at h
    refine kx_go (pc' := 10) (L' := [some (.int a0), some (.int a1), some (.int a2), some (.int a3), some (.int a4), some (.int (kx_bi a5)), none, none]) (st' := [.int ((a1 + a2) + a3)]) 5 rfl ?_
    refine kx_r_if_gt rfl (fun hc2 => ?_) (fun hc2 => ?_)
    · rw [if_pos hc2] at h
      refine kx_go (pc' := 17) (L' := [some (.int a0), some (.int a1), some (.int a2), some (.int a3), some (.int a4), some (.int (kx_bi a5)), none, none]) (st' := [.int (kx_bi a5)]) 1 rfl ?_
      refine kx_q_zeq rfl (fun hc3 => ?_) (fun hc3 => ?_)
      · rw [if_neg hc3] at h
        refine kx_go (pc' := 26) (L' := [some (.int a0), some (.int a1), some (.int a2), some (.int a3), some (.int a4), some (.int (kx_bi a5)), none, none]) (st' := [.int (-1 : Int32)]) 1 rfl ?_
        refine kx_wk [true, true, true, true, true, true, false, false] ?_
        exact t_X4_veilByTurns_26 M rec hrec a0 a1 a2 a3 a4 a5 (-1 : Int32) h
      · rw [if_pos hc3] at h
        refine kx_go (pc' := 22) (L' := [some (.int a0), some (.int a1), some (.int a2), some (.int a3), some (.int a4), some (.int (kx_bi a5)), none, none]) (st' := [.int (21 : Int32)]) 1 rfl ?_
        refine kx_r_goto rfl ?_
        refine kx_wk [true, true, true, true, true, true, false, false] ?_
        exact t_X4_veilByTurns_26 M rec hrec a0 a1 a2 a3 a4 a5 (21 : Int32) h
    · rw [if_neg hc2] at h
      refine kx_go (pc' := 14) (L' := [some (.int a0), some (.int a1), some (.int a2), some (.int a3), some (.int a4), some (.int (kx_bi a5)), none, none]) (st' := [.int a0]) 1 rfl ?_
      cases h
      exact kx_r_iret rfl rfl
theorem cr_X4_veilByTurns {E : kx_E} {d : Nat} : ∀ (n : Nat) (a0 : Int32) (a1 : Int32) (a2 : Int32) (a3 : Int32) (a4 : Int32) (a5 : Bool) (M : kx_M) (r : Int32), f_X4_veilByTurns n a0 a1 a2 a3 a4 a5 = some r → kx_Call E (d + n + 1) T_X4_veilByTurns [.int a0, .int a1, .int a2, .int a3, .int a4, .int (kx_bi a5)] M (some (.int r)) M := by
  intro n
  induction n with
  | zero =>
    intro a0 a1 a2 a3 a4 a5 M r h
    cases (show (none : Option Int32) = some _ from h)
  | succ n ih =>
    intro a0 a1 a2 a3 a4 a5 M r h
    rw [f_X4_veilByTurns.eq_2] at h
    rw [show d + (n + 1) + 1 = d + n + 2 by omega]
    exact kx_entry kok_X4_veilByTurns (Nat.le_of_ble_eq_true rfl) rfl (t_X4_veilByTurns (d := d + n) M _ (fun a0 a1 a2 a3 a4 a5 r h => ih a0 a1 a2 a3 a4 a5 M r h) a0 a1 a2 a3 a4 a5 h)
theorem c_X4_veilByTurns {E : kx_E} {d : Nat} (a0 : Int32) (a1 : Int32) (a2 : Int32) (a3 : Int32) (a4 : Int32) (a5 : Bool) (M : kx_M) (r : Int32) (h : f_X4_veilByTurns 8 a0 a1 a2 a3 a4 a5 = some r) : kx_Call E (d + 9) T_X4_veilByTurns [.int a0, .int a1, .int a2, .int a3, .int a4, .int (kx_bi a5)] M (some (.int r)) M := cr_X4_veilByTurns (d := d) 8 a0 a1 a2 a3 a4 a5 M r h
set_option maxRecDepth 100000 in
set_option maxHeartbeats 4000000 in
theorem t_X4_veilIfFirst {d : Nat} {r : Int32} (M : kx_M) (a0 : Int32) (a1 : Int32) (h : f_X4_veilIfFirst M a0 a1 = some r) : kx_Rn EX T_X4_veilIfFirst (d + 10) (0, [some (.ref 0), some (.int a0), some (.int a1), none, none, none, none], [], M) (some (.int r)) M := by
  unfold f_X4_veilIfFirst at h
  refine kx_go (pc' := 5) (L' := [some (.ref 0), some (.int a0), some (.int a1), some (.int ((1 : Int32) <<< (a0 &&& 31))), none, none, none]) (st' := [.ref 0]) 5 rfl ?_
  refine kx_q_getR (k := 0) (j := 1) kxo_0 rfl kfl_X4_10 rfl ?_
  refine kx_q_getI (k := 12) kxl_1.1 rfl kfl_X4_310 rfl ?_
  refine kx_go (pc' := 15) (L' := [some (.ref 0), some (.int a0), some (.int a1), some (.int ((1 : Int32) <<< (a0 &&& 31))), none, none, none]) (st' := [.int ((M.1 1 12) &&& (((1 : Int32) <<< (a0 &&& 31)) ^^^ (-1 : Int32)))]) 4 rfl ?_
  refine kx_r_callS (as := [.int ((M.1 1 12) &&& (((1 : Int32) <<< (a0 &&& 31)) ^^^ (-1 : Int32)))]) (rest := []) (M1 := M) (rv := some (.int (f_J6_bitCount_0f7a4 ((M.1 1 12) &&& (((1 : Int32) <<< (a0 &&& 31)) ^^^ (-1 : Int32)))))) rfl klk_X4_186 kst_J6_bitCount_0f7a4 rfl rfl (Nat.le_of_ble_eq_true rfl) (Nat.le_of_ble_eq_true rfl) (c_J6_bitCount_0f7a4 (d := d + 9) ((M.1 1 12) &&& (((1 : Int32) <<< (a0 &&& 31)) ^^^ (-1 : Int32))) M (f_J6_bitCount_0f7a4 ((M.1 1 12) &&& (((1 : Int32) <<< (a0 &&& 31)) ^^^ (-1 : Int32)))) rfl) ?_
  show kx_Rn _ _ _ (18, [some (.ref 0), some (.int a0), some (.int a1), some (.int ((1 : Int32) <<< (a0 &&& 31))), none, none, none], [.int (f_J6_bitCount_0f7a4 ((M.1 1 12) &&& (((1 : Int32) <<< (a0 &&& 31)) ^^^ (-1 : Int32))))], M) _ _
  refine kx_go (pc' := 21) (L' := [some (.ref 0), some (.int a0), some (.int a1), some (.int ((1 : Int32) <<< (a0 &&& 31))), some (.int (f_J6_bitCount_0f7a4 ((M.1 1 12) &&& (((1 : Int32) <<< (a0 &&& 31)) ^^^ (-1 : Int32))))), none, none]) (st' := [.ref 0]) 2 rfl ?_
  refine kx_q_getR (k := 0) (j := 1) kxo_0 rfl kfl_X4_10 rfl ?_
  refine kx_q_getI (k := 13) kxl_1.1 rfl kfl_X4_313 rfl ?_
  refine kx_go (pc' := 31) (L' := [some (.ref 0), some (.int a0), some (.int a1), some (.int ((1 : Int32) <<< (a0 &&& 31))), some (.int (f_J6_bitCount_0f7a4 ((M.1 1 12) &&& (((1 : Int32) <<< (a0 &&& 31)) ^^^ (-1 : Int32))))), none, none]) (st' := [.int ((M.1 1 13) &&& (((1 : Int32) <<< (a0 &&& 31)) ^^^ (-1 : Int32)))]) 4 rfl ?_
  refine kx_r_callS (as := [.int ((M.1 1 13) &&& (((1 : Int32) <<< (a0 &&& 31)) ^^^ (-1 : Int32)))]) (rest := []) (M1 := M) (rv := some (.int (f_J6_bitCount_0f7a4 ((M.1 1 13) &&& (((1 : Int32) <<< (a0 &&& 31)) ^^^ (-1 : Int32)))))) rfl klk_X4_186 kst_J6_bitCount_0f7a4 rfl rfl (Nat.le_of_ble_eq_true rfl) (Nat.le_of_ble_eq_true rfl) (c_J6_bitCount_0f7a4 (d := d + 9) ((M.1 1 13) &&& (((1 : Int32) <<< (a0 &&& 31)) ^^^ (-1 : Int32))) M (f_J6_bitCount_0f7a4 ((M.1 1 13) &&& (((1 : Int32) <<< (a0 &&& 31)) ^^^ (-1 : Int32)))) rfl) ?_
  show kx_Rn _ _ _ (34, [some (.ref 0), some (.int a0), some (.int a1), some (.int ((1 : Int32) <<< (a0 &&& 31))), some (.int (f_J6_bitCount_0f7a4 ((M.1 1 12) &&& (((1 : Int32) <<< (a0 &&& 31)) ^^^ (-1 : Int32))))), none, none], [.int (f_J6_bitCount_0f7a4 ((M.1 1 13) &&& (((1 : Int32) <<< (a0 &&& 31)) ^^^ (-1 : Int32))))], M) _ _
  refine kx_go (pc' := 37) (L' := [some (.ref 0), some (.int a0), some (.int a1), some (.int ((1 : Int32) <<< (a0 &&& 31))), some (.int (f_J6_bitCount_0f7a4 ((M.1 1 12) &&& (((1 : Int32) <<< (a0 &&& 31)) ^^^ (-1 : Int32))))), some (.int (f_J6_bitCount_0f7a4 ((M.1 1 13) &&& (((1 : Int32) <<< (a0 &&& 31)) ^^^ (-1 : Int32))))), none]) (st' := [.ref 0]) 2 rfl ?_
  refine kx_q_getR (k := 0) (j := 1) kxo_0 rfl kfl_X4_10 rfl ?_
  refine kx_q_getI (k := 11) kxl_1.1 rfl kfl_X4_146 rfl ?_
  refine kx_go (pc' := 53) (L' := [some (.ref 0), some (.int a0), some (.int a1), some (.int ((1 : Int32) <<< (a0 &&& 31))), some (.int (f_J6_bitCount_0f7a4 ((M.1 1 12) &&& (((1 : Int32) <<< (a0 &&& 31)) ^^^ (-1 : Int32))))), some (.int (f_J6_bitCount_0f7a4 ((M.1 1 13) &&& (((1 : Int32) <<< (a0 &&& 31)) ^^^ (-1 : Int32))))), some (.int ((((M.1 1 11) - (1 : Int32)) - (f_J6_bitCount_0f7a4 ((M.1 1 12) &&& (((1 : Int32) <<< (a0 &&& 31)) ^^^ (-1 : Int32))))) - (f_J6_bitCount_0f7a4 ((M.1 1 13) &&& (((1 : Int32) <<< (a0 &&& 31)) ^^^ (-1 : Int32))))))]) (st' := []) 7 rfl ?_
  obtain ⟨y1, hy1, h⟩ := kx_lt_ex h
  rw [← hy1]
  refine kx_go (pc' := 54) (L' := [some (.ref 0), some (.int a0), some (.int a1), some (.int ((1 : Int32) <<< (a0 &&& 31))), some (.int (f_J6_bitCount_0f7a4 ((M.1 1 12) &&& (((1 : Int32) <<< (a0 &&& 31)) ^^^ (-1 : Int32))))), some (.int (f_J6_bitCount_0f7a4 ((M.1 1 13) &&& (((1 : Int32) <<< (a0 &&& 31)) ^^^ (-1 : Int32))))), some (.int y1)]) (st' := [.ref 0]) 1 rfl ?_
  refine kx_q_getR (k := 0) (j := 1) kxo_0 rfl kfl_X4_10 rfl ?_
  refine kx_go (pc' := 59) (L' := [some (.ref 0), some (.int a0), some (.int a1), some (.int ((1 : Int32) <<< (a0 &&& 31))), some (.int (f_J6_bitCount_0f7a4 ((M.1 1 12) &&& (((1 : Int32) <<< (a0 &&& 31)) ^^^ (-1 : Int32))))), some (.int (f_J6_bitCount_0f7a4 ((M.1 1 13) &&& (((1 : Int32) <<< (a0 &&& 31)) ^^^ (-1 : Int32))))), some (.int y1)]) (st' := [.ref 0, .int ((1 : Int32) <<< (a0 &&& 31)), .ref 1]) 2 rfl ?_
  refine kx_q_getR (k := 0) (j := 1) kxo_0 rfl kfl_X4_10 rfl ?_
  refine kx_q_getI (k := 8) kxl_1.1 rfl kfl_X4_122 rfl ?_
  refine kx_q_callV (as := [.int ((1 : Int32) <<< (a0 &&& 31)), .int (M.1 1 8)]) (rest := []) (M1 := M) (rv := some (.int (f_X0_veilBehind 1 M ((1 : Int32) <<< (a0 &&& 31)) (M.1 1 8)))) kxl_1.1 rfl klk_X4_212 kse_X0_veilBehind rfl rfl rfl rfl (Nat.le_of_ble_eq_true rfl) (Nat.le_of_ble_eq_true rfl) (c_X0_veilBehind (d := d + 7) 1 (kxl_1) ((1 : Int32) <<< (a0 &&& 31)) (M.1 1 8) M (f_X0_veilBehind 1 M ((1 : Int32) <<< (a0 &&& 31)) (M.1 1 8)) rfl) ?_
  show kx_Rn _ _ _ (68, [some (.ref 0), some (.int a0), some (.int a1), some (.int ((1 : Int32) <<< (a0 &&& 31))), some (.int (f_J6_bitCount_0f7a4 ((M.1 1 12) &&& (((1 : Int32) <<< (a0 &&& 31)) ^^^ (-1 : Int32))))), some (.int (f_J6_bitCount_0f7a4 ((M.1 1 13) &&& (((1 : Int32) <<< (a0 &&& 31)) ^^^ (-1 : Int32))))), some (.int y1)], [.int (f_X0_veilBehind 1 M ((1 : Int32) <<< (a0 &&& 31)) (M.1 1 8))], M) _ _
  refine kx_go (pc' := 78) (L' := [some (.ref 0), some (.int a0), some (.int a1), some (.int ((1 : Int32) <<< (a0 &&& 31))), some (.int (f_J6_bitCount_0f7a4 ((M.1 1 12) &&& (((1 : Int32) <<< (a0 &&& 31)) ^^^ (-1 : Int32))))), some (.int (f_J6_bitCount_0f7a4 ((M.1 1 13) &&& (((1 : Int32) <<< (a0 &&& 31)) ^^^ (-1 : Int32))))), some (.int y1)]) (st' := [.int (0 : Int32), .int (a1 - (1 : Int32)), .int y1, .int (f_J6_bitCount_0f7a4 ((M.1 1 13) &&& (((1 : Int32) <<< (a0 &&& 31)) ^^^ (-1 : Int32)))), .int (f_J6_bitCount_0f7a4 ((M.1 1 12) &&& (((1 : Int32) <<< (a0 &&& 31)) ^^^ (-1 : Int32)))), .int (f_X0_veilBehind 1 M ((1 : Int32) <<< (a0 &&& 31)) (M.1 1 8))]) 7 rfl ?_
  obtain ⟨v2, hv3, h⟩ := kx_bn_some h
  refine kx_r_callS (as := [.int (f_X0_veilBehind 1 M ((1 : Int32) <<< (a0 &&& 31)) (M.1 1 8)), .int (f_J6_bitCount_0f7a4 ((M.1 1 12) &&& (((1 : Int32) <<< (a0 &&& 31)) ^^^ (-1 : Int32)))), .int (f_J6_bitCount_0f7a4 ((M.1 1 13) &&& (((1 : Int32) <<< (a0 &&& 31)) ^^^ (-1 : Int32)))), .int y1, .int (a1 - (1 : Int32)), .int (kx_bi false)]) (rest := []) (M1 := M) (rv := some (.int v2)) rfl klk_X4_316 kst_X4_veilByTurns rfl rfl (Nat.le_of_ble_eq_true rfl) (Nat.le_of_ble_eq_true rfl) (c_X4_veilByTurns (d := d + 0) (f_X0_veilBehind 1 M ((1 : Int32) <<< (a0 &&& 31)) (M.1 1 8)) (f_J6_bitCount_0f7a4 ((M.1 1 12) &&& (((1 : Int32) <<< (a0 &&& 31)) ^^^ (-1 : Int32)))) (f_J6_bitCount_0f7a4 ((M.1 1 13) &&& (((1 : Int32) <<< (a0 &&& 31)) ^^^ (-1 : Int32)))) y1 (a1 - (1 : Int32)) false M v2 hv3) ?_
  show kx_Rn _ _ _ (81, [some (.ref 0), some (.int a0), some (.int a1), some (.int ((1 : Int32) <<< (a0 &&& 31))), some (.int (f_J6_bitCount_0f7a4 ((M.1 1 12) &&& (((1 : Int32) <<< (a0 &&& 31)) ^^^ (-1 : Int32))))), some (.int (f_J6_bitCount_0f7a4 ((M.1 1 13) &&& (((1 : Int32) <<< (a0 &&& 31)) ^^^ (-1 : Int32))))), some (.int y1)], [.int v2], M) _ _
  cases h
  exact kx_r_iret rfl rfl
theorem c_X4_veilIfFirst {d : Nat} (a0 : Int32) (a1 : Int32) (M : kx_M) (r : Int32) (h : f_X4_veilIfFirst M a0 a1 = some r) : kx_Call EX (d + 10) T_X4_veilIfFirst [.ref 0, .int a0, .int a1] M (some (.int r)) M := kx_entry kok_X4_veilIfFirst (Nat.le_of_ble_eq_true rfl) rfl (t_X4_veilIfFirst (d := d) M a0 a1 h)
set_option maxRecDepth 100000 in
set_option maxHeartbeats 4000000 in
theorem t_X4_lift_77 {d : Nat} {r : Int32} {M' : kx_M} (x2 : Int32) (x3 : Int32) (x4 : Int32) (M : kx_M) (h : f_X4_lift_77 x2 x3 x4 M = some (r, M')) : kx_Rn EX T_X4_lift (d + 11) (77, [some (.ref 0), none, some (.int x2), some (.int x3), some (.int x4), none, none], [], M) (some (.int r)) M' := by
  unfold f_X4_lift_77 at h
  refine kx_go (pc' := 79) (L' := [some (.ref 0), none, some (.int x2), some (.int x3), some (.int x4), none, none]) (st' := [.int (1 : Int32), .int x2]) 2 rfl ?_
  refine kx_r_icmp_ne rfl (fun hc1 => ?_) (fun hc1 => ?_)
  · rw [if_neg hc1] at h
    refine kx_go (pc' := 86) (L' := [some (.ref 0), none, some (.int x2), some (.int x3), some (.int x4), none, none]) (st' := [.int (-1 : Int32), .int x3]) 2 rfl ?_
    refine kx_r_icmp_ne rfl (fun hc2 => ?_) (fun hc2 => ?_)
    · rw [if_neg hc2] at h
      refine kx_go (pc' := 101) (L' := [some (.ref 0), none, some (.int x2), some (.int x3), some (.int x4), none, none]) (st' := [.int x4]) 1 rfl ?_
      cases h
      exact kx_r_iret rfl rfl
    · rw [if_pos hc2] at h
      refine kx_go (pc' := 90) (L' := [some (.ref 0), none, some (.int x2), some (.int x3), some (.int x4), none, none]) (st' := [.ref 0]) 1 rfl ?_
      refine kx_q_getR (k := 0) (j := 1) kxo_0 rfl kfl_X4_10 rfl ?_
      refine kx_q_getI (k := 8) kxl_1.1 rfl kfl_X4_122 rfl ?_
      refine kx_r_goto rfl ?_
      cases h
      exact kx_r_iret rfl rfl
  · rw [if_pos hc1] at h
    refine kx_go (pc' := 83) (L' := [some (.ref 0), none, some (.int x2), some (.int x3), some (.int x4), none, none]) (st' := [.int x3]) 1 rfl ?_
    cases h
    exact kx_r_iret rfl rfl
set_option maxRecDepth 100000 in
set_option maxHeartbeats 4000000 in
theorem t_X4_lift_32 {d : Nat} {r : Int32} {M' : kx_M} : ∀ (n : Nat) (x1 : Int32) (x2 : Int32) (x3 : Int32) (x4 : Int32) (x5 : Int32) (M : kx_M), f_X4_lift_32 n x1 x2 x3 x4 x5 M = some (r, M') → kx_Rn EX T_X4_lift (d + 11) (32, [some (.ref 0), some (.int x1), some (.int x2), some (.int x3), some (.int x4), some (.int x5), none], [], M) (some (.int r)) M' := by
  intro n
  induction n with
  | zero =>
    intro x1 x2 x3 x4 x5 M h
    cases (show (none : Option (Int32 × kx_M)) = some _ from h)
  | succ n ih =>
    intro x1 x2 x3 x4 x5 M h
    rw [f_X4_lift_32.eq_2] at h
    refine kx_go (pc' := 35) (L' := [some (.ref 0), some (.int x1), some (.int x2), some (.int x3), some (.int x4), some (.int x5), none]) (st' := [.ref 0, .int x5]) 2 rfl ?_
    refine kx_q_getR (k := 0) (j := 1) kxo_0 rfl kfl_X4_10 rfl ?_
    refine kx_q_getI (k := 11) kxl_1.1 rfl kfl_X4_146 rfl ?_
    refine kx_r_icmp_ge rfl (fun hc1 => ?_) (fun hc1 => ?_)
    · rw [if_pos hc1] at h
      refine kx_wk [true, false, true, true, true, false, false] ?_
      exact t_X4_lift_77 x2 x3 x4 M h
    · rw [if_neg hc1] at h
      refine kx_go (pc' := 45) (L' := [some (.ref 0), some (.int x1), some (.int x2), some (.int x3), some (.int x4), some (.int x5), none]) (st' := [.int x1]) 1 rfl ?_
      refine kx_r_if_le rfl (fun hc2 => ?_) (fun hc2 => ?_)
      · rw [if_pos hc2] at h
        refine kx_wk [true, false, true, true, true, false, false] ?_
        exact t_X4_lift_77 x2 x3 x4 M h
      · rw [if_neg hc2] at h
        refine kx_go (pc' := 52) (L' := [some (.ref 0), some (.int x1), some (.int x2), some (.int x3), some (.int x4), some (.int x5), none]) (st' := [.int x1, .int x5, .ref 0]) 3 rfl ?_
        obtain ⟨v3, hv4, h⟩ := kx_bn_some h
        refine kx_q_callV (as := [.int x5, .int x1]) (rest := []) (M1 := M) (rv := some (.int v3)) kxo_0 rfl klk_X4_271 kse_X4_veilIfFirst rfl rfl rfl rfl (Nat.le_of_ble_eq_true rfl) (Nat.le_of_ble_eq_true rfl) (c_X4_veilIfFirst (d := d + 0) x5 x1 M v3 hv4) ?_
        show kx_Rn _ _ _ (55, [some (.ref 0), some (.int x1), some (.int x2), some (.int x3), some (.int x4), some (.int x5), none], [.int v3], M) _ _
        refine kx_go (pc' := 61) (L' := [some (.ref 0), some (.int x1), some (.int x2), some (.int x3), some (.int x4), some (.int x5), some (.int v3)]) (st' := [.int x4, .int v3]) 3 rfl ?_
        refine kx_r_icmp_ge rfl (fun hc5 => ?_) (fun hc5 => ?_)
        · rw [if_pos hc5] at h
          refine kx_go (pc' := 74) (L' := [some (.ref 0), some (.int x1), some (.int x2), some (.int x3), some (.int x4), some (.int (x5 + (1))), some (.int v3)]) (st' := []) 1 rfl ?_
          refine kx_r_goto rfl ?_
          refine kx_wk [true, true, true, true, true, true, false] ?_
          exact ih x1 x2 x3 x4 (x5 + (1)) M h
        · rw [if_neg hc5] at h
          refine kx_go (pc' := 74) (L' := [some (.ref 0), some (.int x1), some (.int x2), some (.int x5), some (.int v3), some (.int (x5 + (1))), some (.int v3)]) (st' := []) 5 rfl ?_
          refine kx_r_goto rfl ?_
          refine kx_wk [true, true, true, true, true, true, false] ?_
          exact ih x1 x2 x5 v3 (x5 + (1)) M h
set_option maxRecDepth 100000 in
set_option maxHeartbeats 4000000 in
theorem t_X4_lift {d : Nat} {r : Int32} {M' : kx_M} (a0 : Int32) (a1 : Int32) (M : kx_M) (h : f_X4_lift a0 a1 M = some (r, M')) : kx_Rn EX T_X4_lift (d + 11) (0, [some (.ref 0), some (.int a0), some (.int a1), none, none, none, none], [], M) (some (.int r)) M' := by
  unfold f_X4_lift at h
  refine kx_go (pc' := 3) (L' := [some (.ref 0), some (.int a0), some (.int a1), none, none, none, none]) (st' := [.int (4 : Int32), .int (0 : Int32), .int a0]) 3 rfl ?_
  refine kx_r_callS (as := [.int a0, .int (0 : Int32), .int (4 : Int32)]) (rest := []) (M1 := M) (rv := some (.int (kx_bi (f_X4_isWithin a0 (0 : Int32) (4 : Int32))))) rfl klk_X4_55 kst_X4_isWithin rfl rfl (Nat.le_of_ble_eq_true rfl) (Nat.le_of_ble_eq_true rfl) (c_X4_isWithin (d := d + 10) a0 (0 : Int32) (4 : Int32) M (f_X4_isWithin a0 (0 : Int32) (4 : Int32)) rfl) ?_
  show kx_Rn _ _ _ (6, [some (.ref 0), some (.int a0), some (.int a1), none, none, none, none], [.int (kx_bi (f_X4_isWithin a0 (0 : Int32) (4 : Int32)))], M) _ _
  refine kx_q_zeq rfl (fun hc1 => ?_) (fun hc1 => ?_)
  · rw [if_neg hc1] at h
    refine kx_go (pc' := 19) (L' := [some (.ref 0), some (.int a0), some (.int a1), none, none, none, none]) (st' := [.int (-2 : Int32), .ref 0]) 2 rfl ?_
    obtain ⟨v2, M4, hv3, h⟩ := kx_bd_some h
    refine kx_q_callV (as := [.int (-2 : Int32)]) (rest := []) (M1 := M4) (rv := some (.int v2)) kxo_0 rfl klk_X4_59 kse_X4_refuse rfl rfl rfl rfl (Nat.le_of_ble_eq_true rfl) (Nat.le_of_ble_eq_true rfl) (c_X4_refuse (d := d + 9) (-2 : Int32) M v2 M4 hv3) ?_
    show kx_Rn _ _ _ (22, [some (.ref 0), some (.int a0), some (.int a1), none, none, none, none], [.int v2], M4) _ _
    cases h
    exact kx_r_iret rfl rfl
  · rw [if_pos hc1] at h
    refine kx_go (pc' := 10) (L' := [some (.ref 0), some (.int a0), some (.int a1), none, none, none, none]) (st' := [.int a1]) 1 rfl ?_
    refine kx_r_callS (as := [.int a1]) (rest := []) (M1 := M) (rv := some (.int (kx_bi (f_X4_isOneOfTwo a1)))) rfl klk_X4_152 kst_X4_isOneOfTwo rfl rfl (Nat.le_of_ble_eq_true rfl) (Nat.le_of_ble_eq_true rfl) (c_X4_isOneOfTwo (d := d + 10) a1 M (f_X4_isOneOfTwo a1) rfl) ?_
    show kx_Rn _ _ _ (13, [some (.ref 0), some (.int a0), some (.int a1), none, none, none, none], [.int (kx_bi (f_X4_isOneOfTwo a1))], M) _ _
    refine kx_q_zne rfl (fun hc5 => ?_) (fun hc5 => ?_)
    · rw [if_pos hc5] at h
      refine kx_go (pc' := 32) (L' := [some (.ref 0), some (.int a0), some (.int a1), some (.int (-1 : Int32)), some (.int (21 : Int32)), some (.int (0 : Int32)), none]) (st' := []) 6 rfl ?_
      refine kx_wk [true, true, true, true, true, true, false] ?_
      exact t_X4_lift_32 kx_fuel a0 a1 (-1 : Int32) (21 : Int32) (0 : Int32) M h
    · rw [if_neg hc5] at h
      refine kx_go (pc' := 19) (L' := [some (.ref 0), some (.int a0), some (.int a1), none, none, none, none]) (st' := [.int (-2 : Int32), .ref 0]) 2 rfl ?_
      obtain ⟨v6, M8, hv7, h⟩ := kx_bd_some h
      refine kx_q_callV (as := [.int (-2 : Int32)]) (rest := []) (M1 := M8) (rv := some (.int v6)) kxo_0 rfl klk_X4_59 kse_X4_refuse rfl rfl rfl rfl (Nat.le_of_ble_eq_true rfl) (Nat.le_of_ble_eq_true rfl) (c_X4_refuse (d := d + 9) (-2 : Int32) M v6 M8 hv7) ?_
      show kx_Rn _ _ _ (22, [some (.ref 0), some (.int a0), some (.int a1), none, none, none, none], [.int v6], M8) _ _
      cases h
      exact kx_r_iret rfl rfl
theorem c_X4_lift {d : Nat} (a0 : Int32) (a1 : Int32) (M : kx_M) (r : Int32) (M' : kx_M) (h : f_X4_lift a0 a1 M = some (r, M')) : kx_Call EX (d + 11) T_X4_lift [.ref 0, .int a0, .int a1] M (some (.int r)) M' := kx_entry kok_X4_lift (Nat.le_of_ble_eq_true rfl) rfl (t_X4_lift (d := d) a0 a1 M h)
set_option maxRecDepth 100000 in
set_option maxHeartbeats 4000000 in
theorem t_X4_chance_34 {d : Nat} {r : Int32} {M' : kx_M} : ∀ (n : Nat) (x1 : Int32) (x2 : Int32) (x3 : Int32) (x4 : Int32) (M : kx_M), f_X4_chance_34 n x1 x2 x3 x4 M = some (r, M') → kx_Rn EX T_X4_chance (d + 4) (34, [some (.ref 0), some (.int x1), some (.int x2), some (.int x3), some (.int x4)], [], M) (some (.int r)) M' := by
  intro n
  induction n with
  | zero =>
    intro x1 x2 x3 x4 M h
    cases (show (none : Option (Int32 × kx_M)) = some _ from h)
  | succ n ih =>
    intro x1 x2 x3 x4 M h
    rw [f_X4_chance_34.eq_2] at h
    refine kx_go (pc' := 38) (L' := [some (.ref 0), some (.int x1), some (.int x2), some (.int x3), some (.int x4)]) (st' := [.int (20 : Int32), .int x4]) 2 rfl ?_
    refine kx_r_icmp_gt rfl (fun hc1 => ?_) (fun hc1 => ?_)
    · rw [if_pos hc1] at h
      refine kx_r_ldc1 (v := 1000000) rfl kcs_X4_274 ?_
      refine kx_go (pc' := 75) (L' := [some (.ref 0), some (.int x1), some (.int x2), some (.int x3), some (.int x4)]) (st' := [.int (21 : Int32), .int ((1000000 : Int32) * x3)]) 3 rfl ?_
      refine kx_r_idiv rfl (by decide) ?_
      cases h
      exact kx_r_iret rfl rfl
    · rw [if_neg hc1] at h
      refine kx_go (pc' := 43) (L' := [some (.ref 0), some (.int x1), some (.int x2), some (.int x3), some (.int x4)]) (st' := [.ref 0, .int x2]) 2 rfl ?_
      refine kx_q_getR (k := 0) (j := 1) kxo_0 rfl kfl_X4_10 rfl ?_
      refine kx_go (pc' := 49) (L' := [some (.ref 0), some (.int x1), some (.int x2), some (.int x3), some (.int x4)]) (st' := [.int x4, .int x1, .ref 1, .int x2]) 2 rfl ?_
      obtain ⟨v2, hv3, h⟩ := kx_bn_some h
      refine kx_q_callV (as := [.int x1, .int x4]) (rest := [.int x2]) (M1 := M) (rv := some (.int v2)) kxl_1.1 rfl klk_X4_235 kse_X0_shownIfWanting rfl rfl rfl rfl (Nat.le_of_ble_eq_true rfl) (Nat.le_of_ble_eq_true rfl) (c_X0_shownIfWanting (d := d + 0) 1 (kxl_1) x1 x4 M v2 hv3) ?_
      show kx_Rn _ _ _ (52, [some (.ref 0), some (.int x1), some (.int x2), some (.int x3), some (.int x4)], [.int v2, .int x2], M) _ _
      refine kx_go (pc' := 53) (L' := [some (.ref 0), some (.int x1), some (.int x2), some (.int x3), some (.int x4)]) (st' := [.long (v2).toInt64, .int x2]) 1 rfl ?_
      refine kx_r_callS (as := [.int x2, .long (v2).toInt64]) (rest := []) (M1 := M) (rv := some (.int (kx_bi (f_X4_isIn x2 (v2).toInt64)))) rfl klk_X4_238 kst_X4_isIn rfl rfl (Nat.le_of_ble_eq_true rfl) (Nat.le_of_ble_eq_true rfl) (c_X4_isIn (d := d + 3) x2 (v2).toInt64 M (f_X4_isIn x2 (v2).toInt64) rfl) ?_
      show kx_Rn _ _ _ (56, [some (.ref 0), some (.int x1), some (.int x2), some (.int x3), some (.int x4)], [.int (kx_bi (f_X4_isIn x2 (v2).toInt64))], M) _ _
      refine kx_q_zeq rfl (fun hc4 => ?_) (fun hc4 => ?_)
      · rw [if_neg hc4] at h
        refine kx_go (pc' := 65) (L' := [some (.ref 0), some (.int x1), some (.int x2), some (.int x3), some (.int (x4 + (1)))]) (st' := []) 1 rfl ?_
        refine kx_r_goto rfl ?_
        refine kx_wk [true, true, true, true, true] ?_
        exact ih x1 x2 x3 (x4 + (1)) M h
      · rw [if_pos hc4] at h
        refine kx_go (pc' := 65) (L' := [some (.ref 0), some (.int x1), some (.int x2), some (.int (x3 + (1))), some (.int (x4 + (1)))]) (st' := []) 2 rfl ?_
        refine kx_r_goto rfl ?_
        refine kx_wk [true, true, true, true, true] ?_
        exact ih x1 x2 (x3 + (1)) (x4 + (1)) M h
set_option maxRecDepth 100000 in
set_option maxHeartbeats 4000000 in
theorem t_X4_chance {d : Nat} {r : Int32} {M' : kx_M} (a0 : Int32) (a1 : Int32) (M : kx_M) (h : f_X4_chance a0 a1 M = some (r, M')) : kx_Rn EX T_X4_chance (d + 4) (0, [some (.ref 0), some (.int a0), some (.int a1), none, none], [], M) (some (.int r)) M' := by
  unfold f_X4_chance at h
  refine kx_go (pc' := 1) (L' := [some (.ref 0), some (.int a0), some (.int a1), none, none]) (st' := [.ref 0]) 1 rfl ?_
  refine kx_q_getR (k := 0) (j := 1) kxo_0 rfl kfl_X4_10 rfl ?_
  refine kx_go (pc' := 5) (L' := [some (.ref 0), some (.int a0), some (.int a1), none, none]) (st' := [.int a0, .ref 1]) 1 rfl ?_
  refine kx_q_callV (as := [.int a0]) (rest := []) (M1 := M) (rv := some (.int (kx_bi (f_X0_hasVisitor 1 M a0)))) kxl_1.1 rfl klk_X4_104 kse_X0_hasVisitor rfl rfl rfl rfl (Nat.le_of_ble_eq_true rfl) (Nat.le_of_ble_eq_true rfl) (c_X0_hasVisitor (d := d + 2) 1 (kxl_1) a0 M (f_X0_hasVisitor 1 M a0) rfl) ?_
  show kx_Rn _ _ _ (8, [some (.ref 0), some (.int a0), some (.int a1), none, none], [.int (kx_bi (f_X0_hasVisitor 1 M a0))], M) _ _
  refine kx_q_zeq rfl (fun hc1 => ?_) (fun hc1 => ?_)
  · rw [if_neg hc1] at h
    refine kx_go (pc' := 25) (L' := [some (.ref 0), some (.int a0), some (.int a1), none, none]) (st' := [.int (-2 : Int32), .ref 0]) 2 rfl ?_
    obtain ⟨v2, M4, hv3, h⟩ := kx_bd_some h
    refine kx_q_callV (as := [.int (-2 : Int32)]) (rest := []) (M1 := M4) (rv := some (.int v2)) kxo_0 rfl klk_X4_59 kse_X4_refuse rfl rfl rfl rfl (Nat.le_of_ble_eq_true rfl) (Nat.le_of_ble_eq_true rfl) (c_X4_refuse (d := d + 2) (-2 : Int32) M v2 M4 hv3) ?_
    show kx_Rn _ _ _ (28, [some (.ref 0), some (.int a0), some (.int a1), none, none], [.int v2], M4) _ _
    cases h
    exact kx_r_iret rfl rfl
  · rw [if_pos hc1] at h
    refine kx_go (pc' := 12) (L' := [some (.ref 0), some (.int a0), some (.int a1), none, none]) (st' := [.ref 0]) 1 rfl ?_
    refine kx_q_getR (k := 0) (j := 1) kxo_0 rfl kfl_X4_10 rfl ?_
    refine kx_go (pc' := 16) (L' := [some (.ref 0), some (.int a0), some (.int a1), none, none]) (st' := [.int a1, .ref 1]) 1 rfl ?_
    refine kx_q_callV (as := [.int a1]) (rest := []) (M1 := M) (rv := some (.int (kx_bi (f_X0_hasCell 1 M a1)))) kxl_1.1 rfl klk_X4_149 kse_X0_hasCell rfl rfl rfl rfl (Nat.le_of_ble_eq_true rfl) (Nat.le_of_ble_eq_true rfl) (c_X0_hasCell (d := d + 2) 1 (kxl_1) a1 M (f_X0_hasCell 1 M a1) rfl) ?_
    show kx_Rn _ _ _ (19, [some (.ref 0), some (.int a0), some (.int a1), none, none], [.int (kx_bi (f_X0_hasCell 1 M a1))], M) _ _
    refine kx_q_zne rfl (fun hc5 => ?_) (fun hc5 => ?_)
    · rw [if_pos hc5] at h
      refine kx_go (pc' := 34) (L' := [some (.ref 0), some (.int a0), some (.int a1), some (.int (0 : Int32)), some (.int (0 : Int32))]) (st' := []) 4 rfl ?_
      refine kx_wk [true, true, true, true, true] ?_
      exact t_X4_chance_34 kx_fuel a0 a1 (0 : Int32) (0 : Int32) M h
    · rw [if_neg hc5] at h
      refine kx_go (pc' := 25) (L' := [some (.ref 0), some (.int a0), some (.int a1), none, none]) (st' := [.int (-2 : Int32), .ref 0]) 2 rfl ?_
      obtain ⟨v6, M8, hv7, h⟩ := kx_bd_some h
      refine kx_q_callV (as := [.int (-2 : Int32)]) (rest := []) (M1 := M8) (rv := some (.int v6)) kxo_0 rfl klk_X4_59 kse_X4_refuse rfl rfl rfl rfl (Nat.le_of_ble_eq_true rfl) (Nat.le_of_ble_eq_true rfl) (c_X4_refuse (d := d + 2) (-2 : Int32) M v6 M8 hv7) ?_
      show kx_Rn _ _ _ (28, [some (.ref 0), some (.int a0), some (.int a1), none, none], [.int v6], M8) _ _
      cases h
      exact kx_r_iret rfl rfl
theorem c_X4_chance {d : Nat} (a0 : Int32) (a1 : Int32) (M : kx_M) (r : Int32) (M' : kx_M) (h : f_X4_chance a0 a1 M = some (r, M')) : kx_Call EX (d + 4) T_X4_chance [.ref 0, .int a0, .int a1] M (some (.int r)) M' := kx_entry kok_X4_chance (Nat.le_of_ble_eq_true rfl) rfl (t_X4_chance (d := d) a0 a1 M h)
set_option maxRecDepth 100000 in
set_option maxHeartbeats 4000000 in
theorem t_X4_mean_22 {d : Nat} {r : Int32} {M' : kx_M} : ∀ (n : Nat) (x1 : Int32) (x2 : Int32) (x3 : Int32) (M : kx_M), f_X4_mean_22 n x1 x2 x3 M = some (r, M') → kx_Rn EX T_X4_mean (d + 4) (22, [some (.ref 0), some (.int x1), some (.int x2), some (.int x3)], [], M) (some (.int r)) M' := by
  intro n
  induction n with
  | zero =>
    intro x1 x2 x3 M h
    cases (show (none : Option (Int32 × kx_M)) = some _ from h)
  | succ n ih =>
    intro x1 x2 x3 M h
    rw [f_X4_mean_22.eq_2] at h
    refine kx_go (pc' := 25) (L' := [some (.ref 0), some (.int x1), some (.int x2), some (.int x3)]) (st' := [.int (20 : Int32), .int x3]) 2 rfl ?_
    refine kx_r_icmp_gt rfl (fun hc1 => ?_) (fun hc1 => ?_)
    · rw [if_pos hc1] at h
      refine kx_go (pc' := 56) (L' := [some (.ref 0), some (.int x1), some (.int x2), some (.int x3)]) (st' := [.int (21 : Int32), .int ((1000 : Int32) * x2)]) 4 rfl ?_
      refine kx_r_idiv rfl (by decide) ?_
      cases h
      exact kx_r_iret rfl rfl
    · rw [if_neg hc1] at h
      refine kx_go (pc' := 30) (L' := [some (.ref 0), some (.int x1), some (.int x2), some (.int x3)]) (st' := [.ref 0, .int x2]) 2 rfl ?_
      refine kx_q_getR (k := 0) (j := 1) kxo_0 rfl kfl_X4_10 rfl ?_
      refine kx_go (pc' := 35) (L' := [some (.ref 0), some (.int x1), some (.int x2), some (.int x3)]) (st' := [.int x3, .int x1, .ref 1, .int x2]) 2 rfl ?_
      obtain ⟨v2, hv3, h⟩ := kx_bn_some h
      refine kx_q_callV (as := [.int x1, .int x3]) (rest := [.int x2]) (M1 := M) (rv := some (.int v2)) kxl_1.1 rfl klk_X4_235 kse_X0_shownIfWanting rfl rfl rfl rfl (Nat.le_of_ble_eq_true rfl) (Nat.le_of_ble_eq_true rfl) (c_X0_shownIfWanting (d := d + 0) 1 (kxl_1) x1 x3 M v2 hv3) ?_
      show kx_Rn _ _ _ (38, [some (.ref 0), some (.int x1), some (.int x2), some (.int x3)], [.int v2, .int x2], M) _ _
      refine kx_r_callS (as := [.int v2]) (rest := [.int x2]) (M1 := M) (rv := some (.int (f_J6_bitCount_0f7a4 v2))) rfl klk_X4_186 kst_J6_bitCount_0f7a4 rfl rfl (Nat.le_of_ble_eq_true rfl) (Nat.le_of_ble_eq_true rfl) (c_J6_bitCount_0f7a4 (d := d + 3) v2 M (f_J6_bitCount_0f7a4 v2) rfl) ?_
      show kx_Rn _ _ _ (41, [some (.ref 0), some (.int x1), some (.int x2), some (.int x3)], [.int (f_J6_bitCount_0f7a4 v2), .int x2], M) _ _
      refine kx_go (pc' := 46) (L' := [some (.ref 0), some (.int x1), some (.int (x2 + (f_J6_bitCount_0f7a4 v2))), some (.int (x3 + (1)))]) (st' := []) 3 rfl ?_
      refine kx_r_goto rfl ?_
      refine kx_wk [true, true, true, true] ?_
      exact ih x1 (x2 + (f_J6_bitCount_0f7a4 v2)) (x3 + (1)) M h
set_option maxRecDepth 100000 in
set_option maxHeartbeats 4000000 in
theorem t_X4_mean {d : Nat} {r : Int32} {M' : kx_M} (a0 : Int32) (M : kx_M) (h : f_X4_mean a0 M = some (r, M')) : kx_Rn EX T_X4_mean (d + 4) (0, [some (.ref 0), some (.int a0), none, none], [], M) (some (.int r)) M' := by
  unfold f_X4_mean at h
  refine kx_go (pc' := 1) (L' := [some (.ref 0), some (.int a0), none, none]) (st' := [.ref 0]) 1 rfl ?_
  refine kx_q_getR (k := 0) (j := 1) kxo_0 rfl kfl_X4_10 rfl ?_
  refine kx_go (pc' := 5) (L' := [some (.ref 0), some (.int a0), none, none]) (st' := [.int a0, .ref 1]) 1 rfl ?_
  refine kx_q_callV (as := [.int a0]) (rest := []) (M1 := M) (rv := some (.int (kx_bi (f_X0_hasVisitor 1 M a0)))) kxl_1.1 rfl klk_X4_104 kse_X0_hasVisitor rfl rfl rfl rfl (Nat.le_of_ble_eq_true rfl) (Nat.le_of_ble_eq_true rfl) (c_X0_hasVisitor (d := d + 2) 1 (kxl_1) a0 M (f_X0_hasVisitor 1 M a0) rfl) ?_
  show kx_Rn _ _ _ (8, [some (.ref 0), some (.int a0), none, none], [.int (kx_bi (f_X0_hasVisitor 1 M a0))], M) _ _
  refine kx_q_zne rfl (fun hc1 => ?_) (fun hc1 => ?_)
  · rw [if_pos hc1] at h
    refine kx_go (pc' := 22) (L' := [some (.ref 0), some (.int a0), some (.int (0 : Int32)), some (.int (0 : Int32))]) (st' := []) 4 rfl ?_
    refine kx_wk [true, true, true, true] ?_
    exact t_X4_mean_22 kx_fuel a0 (0 : Int32) (0 : Int32) M h
  · rw [if_neg hc1] at h
    refine kx_go (pc' := 14) (L' := [some (.ref 0), some (.int a0), none, none]) (st' := [.int (-2 : Int32), .ref 0]) 2 rfl ?_
    obtain ⟨v2, M4, hv3, h⟩ := kx_bd_some h
    refine kx_q_callV (as := [.int (-2 : Int32)]) (rest := []) (M1 := M4) (rv := some (.int v2)) kxo_0 rfl klk_X4_59 kse_X4_refuse rfl rfl rfl rfl (Nat.le_of_ble_eq_true rfl) (Nat.le_of_ble_eq_true rfl) (c_X4_refuse (d := d + 2) (-2 : Int32) M v2 M4 hv3) ?_
    show kx_Rn _ _ _ (17, [some (.ref 0), some (.int a0), none, none], [.int v2], M4) _ _
    cases h
    exact kx_r_iret rfl rfl
theorem c_X4_mean {d : Nat} (a0 : Int32) (M : kx_M) (r : Int32) (M' : kx_M) (h : f_X4_mean a0 M = some (r, M')) : kx_Call EX (d + 4) T_X4_mean [.ref 0, .int a0] M (some (.int r)) M' := kx_entry kok_X4_mean (Nat.le_of_ble_eq_true rfl) rfl (t_X4_mean (d := d) a0 M h)
set_option maxRecDepth 100000 in
set_option maxHeartbeats 4000000 in
theorem t_X4_hidden_4 {d : Nat} {r : Int32} (M : kx_M) : ∀ (n : Nat) (x1 : Int32) (x2 : Int32), f_X4_hidden_4 M n x1 x2 = some r → kx_Rn EX T_X4_hidden (d + 5) (4, [some (.ref 0), some (.int x1), some (.int x2)], [], M) (some (.int r)) M := by
  intro n
  induction n with
  | zero =>
    intro x1 x2 h
    cases (show (none : Option Int32) = some _ from h)
  | succ n ih =>
    intro x1 x2 h
    rw [f_X4_hidden_4.eq_2] at h
    refine kx_go (pc' := 6) (L' := [some (.ref 0), some (.int x1), some (.int x2)]) (st' := [.ref 0, .int x2]) 2 rfl ?_
    refine kx_q_getR (k := 0) (j := 1) kxo_0 rfl kfl_X4_10 rfl ?_
    refine kx_q_getI (k := 11) kxl_1.1 rfl kfl_X4_146 rfl ?_
    refine kx_r_icmp_ge rfl (fun hc1 => ?_) (fun hc1 => ?_)
    · rw [if_pos hc1] at h
      refine kx_go (pc' := 40) (L' := [some (.ref 0), some (.int x1), some (.int x2)]) (st' := [.ref 0]) 1 rfl ?_
      refine kx_q_getR (k := 0) (j := 1) kxo_0 rfl kfl_X4_10 rfl ?_
      refine kx_q_callV (as := []) (rest := []) (M1 := M) (rv := some (.int (f_X0_allCells 1 M))) kxl_1.1 rfl klk_X4_275 kse_X0_allCells rfl rfl rfl rfl (Nat.le_of_ble_eq_true rfl) (Nat.le_of_ble_eq_true rfl) (c_X0_allCells (d := d + 4) 1 (kxl_1) M (f_X0_allCells 1 M) rfl) ?_
      show kx_Rn _ _ _ (46, [some (.ref 0), some (.int x1), some (.int x2)], [.int (f_X0_allCells 1 M)], M) _ _
      refine kx_go (pc' := 50) (L' := [some (.ref 0), some (.int x1), some (.int x2)]) (st' := [.int ((f_X0_allCells 1 M) &&& (x1 ^^^ (-1 : Int32)))]) 4 rfl ?_
      cases h
      exact kx_r_iret rfl rfl
    · rw [if_neg hc1] at h
      refine kx_go (pc' := 17) (L' := [some (.ref 0), some (.int x1), some (.int x2)]) (st' := [.ref 0, .int x1]) 2 rfl ?_
      refine kx_q_getR (k := 0) (j := 1) kxo_0 rfl kfl_X4_10 rfl ?_
      refine kx_go (pc' := 22) (L' := [some (.ref 0), some (.int x1), some (.int x2)]) (st' := [.ref 0, .int x2, .ref 1, .int x1]) 2 rfl ?_
      refine kx_q_getR (k := 0) (j := 1) kxo_0 rfl kfl_X4_10 rfl ?_
      refine kx_q_getI (k := 8) kxl_1.1 rfl kfl_X4_122 rfl ?_
      obtain ⟨v2, hv3, h⟩ := kx_bn_some h
      refine kx_q_callV (as := [.int x2, .int (M.1 1 8)]) (rest := [.int x1]) (M1 := M) (rv := some (.int v2)) kxl_1.1 rfl klk_X4_242 kse_X0_shownAlone rfl rfl rfl rfl (Nat.le_of_ble_eq_true rfl) (Nat.le_of_ble_eq_true rfl) (c_X0_shownAlone (d := d + 0) 1 (kxl_1) x2 (M.1 1 8) M v2 hv3) ?_
      show kx_Rn _ _ _ (31, [some (.ref 0), some (.int x1), some (.int x2)], [.int v2, .int x1], M) _ _
      refine kx_go (pc' := 36) (L' := [some (.ref 0), some (.int (x1 ||| v2)), some (.int (x2 + (1)))]) (st' := []) 3 rfl ?_
      refine kx_r_goto rfl ?_
      refine kx_wk [true, true, true] ?_
      exact ih (x1 ||| v2) (x2 + (1)) h
set_option maxRecDepth 100000 in
set_option maxHeartbeats 4000000 in
theorem t_X4_hidden {d : Nat} {r : Int32} (M : kx_M) (h : f_X4_hidden M = some r) : kx_Rn EX T_X4_hidden (d + 5) (0, [some (.ref 0), none, none], [], M) (some (.int r)) M := by
  unfold f_X4_hidden at h
  refine kx_go (pc' := 4) (L' := [some (.ref 0), some (.int (0 : Int32)), some (.int (0 : Int32))]) (st' := []) 4 rfl ?_
  refine kx_wk [true, true, true] ?_
  exact t_X4_hidden_4 M kx_fuel (0 : Int32) (0 : Int32) h
theorem c_X4_hidden {d : Nat} (M : kx_M) (r : Int32) (h : f_X4_hidden M = some r) : kx_Call EX (d + 5) T_X4_hidden [.ref 0] M (some (.int r)) M := kx_entry kok_X4_hidden (Nat.le_of_ble_eq_true rfl) rfl (t_X4_hidden (d := d) M h)
set_option maxRecDepth 100000 in
set_option maxHeartbeats 4000000 in
theorem t_X4_best_38 {d : Nat} {r : Int32} {M' : kx_M} : ∀ (n : Nat) (x1 : Int32) (x2 : Int32) (x3 : Int32) (x4 : Int32) (M : kx_M), f_X4_best_38 n x1 x2 x3 x4 M = some (r, M') → kx_Rn EX T_X4_best (d + 5) (38, [some (.ref 0), some (.int x1), some (.int x2), some (.int x3), some (.int x4), none], [], M) (some (.int r)) M' := by
  intro n
  induction n with
  | zero =>
    intro x1 x2 x3 x4 M h
    cases (show (none : Option (Int32 × kx_M)) = some _ from h)
  | succ n ih =>
    intro x1 x2 x3 x4 M h
    rw [f_X4_best_38.eq_2] at h
    refine kx_go (pc' := 41) (L' := [some (.ref 0), some (.int x1), some (.int x2), some (.int x3), some (.int x4), none]) (st' := [.ref 0, .int x4]) 2 rfl ?_
    refine kx_q_getR (k := 0) (j := 1) kxo_0 rfl kfl_X4_10 rfl ?_
    refine kx_q_getI (k := 11) kxl_1.1 rfl kfl_X4_146 rfl ?_
    refine kx_r_icmp_ge rfl (fun hc1 => ?_) (fun hc1 => ?_)
    · rw [if_pos hc1] at h
      refine kx_go (pc' := 90) (L' := [some (.ref 0), some (.int x1), some (.int x2), some (.int x3), some (.int x4), none]) (st' := [.int x1]) 1 rfl ?_
      refine kx_r_if_ne rfl (fun hc2 => ?_) (fun hc2 => ?_)
      · rw [if_neg hc2] at h
        refine kx_go (pc' := 98) (L' := [some (.ref 0), some (.int x1), some (.int x2), some (.int x3), some (.int x4), none]) (st' := [.int x3]) 1 rfl ?_
        cases h
        exact kx_r_iret rfl rfl
      · rw [if_pos hc2] at h
        refine kx_go (pc' := 94) (L' := [some (.ref 0), some (.int x1), some (.int x2), some (.int x3), some (.int x4), none]) (st' := [.int x2]) 1 rfl ?_
        refine kx_r_goto rfl ?_
        cases h
        exact kx_r_iret rfl rfl
    · rw [if_neg hc1] at h
      refine kx_go (pc' := 51) (L' := [some (.ref 0), some (.int x1), some (.int x2), some (.int x3), some (.int x4), none]) (st' := [.ref 0]) 1 rfl ?_
      refine kx_q_getR (k := 0) (j := 1) kxo_0 rfl kfl_X4_10 rfl ?_
      refine kx_go (pc' := 57) (L' := [some (.ref 0), some (.int x1), some (.int x2), some (.int x3), some (.int x4), none]) (st' := [.ref 0, .int x4, .ref 1]) 2 rfl ?_
      refine kx_q_getR (k := 0) (j := 1) kxo_0 rfl kfl_X4_10 rfl ?_
      refine kx_q_getI (k := 8) kxl_1.1 rfl kfl_X4_122 rfl ?_
      obtain ⟨v3, hv4, h⟩ := kx_bn_some h
      refine kx_q_callV (as := [.int x4, .int (M.1 1 8)]) (rest := []) (M1 := M) (rv := some (.int v3)) kxl_1.1 rfl klk_X4_242 kse_X0_shownAlone rfl rfl rfl rfl (Nat.le_of_ble_eq_true rfl) (Nat.le_of_ble_eq_true rfl) (c_X0_shownAlone (d := d + 0) 1 (kxl_1) x4 (M.1 1 8) M v3 hv4) ?_
      show kx_Rn _ _ _ (66, [some (.ref 0), some (.int x1), some (.int x2), some (.int x3), some (.int x4), none], [.int v3], M) _ _
      refine kx_r_callS (as := [.int v3]) (rest := []) (M1 := M) (rv := some (.int (f_J6_bitCount_0f7a4 v3))) rfl klk_X4_186 kst_J6_bitCount_0f7a4 rfl rfl (Nat.le_of_ble_eq_true rfl) (Nat.le_of_ble_eq_true rfl) (c_J6_bitCount_0f7a4 (d := d + 4) v3 M (f_J6_bitCount_0f7a4 v3) rfl) ?_
      show kx_Rn _ _ _ (69, [some (.ref 0), some (.int x1), some (.int x2), some (.int x3), some (.int x4), none], [.int (f_J6_bitCount_0f7a4 v3)], M) _ _
      refine kx_go (pc' := 74) (L' := [some (.ref 0), some (.int x1), some (.int x2), some (.int x3), some (.int x4), some (.int (f_J6_bitCount_0f7a4 v3))]) (st' := [.int x3, .int (f_J6_bitCount_0f7a4 v3)]) 3 rfl ?_
      refine kx_r_icmp_le rfl (fun hc5 => ?_) (fun hc5 => ?_)
      · rw [if_pos hc5] at h
        refine kx_go (pc' := 86) (L' := [some (.ref 0), some (.int x1), some (.int x2), some (.int x3), some (.int (x4 + (1))), some (.int (f_J6_bitCount_0f7a4 v3))]) (st' := []) 1 rfl ?_
        refine kx_r_goto rfl ?_
        refine kx_wk [true, true, true, true, true, false] ?_
        exact ih x1 x2 x3 (x4 + (1)) M h
      · rw [if_neg hc5] at h
        refine kx_go (pc' := 86) (L' := [some (.ref 0), some (.int x1), some (.int x4), some (.int (f_J6_bitCount_0f7a4 v3)), some (.int (x4 + (1))), some (.int (f_J6_bitCount_0f7a4 v3))]) (st' := []) 5 rfl ?_
        refine kx_r_goto rfl ?_
        refine kx_wk [true, true, true, true, true, false] ?_
        exact ih x1 x4 (f_J6_bitCount_0f7a4 v3) (x4 + (1)) M h
set_option maxRecDepth 100000 in
set_option maxHeartbeats 4000000 in
theorem t_X4_best {d : Nat} {r : Int32} {M' : kx_M} (a0 : Int32) (M : kx_M) (h : f_X4_best a0 M = some (r, M')) : kx_Rn EX T_X4_best (d + 5) (0, [some (.ref 0), some (.int a0), none, none, none, none], [], M) (some (.int r)) M' := by
  unfold f_X4_best at h
  refine kx_go (pc' := 1) (L' := [some (.ref 0), some (.int a0), none, none, none, none]) (st' := [.int a0]) 1 rfl ?_
  refine kx_r_callS (as := [.int a0]) (rest := []) (M1 := M) (rv := some (.int (kx_bi (f_X4_isOneOfTwo a0)))) rfl klk_X4_152 kst_X4_isOneOfTwo rfl rfl (Nat.le_of_ble_eq_true rfl) (Nat.le_of_ble_eq_true rfl) (c_X4_isOneOfTwo (d := d + 4) a0 M (f_X4_isOneOfTwo a0) rfl) ?_
  show kx_Rn _ _ _ (4, [some (.ref 0), some (.int a0), none, none, none, none], [.int (kx_bi (f_X4_isOneOfTwo a0))], M) _ _
  refine kx_q_zne rfl (fun hc1 => ?_) (fun hc1 => ?_)
  · rw [if_pos hc1] at h
    refine kx_go (pc' := 15) (L' := [some (.ref 0), some (.int a0), none, none, none, none]) (st' := [.ref 0]) 1 rfl ?_
    refine kx_q_getR (k := 0) (j := 1) kxo_0 rfl kfl_X4_10 rfl ?_
    refine kx_q_getI (k := 11) kxl_1.1 rfl kfl_X4_146 rfl ?_
    refine kx_r_if_ne rfl (fun hc2 => ?_) (fun hc2 => ?_)
    · rw [if_neg hc2] at h
      refine kx_go (pc' := 38) (L' := [some (.ref 0), some (.int a0), some (.int (-1 : Int32)), some (.int (-1 : Int32)), some (.int (0 : Int32)), none]) (st' := []) 6 rfl ?_
      refine kx_wk [true, true, true, true, true, false] ?_
      exact t_X4_best_38 kx_fuel a0 (-1 : Int32) (-1 : Int32) (0 : Int32) M h
    · rw [if_pos hc2] at h
      refine kx_go (pc' := 27) (L' := [some (.ref 0), some (.int a0), none, none, none, none]) (st' := [.int (-5 : Int32), .ref 0]) 2 rfl ?_
      obtain ⟨v3, M5, hv4, h⟩ := kx_bd_some h
      refine kx_q_callV (as := [.int (-5 : Int32)]) (rest := []) (M1 := M5) (rv := some (.int v3)) kxo_0 rfl klk_X4_59 kse_X4_refuse rfl rfl rfl rfl (Nat.le_of_ble_eq_true rfl) (Nat.le_of_ble_eq_true rfl) (c_X4_refuse (d := d + 3) (-5 : Int32) M v3 M5 hv4) ?_
      show kx_Rn _ _ _ (30, [some (.ref 0), some (.int a0), none, none, none, none], [.int v3], M5) _ _
      cases h
      exact kx_r_iret rfl rfl
  · rw [if_neg hc1] at h
    refine kx_go (pc' := 10) (L' := [some (.ref 0), some (.int a0), none, none, none, none]) (st' := [.int (-2 : Int32), .ref 0]) 2 rfl ?_
    obtain ⟨v6, M8, hv7, h⟩ := kx_bd_some h
    refine kx_q_callV (as := [.int (-2 : Int32)]) (rest := []) (M1 := M8) (rv := some (.int v6)) kxo_0 rfl klk_X4_59 kse_X4_refuse rfl rfl rfl rfl (Nat.le_of_ble_eq_true rfl) (Nat.le_of_ble_eq_true rfl) (c_X4_refuse (d := d + 3) (-2 : Int32) M v6 M8 hv7) ?_
    show kx_Rn _ _ _ (13, [some (.ref 0), some (.int a0), none, none, none, none], [.int v6], M8) _ _
    cases h
    exact kx_r_iret rfl rfl
theorem c_X4_best {d : Nat} (a0 : Int32) (M : kx_M) (r : Int32) (M' : kx_M) (h : f_X4_best a0 M = some (r, M')) : kx_Call EX (d + 5) T_X4_best [.ref 0, .int a0] M (some (.int r)) M' := kx_entry kok_X4_best (Nat.le_of_ble_eq_true rfl) rfl (t_X4_best (d := d) a0 M h)
