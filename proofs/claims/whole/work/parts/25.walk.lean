set_option maxRecDepth 100000 in
set_option maxHeartbeats 4000000 in
theorem t_X5_seed {d : Nat} {r : Int32} {M' : kx_M} (a0 : Int32) (M : kx_M) (h : f_X5_seed a0 M = some (r, M')) : kx_Rn EM T_X5_seed (d + 0) (0, [some (.ref 0), some (.int a0), none], [], M) (some (.int r)) M' := by
  unfold f_X5_seed at h
  refine kx_go (pc' := 1) (L' := [some (.ref 0), some (.int a0), none]) (st' := [.ref 0]) 1 rfl ?_
  refine kx_q_getI (k := 9) kmo_0 rfl kfl_X5_75 rfl ?_
  refine kx_go (pc' := 7) (L' := [some (.ref 0), some (.int a0), some (.int (M.1 0 9))]) (st' := [.int a0, .ref 0]) 3 rfl ?_
  refine kx_q_putI (k := 9) kmo_0 rfl kfw_X5_75 rfl ?_
  refine kx_go (pc' := 11) (L' := [some (.ref 0), some (.int a0), some (.int (M.1 0 9))]) (st' := [.int (M.1 0 9)]) 1 rfl ?_
  cases h
  exact kx_r_iret rfl rfl
theorem c_X5_seed {d : Nat} (a0 : Int32) (M : kx_M) (r : Int32) (M' : kx_M) (h : f_X5_seed a0 M = some (r, M')) : kx_Call EM (d + 0) T_X5_seed [.ref 0, .int a0] M (some (.int r)) M' := kx_entry kok_X5_seed (Nat.le_of_ble_eq_true rfl) rfl (t_X5_seed (d := d) a0 M h)
set_option maxRecDepth 100000 in
set_option maxHeartbeats 4000000 in
theorem t_X5_image {d : Nat} {r : Int32} {M' : kx_M} (M : kx_M) (h : f_X5_image M = some (r, M')) : kx_Rn EM T_X5_image (d + 1) (0, [some (.ref 0)], [], M) (some (.int r)) M' := by
  unfold f_X5_image at h
  refine kx_go (pc' := 2) (L' := [some (.ref 0)]) (st' := [.int (1 : Int32), .ref 0]) 2 rfl ?_
  refine kx_q_putZ (k := 20) kmo_0 rfl kfw_X5_297 (Or.inr rfl) rfl ?_
  refine kx_go (pc' := 7) (L' := [some (.ref 0)]) (st' := [.ref 0, .ref 0]) 2 rfl ?_
  refine kx_q_getR (k := 21) (j := 13) kmo_0 rfl kfl_X5_47 rfl ?_
  obtain ⟨M3, hv2, h⟩ := kx_bn_some h
  refine kx_q_callV (as := [.ref 13]) (rest := []) (M1 := M3) (rv := none) kmo_0 rfl klk_X5_184 kse_X5_keep rfl rfl rfl rfl (Nat.le_of_ble_eq_true rfl) (Nat.le_of_ble_eq_true rfl) (c_X5_keep (d := d + 0) 13 (kma_13) (kx_u1 M 0 20 (1 : Int32)) M3 hv2) ?_
  show kx_Rn _ _ _ (13, [some (.ref 0)], [], M3) _ _
  refine kx_go (pc' := 14) (L' := [some (.ref 0)]) (st' := [.int (1 : Int32)]) 1 rfl ?_
  cases h
  exact kx_r_iret rfl rfl
theorem c_X5_image {d : Nat} (M : kx_M) (r : Int32) (M' : kx_M) (h : f_X5_image M = some (r, M')) : kx_Call EM (d + 1) T_X5_image [.ref 0] M (some (.int r)) M' := kx_entry kok_X5_image (Nat.le_of_ble_eq_true rfl) rfl (t_X5_image (d := d) M h)
set_option maxRecDepth 100000 in
set_option maxHeartbeats 4000000 in
theorem t_X5_back_24 {d : Nat} {r : Int32} {M' : kx_M} : ∀ (n : Nat) (x1 : Int32) (M : kx_M), f_X5_back_24 n x1 M = some (r, M') → kx_Rn EM T_X5_back (d + 1) (24, [some (.ref 0), some (.int x1)], [], M) (some (.int r)) M' := by
  intro n
  induction n with
  | zero =>
    intro x1 M h
    cases (show (none : Option (Int32 × kx_M)) = some _ from h)
  | succ n ih =>
    intro x1 M h
    rw [f_X5_back_24.eq_2] at h
    refine kx_go (pc' := 27) (L' := [some (.ref 0), some (.int x1)]) (st' := [.int (8 : Int32), .int x1]) 2 rfl ?_
    refine kx_r_icmp_ge rfl (fun hc1 => ?_) (fun hc1 => ?_)
    · rw [if_pos hc1] at h
      refine kx_go (pc' := 60) (L' := [some (.ref 0), some (.int x1)]) (st' := [.int (1 : Int32)]) 1 rfl ?_
      cases h
      exact kx_r_iret rfl rfl
    · rw [if_neg hc1] at h
      refine kx_go (pc' := 31) (L' := [some (.ref 0), some (.int x1)]) (st' := [.ref 0]) 1 rfl ?_
      refine kx_q_getR (k := 16) (j := 9) kmo_0 rfl kfl_X5_34 rfl ?_
      refine kx_go (pc' := 35) (L' := [some (.ref 0), some (.int x1)]) (st' := [.int x1, .ref 9]) 1 rfl ?_
      obtain ⟨hi2, h⟩ := kx_ck_some h
      refine kx_q_iald (kma_9) rfl hi2 ?_
      refine kx_go (pc' := 39) (L' := [some (.ref 0), some (.int x1)]) (st' := [.ref 0, .int (10 : Int32), .int (M.1 9 (x1).toNatClampNeg)]) 2 rfl ?_
      refine kx_q_getI (k := 4) kmo_0 rfl kfl_X5_82 rfl ?_
      refine kx_go (pc' := 43) (L' := [some (.ref 0), some (.int x1)]) (st' := [.int ((10 : Int32) + (M.1 0 4)), .int (M.1 9 (x1).toNatClampNeg)]) 1 rfl ?_
      refine kx_r_icmp_lt rfl (fun hc3 => ?_) (fun hc3 => ?_)
      · rw [if_pos hc3] at h
        refine kx_go (pc' := 56) (L' := [some (.ref 0), some (.int (x1 + (1)))]) (st' := []) 1 rfl ?_
        refine kx_r_goto rfl ?_
        refine kx_wk [true, true] ?_
        exact ih (x1 + (1)) M h
      · rw [if_neg hc3] at h
        refine kx_go (pc' := 47) (L' := [some (.ref 0), some (.int x1)]) (st' := [.ref 0]) 1 rfl ?_
        refine kx_q_getR (k := 16) (j := 9) kmo_0 rfl kfl_X5_34 rfl ?_
        refine kx_go (pc' := 52) (L' := [some (.ref 0), some (.int x1)]) (st' := [.int (-1 : Int32), .int x1, .ref 9]) 2 rfl ?_
        obtain ⟨hi4, h⟩ := kx_ck_some h
        refine kx_q_iast (kma_9) rfl hi4 ?_
        refine kx_go (pc' := 56) (L' := [some (.ref 0), some (.int (x1 + (1)))]) (st' := []) 1 rfl ?_
        refine kx_r_goto rfl ?_
        refine kx_wk [true, true] ?_
        exact ih (x1 + (1)) (kx_u1 M 9 (x1).toNatClampNeg (-1 : Int32)) h
set_option maxRecDepth 100000 in
set_option maxHeartbeats 4000000 in
theorem t_X5_back {d : Nat} {r : Int32} {M' : kx_M} (M : kx_M) (h : f_X5_back M = some (r, M')) : kx_Rn EM T_X5_back (d + 1) (0, [some (.ref 0), none], [], M) (some (.int r)) M' := by
  unfold f_X5_back at h
  refine kx_go (pc' := 1) (L' := [some (.ref 0), none]) (st' := [.ref 0]) 1 rfl ?_
  refine kx_q_getI (k := 20) kmo_0 rfl kfl_X5_297 rfl ?_
  refine kx_r_if_ne rfl (fun hc1 => ?_) (fun hc1 => ?_)
  · rw [if_neg hc1] at h
    refine kx_go (pc' := 16) (L' := [some (.ref 0), none]) (st' := [.ref 0, .ref 0]) 2 rfl ?_
    refine kx_q_getR (k := 21) (j := 13) kmo_0 rfl kfl_X5_47 rfl ?_
    obtain ⟨M4, hv3, h⟩ := kx_bn_some h
    refine kx_q_callV (as := [.ref 13]) (rest := []) (M1 := M4) (rv := none) kmo_0 rfl klk_X5_191 kse_X5_again rfl rfl rfl rfl (Nat.le_of_ble_eq_true rfl) (Nat.le_of_ble_eq_true rfl) (c_X5_again (d := d + 0) 13 (kma_13) M M4 hv3) ?_
    show kx_Rn _ _ _ (22, [some (.ref 0), none], [], M4) _ _
    refine kx_go (pc' := 24) (L' := [some (.ref 0), some (.int (0 : Int32))]) (st' := []) 2 rfl ?_
    refine kx_wk [true, true] ?_
    exact t_X5_back_24 kx_fuel (0 : Int32) M4 h
  · rw [if_pos hc1] at h
    refine kx_go (pc' := 10) (L' := [some (.ref 0), none]) (st' := [.int (-5 : Int32), .ref 0]) 2 rfl ?_
    obtain ⟨v5, M7, hv6, h⟩ := kx_bd_some h
    refine kx_q_callV (as := [.int (-5 : Int32)]) (rest := []) (M1 := M7) (rv := some (.int v5)) kmo_0 rfl klk_X5_89 kse_X5_no rfl rfl rfl rfl (Nat.le_of_ble_eq_true rfl) (Nat.le_of_ble_eq_true rfl) (c_X5_no (d := d + 0) (-5 : Int32) M v5 M7 hv6) ?_
    show kx_Rn _ _ _ (13, [some (.ref 0), none], [.int v5], M7) _ _
    cases h
    exact kx_r_iret rfl rfl
theorem c_X5_back {d : Nat} (M : kx_M) (r : Int32) (M' : kx_M) (h : f_X5_back M = some (r, M')) : kx_Call EM (d + 1) T_X5_back [.ref 0] M (some (.int r)) M' := kx_entry kok_X5_back (Nat.le_of_ble_eq_true rfl) rfl (t_X5_back (d := d) M h)
set_option maxRecDepth 100000 in
set_option maxHeartbeats 4000000 in
theorem t_X5_status_91 {d : Nat} {r : Int32} (M : kx_M) : ∀ (n : Nat) (x2 : Int32) (x3 : Int32), f_X5_status_91 M n x2 x3 = some r → kx_Rn EM T_X5_status (d + 2) (91, [some (.ref 0), none, some (.int x2), some (.int x3)], [], M) (some (.int r)) M := by
  intro n
  induction n with
  | zero =>
    intro x2 x3 h
    cases (show (none : Option Int32) = some _ from h)
  | succ n ih =>
    intro x2 x3 h
    rw [f_X5_status_91.eq_2] at h
    refine kx_go (pc' := 94) (L' := [some (.ref 0), none, some (.int x2), some (.int x3)]) (st' := [.int (8 : Int32), .int x3]) 2 rfl ?_
    refine kx_r_icmp_ge rfl (fun hc1 => ?_) (fun hc1 => ?_)
    · rw [if_pos hc1] at h
      refine kx_go (pc' := 117) (L' := [some (.ref 0), none, some (.int x2), some (.int x3)]) (st' := [.int x2]) 1 rfl ?_
      cases h
      exact kx_r_iret rfl rfl
    · rw [if_neg hc1] at h
      refine kx_go (pc' := 98) (L' := [some (.ref 0), none, some (.int x2), some (.int x3)]) (st' := [.ref 0]) 1 rfl ?_
      refine kx_q_getR (k := 16) (j := 9) kmo_0 rfl kfl_X5_34 rfl ?_
      refine kx_go (pc' := 102) (L' := [some (.ref 0), none, some (.int x2), some (.int x3)]) (st' := [.int x3, .ref 9]) 1 rfl ?_
      obtain ⟨hi2, h⟩ := kx_ck_some h
      refine kx_q_iald (kma_9) rfl hi2 ?_
      refine kx_go (pc' := 104) (L' := [some (.ref 0), none, some (.int x2), some (.int x3)]) (st' := [.int (-1 : Int32), .int (M.1 9 (x3).toNatClampNeg)]) 1 rfl ?_
      refine kx_r_icmp_eq rfl (fun hc3 => ?_) (fun hc3 => ?_)
      · rw [if_pos hc3] at h
        refine kx_go (pc' := 113) (L' := [some (.ref 0), none, some (.int x2), some (.int (x3 + (1)))]) (st' := []) 1 rfl ?_
        refine kx_r_goto rfl ?_
        refine kx_wk [true, false, true, true] ?_
        exact ih x2 (x3 + (1)) h
      · rw [if_neg hc3] at h
        refine kx_go (pc' := 113) (L' := [some (.ref 0), none, some (.int (x2 + (1))), some (.int (x3 + (1)))]) (st' := []) 2 rfl ?_
        refine kx_r_goto rfl ?_
        refine kx_wk [true, false, true, true] ?_
        exact ih (x2 + (1)) (x3 + (1)) h
set_option maxRecDepth 100000 in
set_option maxHeartbeats 4000000 in
theorem t_X5_status {d : Nat} {r : Int32} (M : kx_M) (a0 : Int32) (h : f_X5_status M a0 = some r) : kx_Rn EM T_X5_status (d + 2) (0, [some (.ref 0), some (.int a0), none, none], [], M) (some (.int r)) M := by
  unfold f_X5_status at h
  refine kx_go (pc' := 3) (L' := [some (.ref 0), some (.int a0), some (.int (0 : Int32)), none]) (st' := [.int a0]) 3 rfl ?_
  by_cases hc1 : a0 = (0 : Int32)
  · rw [if_pos hc1] at h
    refine kx_q_tsI (0 : Int32) (tgt := 48) (show decode T_X5_status.2.1 3 = .ok (.tableswitch 115 0 7 #[45, 50, 55, 55, 64, 76, 81, 86], 45) from by decide +kernel) hc1 (by decide) (by decide) rfl (by decide) ?_
    refine kx_go (pc' := 49) (L' := [some (.ref 0), some (.int a0), some (.int (0 : Int32)), none]) (st' := [.ref 0]) 1 rfl ?_
    refine kx_q_getI (k := 4) kmo_0 rfl kfl_X5_82 rfl ?_
    cases h
    exact kx_r_iret rfl rfl
  · rw [if_neg hc1] at h
    by_cases hc2 : a0 = (1 : Int32)
    · rw [if_pos hc2] at h
      refine kx_q_tsI (1 : Int32) (tgt := 53) (show decode T_X5_status.2.1 3 = .ok (.tableswitch 115 0 7 #[45, 50, 55, 55, 64, 76, 81, 86], 45) from by decide +kernel) hc2 (by decide) (by decide) rfl (by decide) ?_
      refine kx_go (pc' := 54) (L' := [some (.ref 0), some (.int a0), some (.int (0 : Int32)), none]) (st' := [.ref 0]) 1 rfl ?_
      refine kx_q_getI (k := 0) kmo_0 rfl kfl_X5_65 rfl ?_
      cases h
      exact kx_r_iret rfl rfl
    · rw [if_neg hc2] at h
      by_cases hc3 : a0 = (2 : Int32)
      · rw [if_pos hc3] at h
        refine kx_q_tsI (2 : Int32) (tgt := 58) (show decode T_X5_status.2.1 3 = .ok (.tableswitch 115 0 7 #[45, 50, 55, 55, 64, 76, 81, 86], 45) from by decide +kernel) hc3 (by decide) (by decide) rfl (by decide) ?_
        refine kx_go (pc' := 59) (L' := [some (.ref 0), some (.int a0), some (.int (0 : Int32)), none]) (st' := [.ref 0]) 1 rfl ?_
        refine kx_q_getR (k := 3) (j := 3) kmo_0 rfl kfl_X5_16 rfl ?_
        refine kx_go (pc' := 65) (L' := [some (.ref 0), some (.int a0), some (.int (0 : Int32)), none]) (st' := [.int (a0 - (2 : Int32)), .ref 3]) 3 rfl ?_
        obtain ⟨hi4, h⟩ := kx_ck_some h
        refine kx_q_iald (kma_3) rfl hi4 ?_
        cases h
        exact kx_r_iret rfl rfl
      · rw [if_neg hc3] at h
        by_cases hc5 : a0 = (3 : Int32)
        · rw [if_pos hc5] at h
          refine kx_q_tsI (3 : Int32) (tgt := 58) (show decode T_X5_status.2.1 3 = .ok (.tableswitch 115 0 7 #[45, 50, 55, 55, 64, 76, 81, 86], 45) from by decide +kernel) hc5 (by decide) (by decide) rfl (by decide) ?_
          refine kx_go (pc' := 59) (L' := [some (.ref 0), some (.int a0), some (.int (0 : Int32)), none]) (st' := [.ref 0]) 1 rfl ?_
          refine kx_q_getR (k := 3) (j := 3) kmo_0 rfl kfl_X5_16 rfl ?_
          refine kx_go (pc' := 65) (L' := [some (.ref 0), some (.int a0), some (.int (0 : Int32)), none]) (st' := [.int (a0 - (2 : Int32)), .ref 3]) 3 rfl ?_
          obtain ⟨hi6, h⟩ := kx_ck_some h
          refine kx_q_iald (kma_3) rfl hi6 ?_
          cases h
          exact kx_r_iret rfl rfl
        · rw [if_neg hc5] at h
          by_cases hc7 : a0 = (4 : Int32)
          · rw [if_pos hc7] at h
            refine kx_q_tsI (4 : Int32) (tgt := 67) (show decode T_X5_status.2.1 3 = .ok (.tableswitch 115 0 7 #[45, 50, 55, 55, 64, 76, 81, 86], 45) from by decide +kernel) hc7 (by decide) (by decide) rfl (by decide) ?_
            refine kx_go (pc' := 69) (L' := [some (.ref 0), some (.int a0), some (.int (0 : Int32)), none]) (st' := [.ref 0, .ref 0]) 2 rfl ?_
            refine kx_q_callV (as := []) (rest := [.ref 0]) (M1 := M) (rv := some (.int (f_X5_all M))) kmo_0 rfl klk_X5_221 kse_X5_all rfl rfl rfl rfl (Nat.le_of_ble_eq_true rfl) (Nat.le_of_ble_eq_true rfl) (c_X5_all (d := d + 1) M (f_X5_all M) rfl) ?_
            show kx_Rn _ _ _ (72, [some (.ref 0), some (.int a0), some (.int (0 : Int32)), none], [.int (f_X5_all M), .ref 0], M) _ _
            obtain ⟨v8, hv9, h⟩ := kx_bn_some h
            refine kx_q_callV (as := [.int (f_X5_all M)]) (rest := []) (M1 := M) (rv := some (.int v8)) kmo_0 rfl klk_X5_224 kse_X5_knownBy rfl rfl rfl rfl (Nat.le_of_ble_eq_true rfl) (Nat.le_of_ble_eq_true rfl) (c_X5_knownBy (d := d + 0) (f_X5_all M) M v8 hv9) ?_
            show kx_Rn _ _ _ (75, [some (.ref 0), some (.int a0), some (.int (0 : Int32)), none], [.int v8], M) _ _
            refine kx_r_callS (as := [.int v8]) (rest := []) (M1 := M) (rv := some (.int (f_J6_bitCount_0f7a4 v8))) rfl klk_X5_194 kst_J6_bitCount_0f7a4 rfl rfl (Nat.le_of_ble_eq_true rfl) (Nat.le_of_ble_eq_true rfl) (c_J6_bitCount_0f7a4 (d := d + 1) v8 M (f_J6_bitCount_0f7a4 v8) rfl) ?_
            show kx_Rn _ _ _ (78, [some (.ref 0), some (.int a0), some (.int (0 : Int32)), none], [.int (f_J6_bitCount_0f7a4 v8)], M) _ _
            cases h
            exact kx_r_iret rfl rfl
          · rw [if_neg hc7] at h
            by_cases hc10 : a0 = (5 : Int32)
            · rw [if_pos hc10] at h
              refine kx_q_tsI (5 : Int32) (tgt := 79) (show decode T_X5_status.2.1 3 = .ok (.tableswitch 115 0 7 #[45, 50, 55, 55, 64, 76, 81, 86], 45) from by decide +kernel) hc10 (by decide) (by decide) rfl (by decide) ?_
              refine kx_go (pc' := 80) (L' := [some (.ref 0), some (.int a0), some (.int (0 : Int32)), none]) (st' := [.ref 0]) 1 rfl ?_
              refine kx_q_getI (k := 10) kmo_0 rfl kfl_X5_123 rfl ?_
              cases h
              exact kx_r_iret rfl rfl
            · rw [if_neg hc10] at h
              by_cases hc11 : a0 = (6 : Int32)
              · rw [if_pos hc11] at h
                refine kx_q_tsI (6 : Int32) (tgt := 84) (show decode T_X5_status.2.1 3 = .ok (.tableswitch 115 0 7 #[45, 50, 55, 55, 64, 76, 81, 86], 45) from by decide +kernel) hc11 (by decide) (by decide) rfl (by decide) ?_
                refine kx_go (pc' := 85) (L' := [some (.ref 0), some (.int a0), some (.int (0 : Int32)), none]) (st' := [.ref 0]) 1 rfl ?_
                refine kx_q_getI (k := 9) kmo_0 rfl kfl_X5_75 rfl ?_
                cases h
                exact kx_r_iret rfl rfl
              · rw [if_neg hc11] at h
                by_cases hc12 : a0 = (7 : Int32)
                · rw [if_pos hc12] at h
                  refine kx_q_tsI (7 : Int32) (tgt := 89) (show decode T_X5_status.2.1 3 = .ok (.tableswitch 115 0 7 #[45, 50, 55, 55, 64, 76, 81, 86], 45) from by decide +kernel) hc12 (by decide) (by decide) rfl (by decide) ?_
                  refine kx_go (pc' := 91) (L' := [some (.ref 0), some (.int a0), some (.int (0 : Int32)), some (.int (0 : Int32))]) (st' := []) 2 rfl ?_
                  refine kx_wk [true, false, true, true] ?_
                  exact t_X5_status_91 M kx_fuel (0 : Int32) (0 : Int32) h
                · rw [if_neg hc12] at h
                  have ghc1 : ¬ (a0).toInt = 0 := fun q => hc1 (Int32.toInt_inj.mp (q.trans (by decide)))
                  have ghc2 : ¬ (a0).toInt = 1 := fun q => hc2 (Int32.toInt_inj.mp (q.trans (by decide)))
                  have ghc3 : ¬ (a0).toInt = 2 := fun q => hc3 (Int32.toInt_inj.mp (q.trans (by decide)))
                  have ghc5 : ¬ (a0).toInt = 3 := fun q => hc5 (Int32.toInt_inj.mp (q.trans (by decide)))
                  have ghc7 : ¬ (a0).toInt = 4 := fun q => hc7 (Int32.toInt_inj.mp (q.trans (by decide)))
                  have ghc10 : ¬ (a0).toInt = 5 := fun q => hc10 (Int32.toInt_inj.mp (q.trans (by decide)))
                  have ghc11 : ¬ (a0).toInt = 6 := fun q => hc11 (Int32.toInt_inj.mp (q.trans (by decide)))
                  have ghc12 : ¬ (a0).toInt = 7 := fun q => hc12 (Int32.toInt_inj.mp (q.trans (by decide)))
                  refine kx_q_tsO (tgt := 118) (show decode T_X5_status.2.1 3 = .ok (.tableswitch 115 0 7 #[45, 50, 55, 55, 64, 76, 81, 86], 45) from by decide +kernel) (by omega) (by decide) ?_
                  refine kx_go (pc' := 123) (L' := [some (.ref 0), some (.int a0), some (.int (0 : Int32)), none]) (st' := [.int (16 : Int32), .int (12 : Int32), .int a0]) 3 rfl ?_
                  refine kx_r_callS (as := [.int a0, .int (12 : Int32), .int (16 : Int32)]) (rest := []) (M1 := M) (rv := some (.int (kx_bi (f_X5_within a0 (12 : Int32) (16 : Int32))))) rfl klk_X5_78 kst_X5_within rfl rfl (Nat.le_of_ble_eq_true rfl) (Nat.le_of_ble_eq_true rfl) (c_X5_within (d := d + 1) a0 (12 : Int32) (16 : Int32) M (f_X5_within a0 (12 : Int32) (16 : Int32)) rfl) ?_
                  show kx_Rn _ _ _ (126, [some (.ref 0), some (.int a0), some (.int (0 : Int32)), none], [.int (kx_bi (f_X5_within a0 (12 : Int32) (16 : Int32)))], M) _ _
                  refine kx_q_zeq rfl (fun hc13 => ?_) (fun hc13 => ?_)
                  · rw [if_neg hc13] at h
                    refine kx_go (pc' := 142) (L' := [some (.ref 0), some (.int a0), some (.int (0 : Int32)), none]) (st' := [.int (-1 : Int32)]) 1 rfl ?_
                    cases h
                    exact kx_r_iret rfl rfl
                  · rw [if_pos hc13] at h
                    refine kx_go (pc' := 130) (L' := [some (.ref 0), some (.int a0), some (.int (0 : Int32)), none]) (st' := [.ref 0]) 1 rfl ?_
                    refine kx_q_getR (k := 19) (j := 12) kmo_0 rfl kfl_X5_44 rfl ?_
                    refine kx_go (pc' := 137) (L' := [some (.ref 0), some (.int a0), some (.int (0 : Int32)), none]) (st' := [.int (a0 - (10 : Int32)), .ref 12]) 3 rfl ?_
                    obtain ⟨hi14, h⟩ := kx_ck_some h
                    refine kx_q_iald (kma_12) rfl hi14 ?_
                    refine kx_r_goto rfl ?_
                    cases h
                    exact kx_r_iret rfl rfl
theorem c_X5_status {d : Nat} (a0 : Int32) (M : kx_M) (r : Int32) (h : f_X5_status M a0 = some r) : kx_Call EM (d + 2) T_X5_status [.ref 0, .int a0] M (some (.int r)) M := kx_entry kok_X5_status (Nat.le_of_ble_eq_true rfl) rfl (t_X5_status (d := d) M a0 h)
