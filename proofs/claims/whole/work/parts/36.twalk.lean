theorem kx_inj2 {α β : Type} {a c : α} {b d : β} (h : some (a, b) = some (c, d)) : a = c ∧ b = d := by
  injection h with h
  injection h with h1 h2
  exact ⟨h1, h2⟩
set_option maxRecDepth 100000 in
set_option maxHeartbeats 4000000 in
theorem t_X3_readStatement {d : Nat} {r : Bool} {M' : kx_M} (o : Nat) (ho : kx_land EX o) (M : kx_M) (h : f_X3_readStatement o M = some (r, M')) : kx_Rn EX T_X3_readStatement (d + 5) (0, [some (.ref 42), some (.ref o)], [], M) (some (.int (kx_bi r))) M' := by
  unfold f_X3_readStatement at h
  refine kx_go (pc' := 1) (L' := [some (.ref 42), some (.ref o)]) (st' := [.ref 42]) 1 rfl ?_
  obtain ⟨M3, hv2, h⟩ := kx_bn_some h
  refine kx_q_callV (as := []) (rest := []) (M1 := M3) (rv := none) kxo_42 rfl klk_X3_29 kse_X3_step rfl rfl rfl rfl (Nat.le_of_ble_eq_true rfl) (Nat.le_of_ble_eq_true rfl) (c_X3_step (d := d + 3) M M3 hv2) ?_
  show kx_Rn _ _ _ (4, [some (.ref 42), some (.ref o)], [], M3) _ _
  refine kx_go (pc' := 5) (L' := [some (.ref 42), some (.ref o)]) (st' := [.ref 42]) 1 rfl ?_
  refine kx_q_getI (k := 4) kxo_42 rfl kfl_X3_32 rfl ?_
  refine kx_go (pc' := 9) (L' := [some (.ref 42), some (.ref o)]) (st' := [.int (1 : Int32), .int (M3.1 42 4)]) 1 rfl ?_
  refine kx_r_icmp_eq rfl (fun hc4 => ?_) (fun hc4 => ?_)
  · rw [if_pos hc4] at h
    refine kx_go (pc' := 15) (L' := [some (.ref 42), some (.ref o)]) (st' := [.ref 42]) 1 rfl ?_
    obtain ⟨v5, hv6, h⟩ := kx_bn_some h
    refine kt_r_isWord (q := ("VeilsOfTheView$Tape", 35, "cells", [99, 101, 108, 108, 115])) (idx := 35) (a0 := 37) (o := 42) (show decode T_X3_readStatement.2.1 15 = .ok (.ldc 35, 2) from by decide +kernel) (show decode T_X3_readStatement.2.1 17 = .ok (.invokevirtual 37, 3) from by decide +kernel) (List.mem_of_getElem? (i := 0) rfl) rfl rfl (by decide) kxo_42 klk_X3_37 kse_X3_isWord rfl rfl (Nat.le_of_ble_eq_true rfl) (Nat.le_of_ble_eq_true rfl) (c_X3_isWord (d := d + 0) ("VeilsOfTheView$Tape", 35, "cells", [99, 101, 108, 108, 115]) M3 v5 hv6) ?_
    show kx_Rn _ _ _ (20, [some (.ref 42), some (.ref o)], [.int (kx_bi v5)], M3) _ _
    refine kx_q_zeq rfl (fun hc7 => ?_) (fun hc7 => ?_)
    · rw [if_neg hc7] at h
      refine kx_go (pc' := 30) (L' := [some (.ref 42), some (.ref o)]) (st' := [.ref 42]) 1 rfl ?_
      obtain ⟨v8, hv9, h⟩ := kx_bn_some h
      refine kt_r_isWord (q := ("VeilsOfTheView$Tape", 44, "visitor", [118, 105, 115, 105, 116, 111, 114])) (idx := 44) (a0 := 37) (o := 42) (show decode T_X3_readStatement.2.1 30 = .ok (.ldc 44, 2) from by decide +kernel) (show decode T_X3_readStatement.2.1 32 = .ok (.invokevirtual 37, 3) from by decide +kernel) (List.mem_of_getElem? (i := 1) rfl) rfl rfl (by decide) kxo_42 klk_X3_37 kse_X3_isWord rfl rfl (Nat.le_of_ble_eq_true rfl) (Nat.le_of_ble_eq_true rfl) (c_X3_isWord (d := d + 0) ("VeilsOfTheView$Tape", 44, "visitor", [118, 105, 115, 105, 116, 111, 114]) M3 v8 hv9) ?_
      show kx_Rn _ _ _ (35, [some (.ref 42), some (.ref o)], [.int (kx_bi v8)], M3) _ _
      refine kx_q_zeq rfl (fun hc10 => ?_) (fun hc10 => ?_)
      · rw [if_neg hc10] at h
        refine kx_go (pc' := 45) (L' := [some (.ref 42), some (.ref o)]) (st' := [.ref 42]) 1 rfl ?_
        obtain ⟨v11, hv12, h⟩ := kx_bn_some h
        refine kt_r_isWord (q := ("VeilsOfTheView$Tape", 49, "shy", [115, 104, 121])) (idx := 49) (a0 := 37) (o := 42) (show decode T_X3_readStatement.2.1 45 = .ok (.ldc 49, 2) from by decide +kernel) (show decode T_X3_readStatement.2.1 47 = .ok (.invokevirtual 37, 3) from by decide +kernel) (List.mem_of_getElem? (i := 2) rfl) rfl rfl (by decide) kxo_42 klk_X3_37 kse_X3_isWord rfl rfl (Nat.le_of_ble_eq_true rfl) (Nat.le_of_ble_eq_true rfl) (c_X3_isWord (d := d + 0) ("VeilsOfTheView$Tape", 49, "shy", [115, 104, 121]) M3 v11 hv12) ?_
        show kx_Rn _ _ _ (50, [some (.ref 42), some (.ref o)], [.int (kx_bi v11)], M3) _ _
        refine kx_q_zeq rfl (fun hc13 => ?_) (fun hc13 => ?_)
        · rw [if_neg hc13] at h
          refine kx_go (pc' := 60) (L' := [some (.ref 42), some (.ref o)]) (st' := [.ref 42]) 1 rfl ?_
          obtain ⟨v14, hv15, h⟩ := kx_bn_some h
          refine kt_r_isWord (q := ("VeilsOfTheView$Tape", 54, "thing", [116, 104, 105, 110, 103])) (idx := 54) (a0 := 37) (o := 42) (show decode T_X3_readStatement.2.1 60 = .ok (.ldc 54, 2) from by decide +kernel) (show decode T_X3_readStatement.2.1 62 = .ok (.invokevirtual 37, 3) from by decide +kernel) (List.mem_of_getElem? (i := 3) rfl) rfl rfl (by decide) kxo_42 klk_X3_37 kse_X3_isWord rfl rfl (Nat.le_of_ble_eq_true rfl) (Nat.le_of_ble_eq_true rfl) (c_X3_isWord (d := d + 0) ("VeilsOfTheView$Tape", 54, "thing", [116, 104, 105, 110, 103]) M3 v14 hv15) ?_
          show kx_Rn _ _ _ (65, [some (.ref 42), some (.ref o)], [.int (kx_bi v14)], M3) _ _
          refine kx_q_zeq rfl (fun hc16 => ?_) (fun hc16 => ?_)
          · rw [if_neg hc16] at h
            refine kx_go (pc' := 75) (L' := [some (.ref 42), some (.ref o)]) (st' := [.ref 42]) 1 rfl ?_
            obtain ⟨v17, hv18, h⟩ := kx_bn_some h
            refine kt_r_isWord (q := ("VeilsOfTheView$Tape", 59, "saw", [115, 97, 119])) (idx := 59) (a0 := 37) (o := 42) (show decode T_X3_readStatement.2.1 75 = .ok (.ldc 59, 2) from by decide +kernel) (show decode T_X3_readStatement.2.1 77 = .ok (.invokevirtual 37, 3) from by decide +kernel) (List.mem_of_getElem? (i := 4) rfl) rfl rfl (by decide) kxo_42 klk_X3_37 kse_X3_isWord rfl rfl (Nat.le_of_ble_eq_true rfl) (Nat.le_of_ble_eq_true rfl) (c_X3_isWord (d := d + 0) ("VeilsOfTheView$Tape", 59, "saw", [115, 97, 119]) M3 v17 hv18) ?_
            show kx_Rn _ _ _ (80, [some (.ref 42), some (.ref o)], [.int (kx_bi v17)], M3) _ _
            refine kx_q_zeq rfl (fun hc19 => ?_) (fun hc19 => ?_)
            · rw [if_neg hc19] at h
              refine kx_go (pc' := 90) (L' := [some (.ref 42), some (.ref o)]) (st' := [.ref 42]) 1 rfl ?_
              obtain ⟨v20, hv21, h⟩ := kx_bn_some h
              refine kt_r_isWord (q := ("VeilsOfTheView$Tape", 64, "veil", [118, 101, 105, 108])) (idx := 64) (a0 := 37) (o := 42) (show decode T_X3_readStatement.2.1 90 = .ok (.ldc 64, 2) from by decide +kernel) (show decode T_X3_readStatement.2.1 92 = .ok (.invokevirtual 37, 3) from by decide +kernel) (List.mem_of_getElem? (i := 5) rfl) rfl rfl (by decide) kxo_42 klk_X3_37 kse_X3_isWord rfl rfl (Nat.le_of_ble_eq_true rfl) (Nat.le_of_ble_eq_true rfl) (c_X3_isWord (d := d + 0) ("VeilsOfTheView$Tape", 64, "veil", [118, 101, 105, 108]) M3 v20 hv21) ?_
              show kx_Rn _ _ _ (95, [some (.ref 42), some (.ref o)], [.int (kx_bi v20)], M3) _ _
              refine kx_q_zeq rfl (fun hc22 => ?_) (fun hc22 => ?_)
              · rw [if_neg hc22] at h
                refine kx_go (pc' := 105) (L' := [some (.ref 42), some (.ref o)]) (st' := [.ref 42]) 1 rfl ?_
                obtain ⟨v23, hv24, h⟩ := kx_bn_some h
                refine kt_r_isWord (q := ("VeilsOfTheView$Tape", 69, "day", [100, 97, 121])) (idx := 69) (a0 := 37) (o := 42) (show decode T_X3_readStatement.2.1 105 = .ok (.ldc 69, 2) from by decide +kernel) (show decode T_X3_readStatement.2.1 107 = .ok (.invokevirtual 37, 3) from by decide +kernel) (List.mem_of_getElem? (i := 6) rfl) rfl rfl (by decide) kxo_42 klk_X3_37 kse_X3_isWord rfl rfl (Nat.le_of_ble_eq_true rfl) (Nat.le_of_ble_eq_true rfl) (c_X3_isWord (d := d + 0) ("VeilsOfTheView$Tape", 69, "day", [100, 97, 121]) M3 v23 hv24) ?_
                show kx_Rn _ _ _ (110, [some (.ref 42), some (.ref o)], [.int (kx_bi v23)], M3) _ _
                refine kx_q_zeq rfl (fun hc25 => ?_) (fun hc25 => ?_)
                · rw [if_neg hc25] at h
                  refine kx_go (pc' := 126) (L' := [some (.ref 42), some (.ref o)]) (st' := [.int (0 : Int32)]) 1 rfl ?_
                  cases h
                  exact kx_r_zret rfl rfl (Or.inl rfl)
                · rw [if_pos hc25] at h
                  refine kx_go (pc' := 115) (L' := [some (.ref 42), some (.ref o)]) (st' := [.ref o, .ref 42]) 2 rfl ?_
                  obtain ⟨v26, M28, hv27, h⟩ := kx_bd_some h
                  refine kx_q_callV (as := [.ref o]) (rest := []) (M1 := M28) (rv := some (.int (kx_bi v26))) kxo_42 rfl klk_X3_71 kse_X3_readDay rfl rfl rfl rfl (Nat.le_of_ble_eq_true rfl) (Nat.le_of_ble_eq_true rfl) (c_X3_readDay (d := d + 1) o (ho) M3 v26 M28 hv27) ?_
                  show kx_Rn _ _ _ (118, [some (.ref 42), some (.ref o)], [.int (kx_bi v26)], M28) _ _
                  refine kx_q_zeq rfl (fun hc29 => ?_) (fun hc29 => ?_)
                  · rw [if_neg hc29] at h
                    refine kx_go (pc' := 126) (L' := [some (.ref 42), some (.ref o)]) (st' := [.int (0 : Int32)]) 1 rfl ?_
                    cases h
                    exact kx_r_zret rfl rfl (Or.inl rfl)
                  · rw [if_pos hc29] at h
                    refine kx_go (pc' := 122) (L' := [some (.ref 42), some (.ref o)]) (st' := [.int (1 : Int32)]) 1 rfl ?_
                    refine kx_r_goto rfl ?_
                    cases h
                    exact kx_r_zret rfl rfl (Or.inr rfl)
              · rw [if_pos hc22] at h
                refine kx_go (pc' := 100) (L' := [some (.ref 42), some (.ref o)]) (st' := [.ref o, .ref 42]) 2 rfl ?_
                obtain ⟨v30, M32, hv31, h⟩ := kx_bd_some h
                refine kx_q_callV (as := [.ref o]) (rest := []) (M1 := M32) (rv := some (.int (kx_bi v30))) kxo_42 rfl klk_X3_66 kse_X3_readVeil rfl rfl rfl rfl (Nat.le_of_ble_eq_true rfl) (Nat.le_of_ble_eq_true rfl) (c_X3_readVeil (d := d + 1) o (ho) M3 v30 M32 hv31) ?_
                show kx_Rn _ _ _ (103, [some (.ref 42), some (.ref o)], [.int (kx_bi v30)], M32) _ _
                cases h
                exact kx_r_zret rfl rfl (kx_bi_or _)
            · rw [if_pos hc19] at h
              refine kx_go (pc' := 85) (L' := [some (.ref 42), some (.ref o)]) (st' := [.ref o, .ref 42]) 2 rfl ?_
              obtain ⟨v33, M35, hv34, h⟩ := kx_bd_some h
              refine kx_q_callV (as := [.ref o]) (rest := []) (M1 := M35) (rv := some (.int (kx_bi v33))) kxo_42 rfl klk_X3_61 kse_X3_readSaw rfl rfl rfl rfl (Nat.le_of_ble_eq_true rfl) (Nat.le_of_ble_eq_true rfl) (c_X3_readSaw (d := d + 1) o (ho) M3 v33 M35 hv34) ?_
              show kx_Rn _ _ _ (88, [some (.ref 42), some (.ref o)], [.int (kx_bi v33)], M35) _ _
              cases h
              exact kx_r_zret rfl rfl (kx_bi_or _)
          · rw [if_pos hc16] at h
            refine kx_go (pc' := 70) (L' := [some (.ref 42), some (.ref o)]) (st' := [.ref o, .ref 42]) 2 rfl ?_
            obtain ⟨v36, M38, hv37, h⟩ := kx_bd_some h
            refine kx_q_callV (as := [.ref o]) (rest := []) (M1 := M38) (rv := some (.int (kx_bi v36))) kxo_42 rfl klk_X3_56 kse_X3_readThing rfl rfl rfl rfl (Nat.le_of_ble_eq_true rfl) (Nat.le_of_ble_eq_true rfl) (c_X3_readThing (d := d + 1) o (ho) M3 v36 M38 hv37) ?_
            show kx_Rn _ _ _ (73, [some (.ref 42), some (.ref o)], [.int (kx_bi v36)], M38) _ _
            cases h
            exact kx_r_zret rfl rfl (kx_bi_or _)
        · rw [if_pos hc13] at h
          refine kx_go (pc' := 55) (L' := [some (.ref 42), some (.ref o)]) (st' := [.ref o, .ref 42]) 2 rfl ?_
          obtain ⟨v39, M41, hv40, h⟩ := kx_bd_some h
          refine kx_q_callV (as := [.ref o]) (rest := []) (M1 := M41) (rv := some (.int (kx_bi v39))) kxo_42 rfl klk_X3_51 kse_X3_readShy rfl rfl rfl rfl (Nat.le_of_ble_eq_true rfl) (Nat.le_of_ble_eq_true rfl) (c_X3_readShy (d := d + 1) o (ho) M3 v39 M41 hv40) ?_
          show kx_Rn _ _ _ (58, [some (.ref 42), some (.ref o)], [.int (kx_bi v39)], M41) _ _
          cases h
          exact kx_r_zret rfl rfl (kx_bi_or _)
      · rw [if_pos hc10] at h
        refine kx_go (pc' := 40) (L' := [some (.ref 42), some (.ref o)]) (st' := [.ref o, .ref 42]) 2 rfl ?_
        obtain ⟨v42, M44, hv43, h⟩ := kx_bd_some h
        refine kx_q_callV (as := [.ref o]) (rest := []) (M1 := M44) (rv := some (.int (kx_bi v42))) kxo_42 rfl klk_X3_46 kse_X3_readVisitor rfl rfl rfl rfl (Nat.le_of_ble_eq_true rfl) (Nat.le_of_ble_eq_true rfl) (c_X3_readVisitor (d := d + 1) o (ho) M3 v42 M44 hv43) ?_
        show kx_Rn _ _ _ (43, [some (.ref 42), some (.ref o)], [.int (kx_bi v42)], M44) _ _
        cases h
        exact kx_r_zret rfl rfl (kx_bi_or _)
    · rw [if_pos hc7] at h
      refine kx_go (pc' := 25) (L' := [some (.ref 42), some (.ref o)]) (st' := [.ref o, .ref 42]) 2 rfl ?_
      obtain ⟨v45, M47, hv46, h⟩ := kx_bd_some h
      refine kx_q_callV (as := [.ref o]) (rest := []) (M1 := M47) (rv := some (.int (kx_bi v45))) kxo_42 rfl klk_X3_41 kse_X3_readCells rfl rfl rfl rfl (Nat.le_of_ble_eq_true rfl) (Nat.le_of_ble_eq_true rfl) (c_X3_readCells (d := d + 1) o (ho) M3 v45 M47 hv46) ?_
      show kx_Rn _ _ _ (28, [some (.ref 42), some (.ref o)], [.int (kx_bi v45)], M47) _ _
      cases h
      exact kx_r_zret rfl rfl (kx_bi_or _)
  · rw [if_neg hc4] at h
    refine kx_go (pc' := 13) (L' := [some (.ref 42), some (.ref o)]) (st' := [.int (0 : Int32)]) 1 rfl ?_
    cases h
    exact kx_r_zret rfl rfl (Or.inl rfl)
theorem c_X3_readStatement {d : Nat} (o : Nat) (ho : kx_land EX o) (M : kx_M) (r : Bool) (M' : kx_M) (h : f_X3_readStatement o M = some (r, M')) : kx_Call EX (d + 5) T_X3_readStatement [.ref 42, .ref o] M (some (.int (kx_bi r))) M' := kx_entry kok_X3_readStatement (Nat.le_of_ble_eq_true rfl) rfl (t_X3_readStatement (d := d) o ho M h)
set_option maxRecDepth 100000 in
set_option maxHeartbeats 4000000 in
theorem t_X3_readInto_45 {d : Nat} {r : Int32} {M' : kx_M} (o : Nat) (ho : kx_land EX o) (x2 : Int32) (M : kx_M) (h : f_X3_readInto_45 o x2 M = some (r, M')) : kx_Rn EX T_X3_readInto (d + 6) (45, [some (.ref 42), none, some (.int x2)], [], M) (some (.int r)) M' := by
  unfold f_X3_readInto_45 at h
  refine kx_go (pc' := 46) (L' := [some (.ref 42), none, some (.int x2)]) (st' := [.ref 42]) 1 rfl ?_
  refine kx_q_getI (k := 4) kxo_42 rfl kfl_X3_32 rfl ?_
  refine kx_r_if_ne rfl (fun hc1 => ?_) (fun hc1 => ?_)
  · rw [if_neg hc1] at h
    refine kx_go (pc' := 59) (L' := [some (.ref 42), none, some (.int x2)]) (st' := [.ref 42, .int (-20 : Int32)]) 2 rfl ?_
    refine kx_q_getI (k := 2) kxo_42 rfl kfl_X3_26 rfl ?_
    refine kx_go (pc' := 63) (L' := [some (.ref 42), none, some (.int x2)]) (st' := [.int ((-20 : Int32) - (M.1 42 2))]) 1 rfl ?_
    obtain ⟨rfl, rfl⟩ := kx_inj2 h
    exact kx_r_iret rfl rfl
  · rw [if_pos hc1] at h
    refine kx_go (pc' := 53) (L' := [some (.ref 42), none, some (.int x2)]) (st' := [.int x2]) 1 rfl ?_
    refine kx_r_goto rfl ?_
    cases h
    exact kx_r_iret rfl rfl
set_option maxRecDepth 100000 in
set_option maxHeartbeats 4000000 in
theorem t_X3_readInto_7 {d : Nat} {r : Int32} {M' : kx_M} (o : Nat) (ho : kx_land EX o) : ∀ (n : Nat) (x2 : Int32) (M : kx_M), f_X3_readInto_7 o n x2 M = some (r, M') → kx_Rn EX T_X3_readInto (d + 6) (7, [some (.ref 42), some (.ref o), some (.int x2)], [], M) (some (.int r)) M' := by
  intro n
  induction n with
  | zero =>
    intro x2 M h
    cases (show (none : Option (Int32 × kx_M)) = some _ from h)
  | succ n ih =>
    intro x2 M h
    rw [f_X3_readInto_7.eq_2] at h
    refine kx_go (pc' := 9) (L' := [some (.ref 42), some (.ref o), some (.int x2)]) (st' := [.ref o, .ref 42]) 2 rfl ?_
    obtain ⟨v1, M3, hv2, h⟩ := kx_bd_some h
    refine kx_q_callV (as := [.ref o]) (rest := []) (M1 := M3) (rv := some (.int (kx_bi v1))) kxo_42 rfl klk_X3_22 kse_X3_readStatement rfl rfl rfl rfl (Nat.le_of_ble_eq_true rfl) (Nat.le_of_ble_eq_true rfl) (c_X3_readStatement (d := d + 0) o (ho) M v1 M3 hv2) ?_
    show kx_Rn _ _ _ (12, [some (.ref 42), some (.ref o), some (.int x2)], [.int (kx_bi v1)], M3) _ _
    refine kx_q_zne rfl (fun hc4 => ?_) (fun hc4 => ?_)
    · rw [if_pos hc4] at h
      refine kx_go (pc' := 27) (L' := [some (.ref 42), some (.ref o), some (.int (x2 + (1)))]) (st' := [.ref 42]) 2 rfl ?_
      obtain ⟨M7, hv6, h⟩ := kx_bn_some h
      refine kx_q_callV (as := []) (rest := []) (M1 := M7) (rv := none) kxo_42 rfl klk_X3_29 kse_X3_step rfl rfl rfl rfl (Nat.le_of_ble_eq_true rfl) (Nat.le_of_ble_eq_true rfl) (c_X3_step (d := d + 4) M3 M7 hv6) ?_
      show kx_Rn _ _ _ (30, [some (.ref 42), some (.ref o), some (.int (x2 + (1)))], [], M7) _ _
      refine kx_go (pc' := 31) (L' := [some (.ref 42), some (.ref o), some (.int (x2 + (1)))]) (st' := [.ref 42]) 1 rfl ?_
      refine kx_q_getI (k := 4) kxo_42 rfl kfl_X3_32 rfl ?_
      refine kx_go (pc' := 35) (L' := [some (.ref 42), some (.ref o), some (.int (x2 + (1)))]) (st' := [.int (3 : Int32), .int (M7.1 42 4)]) 1 rfl ?_
      refine kx_r_icmp_ne rfl (fun hc8 => ?_) (fun hc8 => ?_)
      · rw [if_neg hc8] at h
        refine kx_wk [true, false, true] ?_
        exact t_X3_readInto_45 o ho (x2 + (1)) M7 h
      · rw [if_pos hc8] at h
        refine kx_go (pc' := 42) (L' := [some (.ref 42), some (.ref o), some (.int (x2 + (1)))]) (st' := [.int (250 : Int32), .int (x2 + (1))]) 2 rfl ?_
        refine kx_r_icmp_lt rfl (fun hc9 => ?_) (fun hc9 => ?_)
        · rw [if_pos hc9] at h
          refine kx_wk [true, true, true] ?_
          exact ih (x2 + (1)) M7 h
        · rw [if_neg hc9] at h
          refine kx_wk [true, false, true] ?_
          exact t_X3_readInto_45 o ho (x2 + (1)) M7 h
    · rw [if_neg hc4] at h
      refine kx_go (pc' := 18) (L' := [some (.ref 42), some (.ref o), some (.int x2)]) (st' := [.ref 42, .int (-20 : Int32)]) 2 rfl ?_
      refine kx_q_getI (k := 2) kxo_42 rfl kfl_X3_26 rfl ?_
      refine kx_go (pc' := 22) (L' := [some (.ref 42), some (.ref o), some (.int x2)]) (st' := [.int ((-20 : Int32) - (M3.1 42 2))]) 1 rfl ?_
      obtain ⟨rfl, rfl⟩ := kx_inj2 h
      exact kx_r_iret rfl rfl
set_option maxRecDepth 100000 in
set_option maxHeartbeats 4000000 in
theorem t_X3_readInto {d : Nat} {r : Int32} {M' : kx_M} (o : Nat) (ho : kx_land EX o) (M : kx_M) (h : f_X3_readInto o M = some (r, M')) : kx_Rn EX T_X3_readInto (d + 6) (0, [some (.ref 42), some (.ref o), none], [], M) (some (.int r)) M' := by
  unfold f_X3_readInto at h
  refine kx_go (pc' := 4) (L' := [some (.ref 42), some (.ref o), some (.int (0 : Int32))]) (st' := [.int (0 : Int32), .ref 42]) 4 rfl ?_
  refine kx_q_putI (k := 3) kxo_42 rfl kfw_X3_19 rfl ?_
  refine kx_wk [true, true, true] ?_
  exact t_X3_readInto_7 o ho kx_fuel (0 : Int32) (kx_u1 M 42 3 (0 : Int32)) h
theorem c_X3_readInto {d : Nat} (o : Nat) (ho : kx_land EX o) (M : kx_M) (r : Int32) (M' : kx_M) (h : f_X3_readInto o M = some (r, M')) : kx_Call EX (d + 6) T_X3_readInto [.ref 42, .ref o] M (some (.int r)) M' := kx_entry kok_X3_readInto (Nat.le_of_ble_eq_true rfl) rfl (t_X3_readInto (d := d) o ho M h)
set_option maxRecDepth 100000 in
set_option maxHeartbeats 4000000 in
theorem t_X4_view {d : Nat} {r : Int32} {M' : kx_M} (M : kx_M) (h : f_X4_view M = some (r, M')) : kx_Rn EX T_X4_view (d + 7) (0, [some (.ref 0), none], [], M) (some (.int r)) M' := by
  unfold f_X4_view at h
  refine kx_go (pc' := 1) (L' := [some (.ref 0), none]) (st' := [.ref 0]) 1 rfl ?_
  refine kx_q_getR (k := 2) (j := 17) kxo_0 rfl kfl_X4_19 rfl ?_
  refine kx_go (pc' := 5) (L' := [some (.ref 0), none]) (st' := [.ref 0, .ref 17]) 1 rfl ?_
  refine kx_q_getR (k := 0) (j := 1) kxo_0 rfl kfl_X4_10 rfl ?_
  obtain ⟨M3, hv2, h⟩ := kx_bn_some h
  refine kx_q_callV (as := [.ref 1]) (rest := []) (M1 := M3) (rv := none) kxl_17.1 rfl klk_X4_172 kse_X0_takeFrom rfl rfl rfl rfl (Nat.le_of_ble_eq_true rfl) (Nat.le_of_ble_eq_true rfl) (c_X0_takeFrom (d := d + 5) 17 (kxl_17) 1 (kxl_1) M M3 hv2) ?_
  show kx_Rn _ _ _ (11, [some (.ref 0), none], [], M3) _ _
  refine kx_go (pc' := 12) (L' := [some (.ref 0), none]) (st' := [.ref 0]) 1 rfl ?_
  refine kx_q_getR (k := 4) (j := 42) kxo_0 rfl kfl_X4_32 rfl ?_
  refine kx_go (pc' := 16) (L' := [some (.ref 0), none]) (st' := [.ref 0, .ref 42]) 1 rfl ?_
  refine kx_q_getR (k := 2) (j := 17) kxo_0 rfl kfl_X4_19 rfl ?_
  obtain ⟨v4, M6, hv5, h⟩ := kx_bd_some h
  refine kx_q_callV (as := [.ref 17]) (rest := []) (M1 := M6) (rv := some (.int v4)) kxo_42 rfl klk_X4_176 kse_X3_readInto rfl rfl rfl rfl (Nat.le_of_ble_eq_true rfl) (Nat.le_of_ble_eq_true rfl) (c_X3_readInto (d := d + 0) 17 (kxl_17) M3 v4 M6 hv5) ?_
  show kx_Rn _ _ _ (22, [some (.ref 0), none], [.int v4], M6) _ _
  refine kx_go (pc' := 24) (L' := [some (.ref 0), some (.int v4)]) (st' := [.ref 0]) 2 rfl ?_
  refine kx_q_getR (k := 4) (j := 42) kxo_0 rfl kfl_X4_32 rfl ?_
  refine kx_go (pc' := 28) (L' := [some (.ref 0), some (.int v4)]) (st' := [.int (0 : Int32), .ref 42]) 1 rfl ?_
  refine kx_q_putI (k := 1) kxo_42 rfl kfw_X4_171 rfl ?_
  refine kx_go (pc' := 32) (L' := [some (.ref 0), some (.int v4)]) (st' := [.int v4]) 1 rfl ?_
  refine kx_r_if_ge rfl (fun hc7 => ?_) (fun hc7 => ?_)
  · rw [if_pos hc7] at h
    refine kx_go (pc' := 46) (L' := [some (.ref 0), some (.int v4)]) (st' := [.ref 0]) 1 rfl ?_
    refine kx_q_getR (k := 0) (j := 1) kxo_0 rfl kfl_X4_10 rfl ?_
    refine kx_go (pc' := 50) (L' := [some (.ref 0), some (.int v4)]) (st' := [.ref 0, .ref 1]) 1 rfl ?_
    refine kx_q_getR (k := 2) (j := 17) kxo_0 rfl kfl_X4_19 rfl ?_
    obtain ⟨M10, hv9, h⟩ := kx_bn_some h
    refine kx_q_callV (as := [.ref 17]) (rest := []) (M1 := M10) (rv := none) kxl_1.1 rfl klk_X4_172 kse_X0_takeFrom rfl rfl rfl rfl (Nat.le_of_ble_eq_true rfl) (Nat.le_of_ble_eq_true rfl) (c_X0_takeFrom (d := d + 5) 1 (kxl_1) 17 (kxl_17) (kx_u1 M6 42 1 (0 : Int32)) M10 hv9) ?_
    show kx_Rn _ _ _ (56, [some (.ref 0), some (.int v4)], [], M10) _ _
    refine kx_go (pc' := 57) (L' := [some (.ref 0), some (.int v4)]) (st' := [.int v4]) 1 rfl ?_
    cases h
    exact kx_r_iret rfl rfl
  · rw [if_neg hc7] at h
    refine kx_go (pc' := 38) (L' := [some (.ref 0), some (.int v4)]) (st' := [.int (-2 : Int32), .ref 0]) 2 rfl ?_
    obtain ⟨v11, M13, hv12, h⟩ := kx_bd_some h
    refine kx_q_callV (as := [.int (-2 : Int32)]) (rest := []) (M1 := M13) (rv := some (.int v11)) kxo_0 rfl klk_X4_59 kse_X4_refuse rfl rfl rfl rfl (Nat.le_of_ble_eq_true rfl) (Nat.le_of_ble_eq_true rfl) (c_X4_refuse (d := d + 5) (-2 : Int32) (kx_u1 M6 42 1 (0 : Int32)) v11 M13 hv12) ?_
    show kx_Rn _ _ _ (41, [some (.ref 0), some (.int v4)], [.int v11], M13) _ _
    refine kx_go (pc' := 42) (L' := [some (.ref 0), some (.int v4)]) (st' := []) 1 rfl ?_
    refine kx_r_goto rfl ?_
    refine kx_go (pc' := 57) (L' := [some (.ref 0), some (.int v4)]) (st' := [.int v4]) 1 rfl ?_
    cases h
    exact kx_r_iret rfl rfl
theorem c_X4_view {d : Nat} (M : kx_M) (r : Int32) (M' : kx_M) (h : f_X4_view M = some (r, M')) : kx_Call EX (d + 7) T_X4_view [.ref 0] M (some (.int r)) M' := kx_entry kok_X4_view (Nat.le_of_ble_eq_true rfl) rfl (t_X4_view (d := d) M h)
set_option maxRecDepth 100000 in
set_option maxHeartbeats 4000000 in
theorem t_X5_statement_200 {d : Nat} {r : Bool} {M' : kx_M} (x2 : Int32) (s0 : Int32) (s1 : Int32) (M : kx_M) (h : f_X5_statement_200 x2 s0 s1 M = some (r, M')) : kx_Rn EM T_X5_statement (d + 5) (200, [some (.ref 0), none, some (.int x2)], [.int s0, .int s1, .ref 0], M) (some (.int (kx_bi r))) M' := by
  unfold f_X5_statement_200 at h
  obtain ⟨v1, M3, hv2, h⟩ := kx_bd_some h
  refine kx_q_callV (as := [.int s1, .int s0]) (rest := []) (M1 := M3) (rv := some (.int v1)) kmo_0 rfl klk_X5_157 kse_X5_number rfl rfl rfl rfl (Nat.le_of_ble_eq_true rfl) (Nat.le_of_ble_eq_true rfl) (c_X5_number (d := d + 2) s1 s0 M v1 M3 hv2) ?_
  show kx_Rn _ _ _ (203, [some (.ref 0), none, some (.int x2)], [.int v1], M3) _ _
  refine kx_go (pc' := 206) (L' := [some (.ref 0), some (.int v1), some (.int x2)]) (st' := [.int (-1 : Int32), .int v1]) 3 rfl ?_
  refine kx_r_icmp_ne rfl (fun hc4 => ?_) (fun hc4 => ?_)
  · rw [if_neg hc4] at h
    refine kx_go (pc' := 212) (L' := [some (.ref 0), some (.int v1), some (.int x2)]) (st' := [.ref 0]) 1 rfl ?_
    refine kx_q_getR (k := 3) (j := 3) kmo_0 rfl kfl_X5_16 rfl ?_
    refine kx_go (pc' := 217) (L' := [some (.ref 0), some (.int v1), some (.int x2)]) (st' := [.int v1, .int x2, .ref 3]) 2 rfl ?_
    obtain ⟨hi5, h⟩ := kx_ck_some h
    refine kx_q_iast (kma_3) rfl hi5 ?_
    refine kx_go (pc' := 219) (L' := [some (.ref 0), some (.int v1), some (.int x2)]) (st' := [.int (1 : Int32)]) 1 rfl ?_
    cases h
    exact kx_r_zret rfl rfl (Or.inr rfl)
  · rw [if_pos hc4] at h
    refine kx_go (pc' := 210) (L' := [some (.ref 0), some (.int v1), some (.int x2)]) (st' := [.int (0 : Int32)]) 1 rfl ?_
    cases h
    exact kx_r_zret rfl rfl (Or.inl rfl)
set_option maxRecDepth 100000 in
set_option maxHeartbeats 4000000 in
theorem t_X5_statement_178 {d : Nat} {r : Bool} {M' : kx_M} (s0 : Int32) (M : kx_M) (h : f_X5_statement_178 s0 M = some (r, M')) : kx_Rn EM T_X5_statement (d + 5) (178, [some (.ref 0), none, none], [.int s0], M) (some (.int (kx_bi r))) M' := by
  unfold f_X5_statement_178 at h
  refine kx_go (pc' := 181) (L' := [some (.ref 0), none, some (.int s0)]) (st' := [.int (-1 : Int32), .int s0]) 3 rfl ?_
  refine kx_r_icmp_ne rfl (fun hc1 => ?_) (fun hc1 => ?_)
  · rw [if_neg hc1] at h
    refine kx_go (pc' := 189) (L' := [some (.ref 0), none, some (.int s0)]) (st' := [.int s0, .int (0 : Int32), .ref 0]) 3 rfl ?_
    refine kx_r_if_ne rfl (fun hc2 => ?_) (fun hc2 => ?_)
    · rw [if_neg hc2] at h
      refine kx_go (pc' := 200) (L' := [some (.ref 0), none, some (.int s0)]) (st' := [.int (999 : Int32), .int (0 : Int32), .ref 0]) 1 rfl ?_
      refine kx_wk [true, false, true] ?_
      exact t_X5_statement_200 s0 (999 : Int32) (0 : Int32) M h
    · rw [if_pos hc2] at h
      refine kx_go (pc' := 194) (L' := [some (.ref 0), none, some (.int s0)]) (st' := [.int (20 : Int32), .int (0 : Int32), .ref 0]) 1 rfl ?_
      refine kx_r_goto rfl ?_
      refine kx_wk [true, false, true] ?_
      exact t_X5_statement_200 s0 (20 : Int32) (0 : Int32) M h
  · rw [if_pos hc1] at h
    refine kx_go (pc' := 185) (L' := [some (.ref 0), none, some (.int s0)]) (st' := [.int (0 : Int32)]) 1 rfl ?_
    cases h
    exact kx_r_zret rfl rfl (Or.inl rfl)
set_option maxRecDepth 100000 in
set_option maxHeartbeats 4000000 in
theorem t_X5_statement_129 {d : Nat} {r : Bool} {M' : kx_M} (x1 : Int32) (s0 : Int32) (M : kx_M) (h : f_X5_statement_129 x1 s0 M = some (r, M')) : kx_Rn EM T_X5_statement (d + 5) (129, [some (.ref 0), some (.int x1), none], [.int s0], M) (some (.int (kx_bi r))) M' := by
  unfold f_X5_statement_129 at h
  refine kx_go (pc' := 132) (L' := [some (.ref 0), some (.int x1), some (.int s0)]) (st' := [.int (-1 : Int32), .int s0]) 3 rfl ?_
  refine kx_r_icmp_ne rfl (fun hc1 => ?_) (fun hc1 => ?_)
  · rw [if_neg hc1] at h
    refine kx_go (pc' := 138) (L' := [some (.ref 0), some (.int x1), some (.int s0)]) (st' := [.ref 0]) 1 rfl ?_
    refine kx_q_getR (k := 8) (j := 7) kmo_0 rfl kfl_X5_28 rfl ?_
    refine kx_go (pc' := 143) (L' := [some (.ref 0), some (.int x1), some (.int s0)]) (st' := [.int x1, .ref 7, .int x1, .ref 7]) 2 rfl ?_
    obtain ⟨hi2, h⟩ := kx_ck_some h
    refine kx_q_iald (kma_7) rfl hi2 ?_
    refine kx_go (pc' := 148) (L' := [some (.ref 0), some (.int x1), some (.int s0)]) (st' := [.int ((M.1 7 (x1).toNatClampNeg) ||| ((1 : Int32) <<< (s0 &&& 31))), .int x1, .ref 7]) 4 rfl ?_
    obtain ⟨hi3, h⟩ := kx_ck_some h
    refine kx_q_iast (kma_7) rfl hi3 ?_
    refine kx_go (pc' := 150) (L' := [some (.ref 0), some (.int x1), some (.int s0)]) (st' := [.int (1 : Int32)]) 1 rfl ?_
    cases h
    exact kx_r_zret rfl rfl (Or.inr rfl)
  · rw [if_pos hc1] at h
    refine kx_go (pc' := 136) (L' := [some (.ref 0), some (.int x1), some (.int s0)]) (st' := [.int (0 : Int32)]) 1 rfl ?_
    cases h
    exact kx_r_zret rfl rfl (Or.inl rfl)
set_option maxRecDepth 100000 in
set_option maxHeartbeats 4000000 in
theorem t_X5_statement {d : Nat} {r : Bool} {M' : kx_M} (M : kx_M) (h : f_X5_statement M = some (r, M')) : kx_Rn EM T_X5_statement (d + 5) (0, [some (.ref 0), none, none], [], M) (some (.int (kx_bi r))) M' := by
  unfold f_X5_statement at h
  refine kx_go (pc' := 1) (L' := [some (.ref 0), none, none]) (st' := [.ref 0]) 1 rfl ?_
  obtain ⟨v1, hv2, h⟩ := kx_bn_some h
  refine kt_r_isWord (q := ("VeilsOfTheViewModel", 160, "visitor", [118, 105, 115, 105, 116, 111, 114])) (idx := 160) (a0 := 162) (o := 0) (show decode T_X5_statement.2.1 1 = .ok (.ldc 160, 2) from by decide +kernel) (show decode T_X5_statement.2.1 3 = .ok (.invokevirtual 162, 3) from by decide +kernel) (List.mem_of_getElem? (i := 7) rfl) rfl rfl (by decide) kmo_0 klk_X5_162 kse_X5_isWord rfl rfl (Nat.le_of_ble_eq_true rfl) (Nat.le_of_ble_eq_true rfl) (c_X5_isWord (d := d + 0) ("VeilsOfTheViewModel", 160, "visitor", [118, 105, 115, 105, 116, 111, 114]) M v1 hv2) ?_
  show kx_Rn _ _ _ (6, [some (.ref 0), none, none], [.int (kx_bi v1)], M) _ _
  refine kx_q_zeq rfl (fun hc3 => ?_) (fun hc3 => ?_)
  · rw [if_neg hc3] at h
    refine kx_go (pc' := 15) (L' := [some (.ref 0), none, none]) (st' := [.ref 0]) 1 rfl ?_
    obtain ⟨v4, hv5, h⟩ := kx_bn_some h
    refine kt_r_isWord (q := ("VeilsOfTheViewModel", 170, "shy", [115, 104, 121])) (idx := 170) (a0 := 162) (o := 0) (show decode T_X5_statement.2.1 15 = .ok (.ldc 170, 2) from by decide +kernel) (show decode T_X5_statement.2.1 17 = .ok (.invokevirtual 162, 3) from by decide +kernel) (List.mem_of_getElem? (i := 8) rfl) rfl rfl (by decide) kmo_0 klk_X5_162 kse_X5_isWord rfl rfl (Nat.le_of_ble_eq_true rfl) (Nat.le_of_ble_eq_true rfl) (c_X5_isWord (d := d + 0) ("VeilsOfTheViewModel", 170, "shy", [115, 104, 121]) M v4 hv5) ?_
    show kx_Rn _ _ _ (20, [some (.ref 0), none, none], [.int (kx_bi v4)], M) _ _
    refine kx_q_zeq rfl (fun hc6 => ?_) (fun hc6 => ?_)
    · rw [if_neg hc6] at h
      refine kx_go (pc' := 35) (L' := [some (.ref 0), none, none]) (st' := [.ref 0]) 1 rfl ?_
      obtain ⟨v7, hv8, h⟩ := kx_bn_some h
      refine kt_r_isWord (q := ("VeilsOfTheViewModel", 175, "thing", [116, 104, 105, 110, 103])) (idx := 175) (a0 := 162) (o := 0) (show decode T_X5_statement.2.1 35 = .ok (.ldc 175, 2) from by decide +kernel) (show decode T_X5_statement.2.1 37 = .ok (.invokevirtual 162, 3) from by decide +kernel) (List.mem_of_getElem? (i := 9) rfl) rfl rfl (by decide) kmo_0 klk_X5_162 kse_X5_isWord rfl rfl (Nat.le_of_ble_eq_true rfl) (Nat.le_of_ble_eq_true rfl) (c_X5_isWord (d := d + 0) ("VeilsOfTheViewModel", 175, "thing", [116, 104, 105, 110, 103]) M v7 hv8) ?_
      show kx_Rn _ _ _ (40, [some (.ref 0), none, none], [.int (kx_bi v7)], M) _ _
      refine kx_q_zeq rfl (fun hc9 => ?_) (fun hc9 => ?_)
      · rw [if_neg hc9] at h
        refine kx_go (pc' := 55) (L' := [some (.ref 0), none, none]) (st' := [.ref 0]) 1 rfl ?_
        obtain ⟨v10, hv11, h⟩ := kx_bn_some h
        refine kt_r_isWord (q := ("VeilsOfTheViewModel", 176, "cells", [99, 101, 108, 108, 115])) (idx := 176) (a0 := 162) (o := 0) (show decode T_X5_statement.2.1 55 = .ok (.ldc 176, 2) from by decide +kernel) (show decode T_X5_statement.2.1 57 = .ok (.invokevirtual 162, 3) from by decide +kernel) (List.mem_of_getElem? (i := 10) rfl) rfl rfl (by decide) kmo_0 klk_X5_162 kse_X5_isWord rfl rfl (Nat.le_of_ble_eq_true rfl) (Nat.le_of_ble_eq_true rfl) (c_X5_isWord (d := d + 0) ("VeilsOfTheViewModel", 176, "cells", [99, 101, 108, 108, 115]) M v10 hv11) ?_
        show kx_Rn _ _ _ (60, [some (.ref 0), none, none], [.int (kx_bi v10)], M) _ _
        refine kx_q_zeq rfl (fun hc12 => ?_) (fun hc12 => ?_)
        · rw [if_neg hc12] at h
          refine kx_go (pc' := 89) (L' := [some (.ref 0), none, none]) (st' := [.ref 0]) 1 rfl ?_
          obtain ⟨v13, hv14, h⟩ := kx_bn_some h
          refine kt_r_isWord (q := ("VeilsOfTheViewModel", 178, "saw", [115, 97, 119])) (idx := 178) (a0 := 162) (o := 0) (show decode T_X5_statement.2.1 89 = .ok (.ldc 178, 2) from by decide +kernel) (show decode T_X5_statement.2.1 91 = .ok (.invokevirtual 162, 3) from by decide +kernel) (List.mem_of_getElem? (i := 11) rfl) rfl rfl (by decide) kmo_0 klk_X5_162 kse_X5_isWord rfl rfl (Nat.le_of_ble_eq_true rfl) (Nat.le_of_ble_eq_true rfl) (c_X5_isWord (d := d + 0) ("VeilsOfTheViewModel", 178, "saw", [115, 97, 119]) M v13 hv14) ?_
          show kx_Rn _ _ _ (94, [some (.ref 0), none, none], [.int (kx_bi v13)], M) _ _
          refine kx_q_zeq rfl (fun hc15 => ?_) (fun hc15 => ?_)
          · rw [if_neg hc15] at h
            refine kx_go (pc' := 152) (L' := [some (.ref 0), none, none]) (st' := [.ref 0]) 1 rfl ?_
            obtain ⟨v16, hv17, h⟩ := kx_bn_some h
            refine kt_r_isWord (q := ("VeilsOfTheViewModel", 180, "veil", [118, 101, 105, 108])) (idx := 180) (a0 := 162) (o := 0) (show decode T_X5_statement.2.1 152 = .ok (.ldc 180, 2) from by decide +kernel) (show decode T_X5_statement.2.1 154 = .ok (.invokevirtual 162, 3) from by decide +kernel) (List.mem_of_getElem? (i := 12) rfl) rfl rfl (by decide) kmo_0 klk_X5_162 kse_X5_isWord rfl rfl (Nat.le_of_ble_eq_true rfl) (Nat.le_of_ble_eq_true rfl) (c_X5_isWord (d := d + 0) ("VeilsOfTheViewModel", 180, "veil", [118, 101, 105, 108]) M v16 hv17) ?_
            show kx_Rn _ _ _ (157, [some (.ref 0), none, none], [.int (kx_bi v16)], M) _ _
            refine kx_q_zeq rfl (fun hc18 => ?_) (fun hc18 => ?_)
            · rw [if_neg hc18] at h
              refine kx_go (pc' := 165) (L' := [some (.ref 0), none, none]) (st' := [.ref 0]) 1 rfl ?_
              obtain ⟨v19, hv20, h⟩ := kx_bn_some h
              refine kt_r_isWord (q := ("VeilsOfTheViewModel", 182, "day", [100, 97, 121])) (idx := 182) (a0 := 162) (o := 0) (show decode T_X5_statement.2.1 165 = .ok (.ldc 182, 2) from by decide +kernel) (show decode T_X5_statement.2.1 167 = .ok (.invokevirtual 162, 3) from by decide +kernel) (List.mem_of_getElem? (i := 13) rfl) rfl rfl (by decide) kmo_0 klk_X5_162 kse_X5_isWord rfl rfl (Nat.le_of_ble_eq_true rfl) (Nat.le_of_ble_eq_true rfl) (c_X5_isWord (d := d + 0) ("VeilsOfTheViewModel", 182, "day", [100, 97, 121]) M v19 hv20) ?_
              show kx_Rn _ _ _ (170, [some (.ref 0), none, none], [.int (kx_bi v19)], M) _ _
              refine kx_q_zeq rfl (fun hc21 => ?_) (fun hc21 => ?_)
              · rw [if_neg hc21] at h
                refine kx_go (pc' := 178) (L' := [some (.ref 0), none, none]) (st' := [.int (-1 : Int32)]) 1 rfl ?_
                refine kx_wk [true, false, false] ?_
                exact t_X5_statement_178 (-1 : Int32) M h
              · rw [if_pos hc21] at h
                refine kx_go (pc' := 174) (L' := [some (.ref 0), none, none]) (st' := [.int (1 : Int32)]) 1 rfl ?_
                refine kx_r_goto rfl ?_
                refine kx_wk [true, false, false] ?_
                exact t_X5_statement_178 (1 : Int32) M h
            · rw [if_pos hc18] at h
              refine kx_go (pc' := 161) (L' := [some (.ref 0), none, none]) (st' := [.int (0 : Int32)]) 1 rfl ?_
              refine kx_r_goto rfl ?_
              refine kx_wk [true, false, false] ?_
              exact t_X5_statement_178 (0 : Int32) M h
          · rw [if_pos hc15] at h
            refine kx_go (pc' := 100) (L' := [some (.ref 0), none, none]) (st' := [.ref 0, .int (0 : Int32), .ref 0]) 3 rfl ?_
            refine kx_q_getI (k := 4) kmo_0 rfl kfl_X5_82 rfl ?_
            refine kx_go (pc' := 105) (L' := [some (.ref 0), none, none]) (st' := [.int ((M.1 0 4) - (1 : Int32)), .int (0 : Int32), .ref 0]) 2 rfl ?_
            obtain ⟨v22, M24, hv23, h⟩ := kx_bd_some h
            refine kx_q_callV (as := [.int (0 : Int32), .int ((M.1 0 4) - (1 : Int32))]) (rest := []) (M1 := M24) (rv := some (.int v22)) kmo_0 rfl klk_X5_157 kse_X5_number rfl rfl rfl rfl (Nat.le_of_ble_eq_true rfl) (Nat.le_of_ble_eq_true rfl) (c_X5_number (d := d + 2) (0 : Int32) ((M.1 0 4) - (1 : Int32)) M v22 M24 hv23) ?_
            show kx_Rn _ _ _ (108, [some (.ref 0), none, none], [.int v22], M24) _ _
            refine kx_go (pc' := 111) (L' := [some (.ref 0), some (.int v22), none]) (st' := [.int (-1 : Int32), .int v22]) 3 rfl ?_
            refine kx_r_icmp_ne rfl (fun hc25 => ?_) (fun hc25 => ?_)
            · rw [if_neg hc25] at h
              refine kx_go (pc' := 121) (L' := [some (.ref 0), some (.int v22), none]) (st' := [.ref 0, .int (0 : Int32), .ref 0]) 3 rfl ?_
              refine kx_q_getI (k := 0) kmo_0 rfl kfl_X5_65 rfl ?_
              refine kx_go (pc' := 126) (L' := [some (.ref 0), some (.int v22), none]) (st' := [.int ((M24.1 0 0) - (1 : Int32)), .int (0 : Int32), .ref 0]) 2 rfl ?_
              obtain ⟨v26, M28, hv27, h⟩ := kx_bd_some h
              refine kx_q_callV (as := [.int (0 : Int32), .int ((M24.1 0 0) - (1 : Int32))]) (rest := []) (M1 := M28) (rv := some (.int v26)) kmo_0 rfl klk_X5_157 kse_X5_number rfl rfl rfl rfl (Nat.le_of_ble_eq_true rfl) (Nat.le_of_ble_eq_true rfl) (c_X5_number (d := d + 2) (0 : Int32) ((M24.1 0 0) - (1 : Int32)) M24 v26 M28 hv27) ?_
              show kx_Rn _ _ _ (129, [some (.ref 0), some (.int v22), none], [.int v26], M28) _ _
              refine kx_wk [true, true, false] ?_
              exact t_X5_statement_129 v22 v26 M28 h
            · rw [if_pos hc25] at h
              refine kx_go (pc' := 115) (L' := [some (.ref 0), some (.int v22), none]) (st' := [.int (-1 : Int32)]) 1 rfl ?_
              refine kx_r_goto rfl ?_
              refine kx_wk [true, true, false] ?_
              exact t_X5_statement_129 v22 (-1 : Int32) M24 h
        · rw [if_pos hc12] at h
          refine kx_go (pc' := 65) (L' := [some (.ref 0), none, none]) (st' := [.ref 0, .ref 0]) 2 rfl ?_
          refine kx_q_getI (k := 0) kmo_0 rfl kfl_X5_65 rfl ?_
          refine kx_go (pc' := 70) (L' := [some (.ref 0), none, none]) (st' := [.int (24 : Int32), .int (M.1 0 0), .ref 0]) 1 rfl ?_
          obtain ⟨v29, M31, hv30, h⟩ := kx_bd_some h
          refine kx_q_callV (as := [.int (M.1 0 0), .int (24 : Int32)]) (rest := []) (M1 := M31) (rv := some (.int v29)) kmo_0 rfl klk_X5_157 kse_X5_number rfl rfl rfl rfl (Nat.le_of_ble_eq_true rfl) (Nat.le_of_ble_eq_true rfl) (c_X5_number (d := d + 2) (M.1 0 0) (24 : Int32) M v29 M31 hv30) ?_
          show kx_Rn _ _ _ (73, [some (.ref 0), none, none], [.int v29], M31) _ _
          refine kx_go (pc' := 76) (L' := [some (.ref 0), some (.int v29), none]) (st' := [.int (-1 : Int32), .int v29]) 3 rfl ?_
          refine kx_r_icmp_ne rfl (fun hc32 => ?_) (fun hc32 => ?_)
          · rw [if_neg hc32] at h
            refine kx_go (pc' := 83) (L' := [some (.ref 0), some (.int v29), none]) (st' := [.int v29, .ref 0]) 2 rfl ?_
            refine kx_q_putI (k := 0) kmo_0 rfl kfw_X5_65 rfl ?_
            refine kx_go (pc' := 87) (L' := [some (.ref 0), some (.int v29), none]) (st' := [.int (1 : Int32)]) 1 rfl ?_
            cases h
            exact kx_r_zret rfl rfl (Or.inr rfl)
          · rw [if_pos hc32] at h
            refine kx_go (pc' := 80) (L' := [some (.ref 0), some (.int v29), none]) (st' := [.int (0 : Int32)]) 1 rfl ?_
            cases h
            exact kx_r_zret rfl rfl (Or.inl rfl)
      · rw [if_pos hc9] at h
        refine kx_go (pc' := 45) (L' := [some (.ref 0), none, none]) (st' := [.ref 0, .ref 0]) 2 rfl ?_
        refine kx_q_getR (k := 2) (j := 2) kmo_0 rfl kfl_X5_13 rfl ?_
        refine kx_go (pc' := 50) (L' := [some (.ref 0), none, none]) (st' := [.int (9 : Int32), .ref 2, .ref 0]) 1 rfl ?_
        obtain ⟨v33, M35, hv34, h⟩ := kx_bd_some h
        refine kx_q_callV (as := [.ref 2, .int (9 : Int32)]) (rest := []) (M1 := M35) (rv := some (.int (kx_bi v33))) kmo_0 rfl klk_X5_171 kse_X5_tellsOf rfl rfl rfl rfl (Nat.le_of_ble_eq_true rfl) (Nat.le_of_ble_eq_true rfl) (c_X5_tellsOf (d := d + 1) 2 (kma_2) (9 : Int32) M v33 M35 hv34) ?_
        show kx_Rn _ _ _ (53, [some (.ref 0), none, none], [.int (kx_bi v33)], M35) _ _
        cases h
        exact kx_r_zret rfl rfl (kx_bi_or _)
    · rw [if_pos hc6] at h
      refine kx_go (pc' := 25) (L' := [some (.ref 0), none, none]) (st' := [.ref 0, .ref 0]) 2 rfl ?_
      refine kx_q_getR (k := 1) (j := 1) kmo_0 rfl kfl_X5_7 rfl ?_
      refine kx_go (pc' := 30) (L' := [some (.ref 0), none, none]) (st' := [.int (20 : Int32), .ref 1, .ref 0]) 1 rfl ?_
      obtain ⟨v36, M38, hv37, h⟩ := kx_bd_some h
      refine kx_q_callV (as := [.ref 1, .int (20 : Int32)]) (rest := []) (M1 := M38) (rv := some (.int (kx_bi v36))) kmo_0 rfl klk_X5_171 kse_X5_tellsOf rfl rfl rfl rfl (Nat.le_of_ble_eq_true rfl) (Nat.le_of_ble_eq_true rfl) (c_X5_tellsOf (d := d + 1) 1 (kma_1) (20 : Int32) M v36 M38 hv37) ?_
      show kx_Rn _ _ _ (33, [some (.ref 0), none, none], [.int (kx_bi v36)], M38) _ _
      cases h
      exact kx_r_zret rfl rfl (kx_bi_or _)
  · rw [if_pos hc3] at h
    refine kx_go (pc' := 10) (L' := [some (.ref 0), none, none]) (st' := [.ref 0]) 1 rfl ?_
    obtain ⟨v39, M41, hv40, h⟩ := kx_bd_some h
    refine kx_q_callV (as := []) (rest := []) (M1 := M41) (rv := some (.int (kx_bi v39))) kmo_0 rfl klk_X5_166 kse_X5_comesOne rfl rfl rfl rfl (Nat.le_of_ble_eq_true rfl) (Nat.le_of_ble_eq_true rfl) (c_X5_comesOne (d := d + 1) M v39 M41 hv40) ?_
    show kx_Rn _ _ _ (13, [some (.ref 0), none, none], [.int (kx_bi v39)], M41) _ _
    cases h
    exact kx_r_zret rfl rfl (kx_bi_or _)
theorem c_X5_statement {d : Nat} (M : kx_M) (r : Bool) (M' : kx_M) (h : f_X5_statement M = some (r, M')) : kx_Call EM (d + 5) T_X5_statement [.ref 0] M (some (.int (kx_bi r))) M' := kx_entry kok_X5_statement (Nat.le_of_ble_eq_true rfl) rfl (t_X5_statement (d := d) M h)
set_option maxRecDepth 100000 in
set_option maxHeartbeats 4000000 in
theorem t_X5_view_17 {d : Nat} {r : Int32} {M' : kx_M} : ∀ (n : Nat) (x1 : Int32) (x2 : Bool) (M : kx_M), f_X5_view_17 n x1 x2 M = some (r, M') → kx_Rn EM T_X5_view (d + 6) (17, [some (.ref 0), some (.int x1), some (.int (kx_bi x2))], [], M) (some (.int r)) M' := by
  intro n
  induction n with
  | zero =>
    intro x1 x2 M h
    cases (show (none : Option (Int32 × kx_M)) = some _ from h)
  | succ n ih =>
    intro x1 x2 M h
    rw [f_X5_view_17.eq_2] at h
    refine kx_go (pc' := 18) (L' := [some (.ref 0), some (.int x1), some (.int (kx_bi x2))]) (st' := [.int (kx_bi x2)]) 1 rfl ?_
    refine kx_q_zeq rfl (fun hc1 => ?_) (fun hc1 => ?_)
    · rw [if_neg hc1] at h
      refine kx_go (pc' := 80) (L' := [some (.ref 0), some (.int x1), some (.int (kx_bi x2))]) (st' := [.ref 0, .ref 0]) 2 rfl ?_
      refine kx_q_getR (k := 22) (j := 14) kmo_0 rfl kfl_X5_50 rfl ?_
      obtain ⟨M4, hv3, h⟩ := kx_bn_some h
      refine kx_q_callV (as := [.ref 14]) (rest := []) (M1 := M4) (rv := none) kmo_0 rfl klk_X5_191 kse_X5_again rfl rfl rfl rfl (Nat.le_of_ble_eq_true rfl) (Nat.le_of_ble_eq_true rfl) (c_X5_again (d := d + 5) 14 (kma_14) M M4 hv3) ?_
      show kx_Rn _ _ _ (86, [some (.ref 0), some (.int x1), some (.int (kx_bi x2))], [], M4) _ _
      refine kx_go (pc' := 88) (L' := [some (.ref 0), some (.int x1), some (.int (kx_bi x2))]) (st' := [.int (0 : Int32), .ref 0]) 2 rfl ?_
      refine kx_q_putI (k := 10) kmo_0 rfl kfw_X5_123 rfl ?_
      refine kx_go (pc' := 94) (L' := [some (.ref 0), some (.int x1), some (.int (kx_bi x2))]) (st' := [.int (-2 : Int32), .ref 0]) 2 rfl ?_
      obtain ⟨v5, M7, hv6, h⟩ := kx_bd_some h
      refine kx_q_callV (as := [.int (-2 : Int32)]) (rest := []) (M1 := M7) (rv := some (.int v5)) kmo_0 rfl klk_X5_89 kse_X5_no rfl rfl rfl rfl (Nat.le_of_ble_eq_true rfl) (Nat.le_of_ble_eq_true rfl) (c_X5_no (d := d + 5) (-2 : Int32) (kx_u1 M4 0 10 (0 : Int32)) v5 M7 hv6) ?_
      show kx_Rn _ _ _ (97, [some (.ref 0), some (.int x1), some (.int (kx_bi x2))], [.int v5], M7) _ _
      refine kx_go (pc' := 101) (L' := [some (.ref 0), some (.int x1), some (.int (kx_bi x2))]) (st' := [.ref 0, .int (-20 : Int32)]) 3 rfl ?_
      refine kx_q_getI (k := 12) kmo_0 rfl kfl_X5_129 rfl ?_
      refine kx_go (pc' := 105) (L' := [some (.ref 0), some (.int x1), some (.int (kx_bi x2))]) (st' := [.int ((-20 : Int32) - (M7.1 0 12))]) 1 rfl ?_
      obtain ⟨rfl, rfl⟩ := kx_inj2 h
      exact kx_r_iret rfl rfl
    · rw [if_pos hc1] at h
      refine kx_go (pc' := 22) (L' := [some (.ref 0), some (.int x1), some (.int (kx_bi x2))]) (st' := [.ref 0]) 1 rfl ?_
      obtain ⟨M10, hv9, h⟩ := kx_bn_some h
      refine kx_q_callV (as := []) (rest := []) (M1 := M10) (rv := none) kmo_0 rfl klk_X5_154 kse_X5_next rfl rfl rfl rfl (Nat.le_of_ble_eq_true rfl) (Nat.le_of_ble_eq_true rfl) (c_X5_next (d := d + 4) M M10 hv9) ?_
      show kx_Rn _ _ _ (25, [some (.ref 0), some (.int x1), some (.int (kx_bi x2))], [], M10) _ _
      refine kx_go (pc' := 26) (L' := [some (.ref 0), some (.int x1), some (.int (kx_bi x2))]) (st' := [.ref 0]) 1 rfl ?_
      obtain ⟨v11, M13, hv12, h⟩ := kx_bd_some h
      refine kx_q_callV (as := []) (rest := []) (M1 := M13) (rv := some (.int (kx_bi v11))) kmo_0 rfl klk_X5_188 kse_X5_statement rfl rfl rfl rfl (Nat.le_of_ble_eq_true rfl) (Nat.le_of_ble_eq_true rfl) (c_X5_statement (d := d + 0) M10 v11 M13 hv12) ?_
      show kx_Rn _ _ _ (29, [some (.ref 0), some (.int x1), some (.int (kx_bi x2))], [.int (kx_bi v11)], M13) _ _
      refine kx_go (pc' := 31) (L' := [some (.ref 0), some (.int x1), some (.int (kx_bi v11))]) (st' := [.int (kx_bi v11)]) 2 rfl ?_
      refine kx_q_zne rfl (fun hc14 => ?_) (fun hc14 => ?_)
      · rw [if_pos hc14] at h
        refine kx_go (pc' := 41) (L' := [some (.ref 0), some (.int (x1 + (1))), some (.int (kx_bi v11))]) (st' := [.ref 0]) 2 rfl ?_
        obtain ⟨M17, hv16, h⟩ := kx_bn_some h
        refine kx_q_callV (as := []) (rest := []) (M1 := M17) (rv := none) kmo_0 rfl klk_X5_154 kse_X5_next rfl rfl rfl rfl (Nat.le_of_ble_eq_true rfl) (Nat.le_of_ble_eq_true rfl) (c_X5_next (d := d + 4) M13 M17 hv16) ?_
        show kx_Rn _ _ _ (44, [some (.ref 0), some (.int (x1 + (1))), some (.int (kx_bi v11))], [], M17) _ _
        refine kx_go (pc' := 45) (L' := [some (.ref 0), some (.int (x1 + (1))), some (.int (kx_bi v11))]) (st' := [.ref 0]) 1 rfl ?_
        refine kx_q_getI (k := 14) kmo_0 rfl kfl_X5_132 rfl ?_
        refine kx_go (pc' := 50) (L' := [some (.ref 0), some (.int (x1 + (1))), some (.int (kx_bi v11))]) (st' := [.int (101 : Int32), .int (M17.1 0 14)]) 1 rfl ?_
        refine kx_r_icmp_ne rfl (fun hc18 => ?_) (fun hc18 => ?_)
        · rw [if_neg hc18] at h
          refine kx_go (pc' := 61) (L' := [some (.ref 0), some (.int (x1 + (1))), some (.int (kx_bi v11))]) (st' := [.ref 0]) 1 rfl ?_
          refine kx_q_getI (k := 14) kmo_0 rfl kfl_X5_132 rfl ?_
          refine kx_go (pc' := 66) (L' := [some (.ref 0), some (.int (x1 + (1))), some (.int (kx_bi v11))]) (st' := [.int (59 : Int32), .int (M17.1 0 14)]) 1 rfl ?_
          refine kx_r_icmp_ne rfl (fun hc19 => ?_) (fun hc19 => ?_)
          · rw [if_neg hc19] at h
            refine kx_go (pc' := 75) (L' := [some (.ref 0), some (.int (x1 + (1))), some (.int (0 : Int32))]) (st' := []) 2 rfl ?_
            refine kx_r_goto rfl ?_
            refine kx_wk [true, true, true] ?_
            exact ih (x1 + (1)) false M17 h
          · rw [if_pos hc19] at h
            refine kx_go (pc' := 70) (L' := [some (.ref 0), some (.int (x1 + (1))), some (.int (kx_bi v11))]) (st' := [.int (1 : Int32)]) 1 rfl ?_
            refine kx_r_goto rfl ?_
            refine kx_go (pc' := 75) (L' := [some (.ref 0), some (.int (x1 + (1))), some (.int (1 : Int32))]) (st' := []) 1 rfl ?_
            refine kx_r_goto rfl ?_
            refine kx_wk [true, true, true] ?_
            exact ih (x1 + (1)) true M17 h
        · rw [if_pos hc18] at h
          refine kx_go (pc' := 55) (L' := [some (.ref 0), some (.int (x1 + (1))), some (.int (kx_bi v11))]) (st' := [.int (0 : Int32), .ref 0]) 2 rfl ?_
          refine kx_q_putI (k := 10) kmo_0 rfl kfw_X5_123 rfl ?_
          refine kx_go (pc' := 59) (L' := [some (.ref 0), some (.int (x1 + (1))), some (.int (kx_bi v11))]) (st' := [.int (x1 + (1))]) 1 rfl ?_
          cases h
          exact kx_r_iret rfl rfl
      · rw [if_neg hc14] at h
        refine kx_r_goto rfl ?_
        refine kx_wk [true, true, true] ?_
        exact ih x1 v11 M13 h
set_option maxRecDepth 100000 in
set_option maxHeartbeats 4000000 in
theorem t_X5_view {d : Nat} {r : Int32} {M' : kx_M} (M : kx_M) (h : f_X5_view M = some (r, M')) : kx_Rn EM T_X5_view (d + 6) (0, [some (.ref 0), none, none], [], M) (some (.int r)) M' := by
  unfold f_X5_view at h
  refine kx_go (pc' := 2) (L' := [some (.ref 0), none, none]) (st' := [.ref 0, .ref 0]) 2 rfl ?_
  refine kx_q_getR (k := 22) (j := 14) kmo_0 rfl kfl_X5_50 rfl ?_
  obtain ⟨M3, hv2, h⟩ := kx_bn_some h
  refine kx_q_callV (as := [.ref 14]) (rest := []) (M1 := M3) (rv := none) kmo_0 rfl klk_X5_184 kse_X5_keep rfl rfl rfl rfl (Nat.le_of_ble_eq_true rfl) (Nat.le_of_ble_eq_true rfl) (c_X5_keep (d := d + 5) 14 (kma_14) M M3 hv2) ?_
  show kx_Rn _ _ _ (8, [some (.ref 0), none, none], [], M3) _ _
  refine kx_go (pc' := 10) (L' := [some (.ref 0), none, none]) (st' := [.int (0 : Int32), .ref 0]) 2 rfl ?_
  refine kx_q_putI (k := 13) kmo_0 rfl kfw_X5_126 rfl ?_
  refine kx_go (pc' := 17) (L' := [some (.ref 0), some (.int (0 : Int32)), some (.int (1 : Int32))]) (st' := []) 4 rfl ?_
  refine kx_wk [true, true, true] ?_
  exact t_X5_view_17 kx_fuel (0 : Int32) true (kx_u1 M3 0 13 (0 : Int32)) h
theorem c_X5_view {d : Nat} (M : kx_M) (r : Int32) (M' : kx_M) (h : f_X5_view M = some (r, M')) : kx_Call EM (d + 6) T_X5_view [.ref 0] M (some (.int r)) M' := kx_entry kok_X5_view (Nat.le_of_ble_eq_true rfl) rfl (t_X5_view (d := d) M h)
