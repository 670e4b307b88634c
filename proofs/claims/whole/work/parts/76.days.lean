/-! status; days by draws -/
theorem kv_s_status {Mx Mm : kx_M} (h : kv_Inv Mx Mm) (a : Int32) : kv_SimR (f_X4_status Mx a) (f_X5_status Mm a) := by
  obtain ⟨V, hok, hX, hM, hK, hS, ⟨z, hz, t1, t2, t3⟩, hR⟩ := id h
  unfold f_X4_status f_X5_status
  rw [kv_within]
  by_cases hw : f_X4_isWithin a (12 : Int32) (16 : Int32) = true
  · rw [if_pos hw]
    have h16 : f_X4_isWithin a 0 (nI 16) = true := by
      rw [z_within, decide_eq_true_eq] at hw ⊢
      exact ⟨Int32.le_trans (by decide) hw.1, hw.2⟩
    obtain ⟨m, hm, rfl⟩ := z_in (n := 16) (by omega) h16
    have hm12 : 12 ≤ m := by
      rw [z_within, decide_eq_true_eq] at hw
      exact (nI_leI (a := 12) (by omega) (by omega)).mp hw.1
    have hmm : m = 12 ∨ m = 13 ∨ m = 14 ∨ m = 15 ∨ m = 16 := by omega
    rcases hmm with rfl | rfl | rfl | rfl | rfl
    · exact ⟨Mx.1 47 0, rfl, congrArg some (hR 0 (by omega)).symm⟩
    · exact ⟨Mx.1 47 1, rfl, congrArg some (hR 1 (by omega)).symm⟩
    · exact ⟨Mx.1 47 2, rfl, congrArg some (hR 2 (by omega)).symm⟩
    · exact ⟨Mx.1 47 3, rfl, congrArg some (hR 3 (by omega)).symm⟩
    · exact ⟨Mx.1 47 4, rfl, congrArg some (hR 4 (by omega)).symm⟩
  · rw [if_neg hw, if_neg hw]
    by_cases h0 : a = (0 : Int32)
    · rw [if_pos h0, if_pos h0]
      exact ⟨_, congrArg some hX.1.2.2.2.2, congrArg some hM.1.2.2.2.2⟩
    · rw [if_neg h0, if_neg h0]
      by_cases h1 : a = (1 : Int32)
      · rw [if_pos h1, if_pos h1]
        exact ⟨_, congrArg some hX.1.1, congrArg some hM.1.1⟩
      · rw [if_neg h1, if_neg h1]
        by_cases h2 : a = (2 : Int32)
        · subst h2
          exact ⟨_, congrArg some hX.1.2.1, congrArg some hM.1.2.1⟩
        · rw [if_neg h2, if_neg h2]
          by_cases h3 : a = (3 : Int32)
          · subst h3
            exact ⟨_, congrArg some hX.1.2.2.1, congrArg some hM.1.2.2.1⟩
          · rw [if_neg h3, if_neg h3]
            by_cases h4 : a = (4 : Int32)
            · rw [if_pos h4, if_pos h4, s_X0_all hX, s_X5_all hM, s_X0_known hok hX, s_X5_known hok hM]
              exact ⟨_, rfl, rfl⟩
            · rw [if_neg h4, if_neg h4]
              by_cases h5 : a = (5 : Int32)
              · rw [if_pos h5, if_pos h5]
                exact ⟨_, congrArg some t1, congrArg some t2⟩
              · rw [if_neg h5, if_neg h5]
                by_cases h6 : a = (6 : Int32)
                · rw [if_pos h6, if_pos h6]
                  exact ⟨_, congrArg some hX.1.2.2.2.1, congrArg some hM.1.2.2.2.1⟩
                · rw [if_neg h6, if_neg h6]
                  by_cases h7 : a = (7 : Int32)
                  · rw [if_pos h7, if_pos h7]
                    have e1 : f_X4_shelvesInUse Mx = some (kz_up (fun i b => if Mm.1 9 i = (-1 : Int32) then b else b + 1) 8 0 0) := by
                      unfold f_X4_shelvesInUse
                      exact kz_run0 (F := fun n i b => f_X4_shelvesInUse_4 Mx n b i) (k := fun b => some b) 8 0 (by omega)
                        (fun n b => by
                          rw [f_X4_shelvesInUse_4.eq_2]
                          exact if_pos (by decide))
                        (fun n i b hi => by
                          rw [f_X4_shelvesInUse_4.eq_2, if_neg (show ¬ (8 : Int32) ≤ nI i from nI_ge (b := 8) hi (by omega)), z_ck hi (by decide), nI_clamp (by omega), nI_1, (hS i hi).1]
                          split <;> rfl)
                    have e2 : f_X5_status_91 Mm kx_fuel (0 : Int32) (0 : Int32) = some (kz_up (fun i b => if Mm.1 9 i = (-1 : Int32) then b else b + 1) 8 0 0) :=
                      kz_run0 (F := fun n i b => f_X5_status_91 Mm n b i) (k := fun b => some b) 8 0 (by omega)
                        (fun n b => by
                          rw [f_X5_status_91.eq_2]
                          exact if_pos (by decide))
                        (fun n i b hi => by
                          rw [f_X5_status_91.eq_2, if_neg (show ¬ (8 : Int32) ≤ nI i from nI_ge (b := 8) hi (by omega)), z_ck hi (by decide), nI_clamp (by omega), nI_1]
                          split <;> rfl)
                    rw [e1, e2]
                    exact ⟨_, rfl, rfl⟩
                  · rw [if_neg h7, if_neg h7]
                    exact ⟨_, rfl, rfl⟩
/-- a loop that goes on from state to state, or ends -/
theorem kz_rel {α β : Type} {F : Nat → Int32 → α → Option β} {N : Nat} (P : Nat → α → Prop) (Q : Option β → Prop) (hx : ∀ n a, P N a → Q (F (n + 1) (nI N) a)) (hs : ∀ n i a, i < N → P i a → Q (F (n + 1) (nI i) a) ∨ ∃ a', P (i + 1) a' ∧ F (n + 1) (nI i) a = F n (nI (i + 1)) a') : ∀ (m i n : Nat) (a : α), i + m = N → m < n → P i a → Q (F n (nI i) a)
  | 0, i, 0, a, _, h, _ => absurd h (Nat.not_lt_zero _)
  | m + 1, i, 0, a, _, h, _ => absurd h (Nat.not_lt_zero _)
  | 0, i, n + 1, a, h, _, hp => by
    have : i = N := by omega
    subst this
    exact hx n a hp
  | m + 1, i, n + 1, a, h, hn, hp => by
    rcases hs n i a (by omega) hp with q | ⟨a', h1, h2⟩
    · exact q
    · rw [h2]
      exact kz_rel P Q hx hs m (i + 1) n a' (by omega) (by omega) h1
theorem kx_bd_ok {α β : Type} {v : α} {M : kx_M} {f : α → kx_M → Option β} : kx_bd (some (v, M)) f = f v M := rfl
def s_sd1 (s : Int32) : Int32 := (s * (1103515245 : Int32)) + (12345 : Int32)
def s_hi (s : Int32) : Int32 := ((s).toUInt32 >>> (((16 : Int32)).toUInt32 &&& Int32.toUInt32 31)).toInt32
def s_dr (s n : Int32) : Int32 := s_hi s - s_hi s / n * n
theorem s_hi_n (s : Int32) : ∃ q, q < 65536 ∧ s_hi s = nI q := by
  refine ⟨(s_hi s).toBitVec.toNat, ?_, z_nI _⟩
  have e : (s_hi s).toBitVec = s.toUInt32.toBitVec >>> 16 := by
    unfold s_hi
    show (s.toUInt32 >>> ((nI 16).toUInt32 &&& Int32.toUInt32 31)).toBitVec = _
    rw [UInt32.toBitVec_shiftRight]
    show s.toUInt32.toBitVec >>> (((nI 16).toUInt32 &&& Int32.toUInt32 31).toBitVec % 32).toNat = _
    rw [s_u 16 (by omega)]
  rw [e, BitVec.toNat_ushiftRight, Nat.shiftRight_eq_div_pow]
  have := s.toUInt32.toBitVec.isLt
  omega
theorem s_dr21 (s : Int32) : ∃ m, m < 21 ∧ s_dr s 21 = nI m := by
  obtain ⟨q, hq, e⟩ := s_hi_n s
  refine ⟨q % 21, Nat.mod_lt _ (by omega), ?_⟩
  unfold s_dr
  rw [e]
  exact pk_rem (a := q) (d := 21) (by omega) (by omega) (by omega)
theorem s_X0_draw2 (o : Nat) (M : kx_M) : f_X0_draw o (2 : Int32) M = some (s_dr (s_sd1 (M.1 o 10)) 2, kx_u1 M o 10 (s_sd1 (M.1 o 10))) := by
  unfold f_X0_draw
  rw [if_neg (by decide), kv_u1_at]
  rfl
theorem s_X0_draw21 (o : Nat) (M : kx_M) : f_X0_draw o (21 : Int32) M = some (s_dr (s_sd1 (M.1 o 10)) 21, kx_u1 M o 10 (s_sd1 (M.1 o 10))) := by
  unfold f_X0_draw
  rw [if_neg (by decide), kv_u1_at]
  rfl
theorem s_X5_draw2 (M : kx_M) : f_X5_draw (2 : Int32) M = some (s_dr (s_sd1 (M.1 0 9)) 2, kx_u1 M 0 9 (s_sd1 (M.1 0 9))) := by
  unfold f_X5_draw
  rw [kv_u1_at]
  rfl
theorem s_X5_draw21 (M : kx_M) : f_X5_draw (21 : Int32) M = some (s_dr (s_sd1 (M.1 0 9)) 21, kx_u1 M 0 9 (s_sd1 (M.1 0 9))) := by
  unfold f_X5_draw
  rw [kv_u1_at]
  rfl
def s_gst (x : Nat) (a : Int32 × Int32) : Int32 × Int32 := (s_sd1 a.1, if s_dr (s_sd1 a.1) 2 = (1 : Int32) then a.2 ||| ((1 : Int32) <<< (nI x &&& 31)) else a.2)
def s_grp (V : kv_V) : Int32 × Int32 := kz_up s_gst (V.1 5 3) 0 (s_sd1 V.2.2, 0)
def s_dv (V : kv_V) : kv_V := kv_put (kv_sd V (s_grp V).1) 5 1 (s_dr (s_sd1 V.2.2) 21).toNatClampNeg
def s_dayV (V : kv_V) : kv_V := if (s_grp V).2 = 0 then kv_put (s_dv V) 5 2 (s_day1 (V.1 5 2)) else s_go (s_dv V) (s_grp V).2
def s_dayN (V : kv_V) : Int32 := if (s_grp V).2 = 0 then 0 else f_J6_bitCount_0f7a4 (s_new (s_dv V) (s_grp V).2)
theorem kv_sd_put (V : kv_V) (s t : Int32) (r i w : Nat) : kv_sd (kv_put (kv_sd V s) r i w) t = kv_put (kv_sd V t) r i w := rfl
theorem kv_ok_dv {V : kv_V} (hok : kv_ok V) : kv_ok (s_dv V) := by
  obtain ⟨m, hm, e⟩ := s_dr21 (s_sd1 V.2.2)
  unfold s_dv
  rw [e, nI_clamp (by omega)]
  exact kv_ok_veil (kv_ok_sd hok _) (by omega)
theorem kv_ok_dayV {V : kv_V} (hok : kv_ok V) : kv_ok (s_dayV V) := by
  unfold s_dayV
  split
  · exact kv_ok_day (kv_ok_dv hok) (s_day1_le _)
  · exact kv_ok_go (kv_ok_dv hok) _
theorem s_dayV_v (V : kv_V) : (s_dayV V).1 5 3 = V.1 5 3 := by
  unfold s_dayV
  split <;> rfl
theorem s_X0_day {M : kx_M} {o : Nat} {V : kv_V} (hok : kv_ok V) (hX : kv_X M o V) : ∃ M', f_X0_dayByDraws o M = some (s_dayN V, M') ∧ kv_X M' o (s_dayV V) ∧ (∀ r, ¬ (o ≤ r ∧ r ≤ o + 7) → M'.1 r = M.1 r) ∧ M'.2 = M.2 := by
  have hv := hok.2.2.2.1
  obtain ⟨m, hm, e⟩ := s_dr21 (s_sd1 V.2.2)
  have X1 := kv_X_veil (w := m) (kv_X_seed (v := s_sd1 V.2.2) hX)
  unfold f_X0_dayByDraws
  rw [s_X0_draw21, hX.1.2.2.2.1, e, kx_bd_ok]
  generalize e4 : kx_u1 (kx_u1 M o 10 (s_sd1 V.2.2)) o 8 (nI m) = M4 at X1
  have y10 : M4.1 o 10 = s_sd1 V.2.2 := X1.1.2.2.2.1
  have y11 : M4.1 o 11 = nI (V.1 5 3) := X1.1.2.2.2.2
  have f4 : (∀ r, ¬ r = o → M4.1 r = M.1 r) ∧ M4.2 = M.2 := by
    rw [← e4]
    exact ⟨fun r hr => by rw [kx_u1_ne hr, kx_u1_ne hr], rfl⟩
  have lp := kz_run0 (F := fun n i a => f_X0_dayByDraws_14 o n a.2 i (kx_u1 M4 o 10 a.1)) (st := s_gst) (k := fun a => if a.2 = 0 then ((f_X0_passDay o (kx_u1 M4 o 10 a.1)).bind fun M10 => some ((0 : Int32), M10)) else ((f_X0_newBy o (kx_u1 M4 o 10 a.1) a.2).bind fun v3 => ((f_X0_goTogether o a.2 (kx_u1 M4 o 10 a.1)).bind fun M7 => some ((f_J6_bitCount_0f7a4 v3), M7)))) (V.1 5 3) (s_sd1 V.2.2, (0 : Int32)) (by omega)
    (fun n a => by
      have y : (kx_u1 M4 o 10 a.1).1 o 11 = nI (V.1 5 3) := (kv_u1_no (by omega)).trans y11
      rw [f_X0_dayByDraws_14.eq_2, y]
      exact if_pos (Int32.le_refl _))
    (fun n i a hi => by
      have y : (kx_u1 M4 o 10 a.1).1 o 11 = nI (V.1 5 3) := (kv_u1_no (by omega)).trans y11
      rw [f_X0_dayByDraws_14.eq_2, y, if_neg (nI_ge hi (by omega)), s_X0_draw2, kv_u1_at, kx_u1_twice, nI_1, kx_bd_ok]
      unfold s_gst
      dsimp only
      by_cases q : s_dr (s_sd1 a.1) 2 = (1 : Int32)
      · rw [if_pos q, if_pos q]
      · rw [if_neg q, if_neg q])
  rw [kx_u1_same y10] at lp
  have X2 : kv_X (kx_u1 M4 o 10 (s_grp V).1) o (s_dv V) := by
    have := kv_X_seed (v := (s_grp V).1) X1
    unfold s_dv
    rw [e, nI_clamp (by omega)]
    rw [kv_sd_put] at this
    exact this
  have hg : kz_up s_gst (V.1 5 3) 0 (s_sd1 V.2.2, (0 : Int32)) = s_grp V := rfl
  rw [hg] at lp
  unfold s_dayN s_dayV
  by_cases h0 : (s_grp V).2 = 0
  · rw [if_pos h0] at lp
    rw [if_pos h0, if_pos h0]
    rw [s_X0_pass (kv_ok_dv hok) X2, Option.bind_some] at lp
    refine ⟨_, lp, kv_X_day X2, fun r hr => ?_, f4.2⟩
    rw [kx_u1_ne (by omega), kx_u1_ne (by omega)]
    exact f4.1 r (by omega)
  · rw [if_neg h0] at lp
    rw [if_neg h0, if_neg h0]
    obtain ⟨M', g1, g2, g3, g4⟩ := s_X0_go (kv_ok_dv hok) X2 (s_grp V).2
    rw [s_X0_new (kv_ok_dv hok) X2, g1, Option.bind_some, Option.bind_some] at lp
    refine ⟨M', lp, g2, fun r hr => ?_, g4.trans f4.2⟩
    rw [g3 r hr, kx_u1_ne (by omega)]
    exact f4.1 r (by omega)
theorem s_X5_day {M : kx_M} {V : kv_V} {k : Int32 → Int32 → Int32 → kx_M → Option (Int32 × kx_M)} {x1 x2 x3 : Int32} (hok : kv_ok V) (hM : kv_M M V) : ∃ M', (kx_bd (f_X5_draw (21 : Int32) M) fun v2 M4 => (kx_ck 2 (0 : Int32) (f_X5_days_44 k kx_fuel x1 x2 x3 (0 : Int32) (0 : Int32) (kx_u1 M4 3 ((0 : Int32)).toNatClampNeg v2)))) = k x1 (x2 + s_dayN V) (x3 + 1) M' ∧ kv_M M' (s_dayV V) ∧ frM M M' := by
  have hv := hok.2.2.2.1
  obtain ⟨m, hm, e⟩ := s_dr21 (s_sd1 V.2.2)
  have X1 := kv_M_veil (w := m) (kv_M_seed (v := s_sd1 V.2.2) hM)
  rw [s_X5_draw21, hM.1.2.2.2.1, e, kx_bd_ok, z_ck2a, z_c0]
  have f4 : frM M (kx_u1 (kx_u1 M 0 9 (s_sd1 V.2.2)) 3 0 (nI m)) := frM_trans (frM_0 (by omega)) (frM_u1 (by omega))
  generalize e4 : kx_u1 (kx_u1 M 0 9 (s_sd1 V.2.2)) 3 0 (nI m) = M4 at X1 f4
  have y10 : M4.1 0 9 = s_sd1 V.2.2 := X1.1.2.2.2.1
  have y11 : M4.1 0 4 = nI (V.1 5 3) := X1.1.2.2.2.2
  have lp := kz_run0 (F := fun n i a => f_X5_days_44 k n x1 x2 x3 a.2 i (kx_u1 M4 0 9 a.1)) (st := s_gst) (k := fun a => if a.2 = 0 then ((f_X5_passesDay (kx_u1 M4 0 9 a.1)).bind fun M10 => k x1 x2 (x3 + (1)) M10) else ((f_X5_newOf (kx_u1 M4 0 9 a.1) a.2).bind fun v3 => ((f_X5_goes a.2 (kx_u1 M4 0 9 a.1)).bind fun M7 => k x1 (x2 + (f_J6_bitCount_0f7a4 v3)) (x3 + (1)) M7))) (V.1 5 3) (s_sd1 V.2.2, (0 : Int32)) (by omega)
    (fun n a => by
      have y : (kx_u1 M4 0 9 a.1).1 0 4 = nI (V.1 5 3) := (kv_u1_no (by omega)).trans y11
      rw [f_X5_days_44.eq_2, y]
      exact if_pos (Int32.le_refl _))
    (fun n i a hi => by
      have y : (kx_u1 M4 0 9 a.1).1 0 4 = nI (V.1 5 3) := (kv_u1_no (by omega)).trans y11
      rw [f_X5_days_44.eq_2, y, if_neg (nI_ge hi (by omega)), s_X5_draw2, kv_u1_at, kx_u1_twice, nI_1, kx_bd_ok]
      unfold s_gst
      dsimp only
      by_cases q : s_dr (s_sd1 a.1) 2 = (1 : Int32)
      · rw [if_pos q, if_pos q]
      · rw [if_neg q, if_neg q])
  rw [kx_u1_same y10] at lp
  have X2 : kv_M (kx_u1 M4 0 9 (s_grp V).1) (s_dv V) := by
    have := kv_M_seed (v := (s_grp V).1) X1
    unfold s_dv
    rw [e, nI_clamp (by omega)]
    rw [kv_sd_put] at this
    exact this
  have f5 : frM M (kx_u1 M4 0 9 (s_grp V).1) := frM_trans f4 (frM_0 (by omega))
  have hg : kz_up s_gst (V.1 5 3) 0 (s_sd1 V.2.2, (0 : Int32)) = s_grp V := rfl
  rw [hg] at lp
  unfold s_dayN s_dayV
  by_cases h0 : (s_grp V).2 = 0
  · rw [if_pos h0] at lp
    rw [if_pos h0, if_pos h0, Int32.add_zero]
    rw [s_X5_pass (kv_ok_dv hok) X2, Option.bind_some] at lp
    exact ⟨_, lp, kv_M_day X2, frM_trans f5 (frM_u1 (by omega))⟩
  · rw [if_neg h0] at lp
    rw [if_neg h0, if_neg h0]
    obtain ⟨M', g1, g2, g3, g4⟩ := s_X5_go (kv_ok_dv hok) X2 (s_grp V).2
    rw [s_X5_new (kv_ok_dv hok) X2, g1, Option.bind_some, Option.bind_some] at lp
    exact ⟨M', lp, g2, frM_trans f5 (frM_go g3 g4)⟩
def s_days (V : kv_V) : Nat → Int32 × kv_V
  | 0 => (0, V)
  | i + 1 => ((s_days V i).1 + s_dayN (s_days V i).2, s_dayV (s_days V i).2)
theorem kv_ok_days {V : kv_V} (hok : kv_ok V) : ∀ i, kv_ok (s_days V i).2
  | 0 => hok
  | i + 1 => kv_ok_dayV (kv_ok_days hok i)
theorem s_days_v (V : kv_V) : ∀ i, (s_days V i).2.1 5 3 = V.1 5 3
  | 0 => rfl
  | i + 1 => (s_dayV_v _).trans (s_days_v V i)
theorem kv_s_days {Mx Mm : kx_M} (h : kv_Inv Mx Mm) (a : Int32) : kv_Sim (f_X4_days a Mx) (f_X5_days a Mm) := by
  obtain ⟨V, hok, hX, hM, hR⟩ := id h
  unfold f_X4_days f_X5_days
  rw [kv_within]
  refine kv_Sim_if (fun h1 => ?_) (fun _ => kv_Sim_no h)
  have h60 : f_X4_isWithin a 0 (nI 60) = true := by
    rw [z_within, decide_eq_true_eq] at h1 ⊢
    exact ⟨Int32.le_trans (by decide) h1.1, h1.2⟩
  obtain ⟨d, hd, rfl⟩ := z_in (n := 60) (by omega) h60
  have hx := kz_rel (F := fun n i (a : Int32 × kx_M) => f_X4_days_21 n (nI d) a.1 i a.2) (N := d) (fun i a => a.1 = (s_days V i).1 ∧ kv_X a.2 1 (s_days V i).2 ∧ frX Mx a.2) (fun z => ∃ M', z = some ((s_days V d).1, M') ∧ kv_X M' 1 (s_days V d).2 ∧ frX Mx M')
    (fun n a hP => by
      obtain ⟨p1, p2, p3⟩ := hP
      refine ⟨a.2, ?_, p2, p3⟩
      rw [f_X4_days_21.eq_2, if_pos (Int32.le_refl _), p1])
    (fun n i a hi hP => by
      obtain ⟨p1, p2, p3⟩ := hP
      obtain ⟨M', g1, g2, g3, g4⟩ := s_X0_day (kv_ok_days hok i) p2
      refine Or.inr ⟨((s_days V i).1 + s_dayN (s_days V i).2, M'), ⟨rfl, g2, frX_trans p3 (frX_rows (Or.inl rfl) g3 g4)⟩, ?_⟩
      rw [f_X4_days_21.eq_2, if_neg (nI_ge hi (by omega)), g1, p1, nI_1, kx_bd_ok]) d 0 kx_fuel ((0 : Int32), Mx) (by omega) (kz_f _ (by omega)) ⟨rfl, hX, frX_refl Mx⟩
  have hm := kz_rel (F := fun n i (a : Int32 × kx_M) => f_X5_days_21 n (nI d) a.1 i a.2) (N := d) (fun i a => a.1 = (s_days V i).1 ∧ kv_M a.2 (s_days V i).2 ∧ frM Mm a.2) (fun z => ∃ M', z = some ((s_days V d).1, M') ∧ kv_M M' (s_days V d).2 ∧ frM Mm M')
    (fun n a hP => by
      obtain ⟨p1, p2, p3⟩ := hP
      refine ⟨a.2, ?_, p2, p3⟩
      rw [f_X5_days_21.eq_2, if_pos (Int32.le_refl _), p1])
    (fun n i a hi hP => by
      obtain ⟨p1, p2, p3⟩ := hP
      obtain ⟨M', g1, g2, g3⟩ := s_X5_day (k := f_X5_days_21 n) (x1 := nI d) (x2 := a.1) (x3 := nI i) (kv_ok_days hok i) p2
      refine Or.inr ⟨((s_days V i).1 + s_dayN (s_days V i).2, M'), ⟨rfl, g2, frM_trans p3 g3⟩, ?_⟩
      rw [f_X5_days_21.eq_2, if_neg (nI_ge hi (by omega)), g1, p1, nI_1]) d 0 kx_fuel ((0 : Int32), Mm) (by omega) (kz_f _ (by omega)) ⟨rfl, hM, frM_refl Mm⟩
  obtain ⟨M', a1, a2, a3⟩ := hx
  obtain ⟨N', b1, b2, b3⟩ := hm
  exact kv_Sim_eq a1 b1 (kv_Inv_of (kv_ok_days hok d) a2 b2 a3 b3 (Nat.le_of_eq (s_days_v V d).symm) hR)
