/-- all that the law's loop rests on: what both answer, method by method -/
def kl_All (Inv : kx_M → kx_M → Prop) : Prop :=
  (∀ (a1 a2 a3 : Int32), kl_simI Inv T_X4_row T_X5_row [.int a1, .int a2, .int a3]) ∧
  (∀ (a1 a2 : Int32) (a3 : Int64), kl_simI Inv T_X4_set T_X5_set [.int a1, .int a2, .long a3]) ∧
  (∀ (a1 a2 a3 a4 a5 : Int32), kl_simI Inv T_X4_copy T_X5_copy [.int a1, .int a2, .int a3, .int a4, .int a5]) ∧
  (∀ (a1 a2 : Int32), kl_simL Inv T_X4_element T_X5_element [.int a1, .int a2]) ∧
  (∀ (a1 : Int32), kl_simI Inv T_X4_holds T_X5_holds [.int a1]) ∧
  (∀ (a1 a2 : Int32), kl_simI Inv T_X4_show T_X5_show [.int a1, .int a2]) ∧
  (∀ (a1 a2 : Int32), kl_simI Inv T_X4_says T_X5_says [.int a1, .int a2]) ∧
  (∀ (a1 : Int32), kl_simI Inv T_X4_paves T_X5_paves [.int a1]) ∧
  (∀ (a1 a2 a3 : Int32), kl_simI Inv T_X4_visitor T_X5_visitor [.int a1, .int a2, .int a3]) ∧
  (∀ (a1 a2 : Int32), kl_simI Inv T_X4_wants T_X5_wants [.int a1, .int a2]) ∧
  (∀ (a1 a2 a3 : Int32), kl_simI Inv T_X4_mark T_X5_mark [.int a1, .int a2, .int a3]) ∧
  (∀ (a1 a2 : Int32), kl_simI Inv T_X4_tell T_X5_tell [.int a1, .int a2]) ∧
  (∀ (a1 : Int32), kl_simI Inv T_X4_feed T_X5_feed [.int a1]) ∧
  (kl_simI Inv T_X4_wipe T_X5_wipe []) ∧
  (kl_simI Inv T_X4_view T_X5_view []) ∧
  (∀ (a1 a2 : Int32), kl_simI Inv T_X4_visitorOf T_X5_visitorOf [.int a1, .int a2]) ∧
  (∀ (a1 a2 : Int32), kl_simI Inv T_X4_cellOf T_X5_cellOf [.int a1, .int a2]) ∧
  (∀ (a1 a2 : Int32), kl_simI Inv T_X4_open T_X5_open [.int a1, .int a2]) ∧
  (∀ (a1 a2 : Int32), kl_simI Inv T_X4_shown T_X5_shown [.int a1, .int a2]) ∧
  (∀ (a1 : Int32), kl_simI Inv T_X4_known T_X5_known [.int a1]) ∧
  (∀ (a1 : Int32), kl_simI Inv T_X4_fresh T_X5_fresh [.int a1]) ∧
  (∀ (a1 : Int32), kl_simI Inv T_X4_veilThen T_X5_veilThen [.int a1]) ∧
  (∀ (a1 : Int32), kl_simI Inv T_X4_send T_X5_send [.int a1]) ∧
  (∀ (a1 : Int32), kl_simI Inv T_X4_fewest T_X5_fewest [.int a1]) ∧
  (∀ (a1 a2 : Int32), kl_simI Inv T_X4_order T_X5_order [.int a1, .int a2]) ∧
  (∀ (a1 a2 : Int32), kl_simI Inv T_X4_how T_X5_how [.int a1, .int a2]) ∧
  (∀ (a1 a2 a3 : Int32), kl_simI Inv T_X4_lifted T_X5_lifted [.int a1, .int a2, .int a3]) ∧
  (∀ (a1 a2 a3 a4 : Int32), kl_simI Inv T_X4_register T_X5_register [.int a1, .int a2, .int a3, .int a4]) ∧
  (∀ (a1 a2 a3 a4 : Int32), kl_simI Inv T_X4_fits T_X5_fits [.int a1, .int a2, .int a3, .int a4]) ∧
  (kl_simI Inv T_X4_together T_X5_together []) ∧
  (kl_simI Inv T_X4_needed T_X5_needed []) ∧
  (∀ (a1 a2 a3 : Int32), kl_simI Inv T_X4_picture T_X5_picture [.int a1, .int a2, .int a3]) ∧
  (∀ (a1 a2 : Int32), kl_simI Inv T_X4_lift T_X5_lift [.int a1, .int a2]) ∧
  (∀ (a1 a2 : Int32), kl_simI Inv T_X4_chance T_X5_chance [.int a1, .int a2]) ∧
  (∀ (a1 : Int32), kl_simI Inv T_X4_mean T_X5_mean [.int a1]) ∧
  (kl_simI Inv T_X4_hidden T_X5_hidden []) ∧
  (∀ (a1 : Int32), kl_simI Inv T_X4_best T_X5_best [.int a1]) ∧
  (∀ (a1 : Int32), kl_simI Inv T_X4_mate T_X5_mate [.int a1]) ∧
  (∀ (a1 : Int32), kl_simI Inv T_X4_rarest T_X5_rarest [.int a1]) ∧
  (∀ (a1 a2 : Int32), kl_simI Inv T_X4_both T_X5_both [.int a1, .int a2]) ∧
  (∀ (a1 a2 : Int32), kl_simI Inv T_X4_visitsTill T_X5_visitsTill [.int a1, .int a2]) ∧
  (∀ (a1 : Int32), kl_simI Inv T_X4_who T_X5_who [.int a1]) ∧
  (∀ (a1 : Int32), kl_simI Inv T_X4_company T_X5_company [.int a1]) ∧
  (∀ (a1 : Int32), kl_simI Inv T_X4_spoiler T_X5_spoiler [.int a1]) ∧
  (∀ (a1 a2 : Int32), kl_simI Inv T_X4_split T_X5_split [.int a1, .int a2]) ∧
  (kl_simI Inv T_X4_couple T_X5_couple []) ∧
  (∀ (a1 : Int32), kl_simI Inv T_X4_secret T_X5_secret [.int a1]) ∧
  (∀ (a1 : Int32), kl_simI Inv T_X4_rank T_X5_rank [.int a1]) ∧
  (∀ (a1 : Int32), kl_simI Inv T_X4_blind T_X5_blind [.int a1]) ∧
  (∀ (a1 : Int32), kl_simI Inv T_X4_shyest T_X5_shyest [.int a1]) ∧
  (∀ (a1 a2 : Int32), kl_simI Inv T_X4_alike T_X5_alike [.int a1, .int a2]) ∧
  (∀ (a1 : Int32), kl_simI Inv T_X4_ofKind T_X5_ofKind [.int a1]) ∧
  (∀ (a1 a2 : Int32), kl_simI Inv T_X4_judge T_X5_judge [.int a1, .int a2]) ∧
  (∀ (a1 a2 a3 : Int32), kl_simI Inv T_X4_behind T_X5_behind [.int a1, .int a2, .int a3]) ∧
  (∀ (a1 : Int32), kl_simI Inv T_X4_visit T_X5_visit [.int a1]) ∧
  (∀ (a1 : Int32), kl_simI Inv T_X4_days T_X5_days [.int a1]) ∧
  (∀ (a1 : Int32), kl_simI Inv T_X4_seed T_X5_seed [.int a1]) ∧
  (kl_simI Inv T_X4_image T_X5_image []) ∧
  (kl_simI Inv T_X4_back T_X5_back []) ∧
  (∀ (a1 : Int32), kl_simI Inv T_X4_status T_X5_status [.int a1])
theorem kl_in {i k Lx : Nat} {c : Int32} (hc : c = nI k) (h : i + k < Lx) (hL : Lx ≤ 3072) : vp_in (nI i + c) Lx := by
  rw [hc, nI_add]
  exact vp_in_nI h (by omega)
theorem kl_more {i Lx : Nat} (hL : Lx ≤ 3072) (hi : i ≤ 4000) (h : ¬ Int32.ofNat Lx - 6 < nI i) : i + 6 ≤ Lx := by
  have h1 : (Int32.ofNat Lx).toInt = (Lx : Int) := nI_toInt (by omega)
  have h2 : (Int32.ofNat Lx - 6).toInt = (Lx : Int) - 6 := by
    rw [Int32.toInt_sub, h1, show (6 : Int32).toInt = 6 by decide]
    unfold Int.bmod
    dsimp only
    split <;> omega
  rw [Int32.lt_iff_toInt_lt, h2, nI_toInt (by omega)] at h
  omega
theorem dl_33 : decode T_law.2.1 33 = .ok (.tableswitch 2006 0 59 #[255, 298, 371, 434, 468, 491, 524, 557, 580, 623, 656, 699, 732, 755, 768, 781, 814, 847, 880, 913, 936, 959, 982, 1005, 1028, 1061, 1094, 1137, 1190, 1243, 1256, 1269, 1312, 1345, 1378, 1401, 1414, 1437, 1460, 1483, 1516, 1549, 1572, 1595, 1618, 1651, 1664, 1687, 1710, 1733, 1756, 1789, 1812, 1845, 1888, 1911, 1934, 1957, 1970, 1983], 255) := by decide +kernel
theorem kl_gt {p : Program} {l : Launch} {e : Env} {s : State} {m : MethodId} {below : List Frame} {meth : Method} {c0 : Code} {D : va_G} {ac : Nat → ClassId} {adx adm : Nat → Nat} {b0 Lx : Nat} {xs : Nat → Int32} (hC : kl_C p s m meth c0 D ac adx adm b0 Lx xs) {pc b : Nat} {c : Int32} {L : List (Option Value)} {st : List Value} {Mx Mm : kx_M} {x y : Int32} (hI : T_law.2.2.2.2.2 pc = (61, 4, b, c)) (kt : y < x → kl_R p l e s m below meth c0 D ac adx adm b0 (b, L, st) Mx Mm) (kf : ¬ y < x → kl_R p l e s m below meth c0 D ac adx adm b0 (pc + 3, L, st) Mx Mm) : kl_R p l e s m below meth c0 D ac adx adm b0 (pc, L, .int y :: .int x :: st) Mx Mm :=
  fun H locs hP hS => kj_icmp_gt hC.1 hC.2.1 kok_law hI (fun h => kt h H locs hP hS) (fun h => kf h H locs hP hS)
theorem kl_tsI {p : Program} {l : Launch} {e : Env} {s : State} {m : MethodId} {below : List Frame} {meth : Method} {c0 : Code} {D : va_G} {ac : Nat → ClassId} {adx adm : Nat → Nat} {b0 Lx : Nat} {xs : Nat → Int32} (hC : kl_C p s m meth c0 D ac adx adm b0 Lx xs) {pc : Nat} {L : List (Option Value)} {st : List Value} {Mx Mm : kx_M} {x : Int32} (y : Int32) {dflt lo hi : Int} {offs : Array Int} {len tgt : Nat} {off : Int} (hdg : decode T_law.2.1 pc = .ok (.tableswitch dflt lo hi offs, len)) (hxy : x = y) (h1 : ¬ y.toInt < lo) (h2 : ¬ hi < y.toInt) (ho : offs[(y.toInt - lo).toNat]? = some off) (ht : (pc : Int) + off = (tgt : Int)) (k : kl_R p l e s m below meth c0 D ac adx adm b0 (tgt, L, st) Mx Mm) : kl_R p l e s m below meth c0 D ac adx adm b0 (pc, L, .int x :: st) Mx Mm :=
  fun H locs hP hS => kj_tsI y hC.1 hC.2.1 kok_law hdg hxy h1 h2 ho ht (k H locs hP hS)
theorem kl_tsO {p : Program} {l : Launch} {e : Env} {s : State} {m : MethodId} {below : List Frame} {meth : Method} {c0 : Code} {D : va_G} {ac : Nat → ClassId} {adx adm : Nat → Nat} {b0 Lx : Nat} {xs : Nat → Int32} (hC : kl_C p s m meth c0 D ac adx adm b0 Lx xs) {pc : Nat} {L : List (Option Value)} {st : List Value} {Mx Mm : kx_M} {x : Int32} {dflt lo hi : Int} {offs : Array Int} {len tgt : Nat} (hdg : decode T_law.2.1 pc = .ok (.tableswitch dflt lo hi offs, len)) (h : x.toInt < lo ∨ hi < x.toInt) (ht : (pc : Int) + dflt = (tgt : Int)) (k : kl_R p l e s m below meth c0 D ac adx adm b0 (tgt, L, st) Mx Mm) : kl_R p l e s m below meth c0 D ac adx adm b0 (pc, L, .int x :: st) Mx Mm :=
  fun H locs hP hS => kj_tsO hC.1 hC.2.1 kok_law hdg h ht (k H locs hP hS)
theorem kl_end {p : Program} {l : Launch} {e : Env} {s : State} {m : MethodId} {below : List Frame} {meth : Method} {c0 : Code} {D : va_G} {ac : Nat → ClassId} {adx adm : Nat → Nat} {b0 Lx : Nat} {xs : Nat → Int32} (hC : kl_C p s m meth c0 D ac adx adm b0 Lx xs) {L : List (Option Value)} {Mx Mm : kx_M} : kl_R p l e s m below meth c0 D ac adx adm b0 (2045, L, []) Mx Mm := by
  intro H locs hP hS ls hl
  refine kj_go (T := T_law) hC.1 hC.2.1 kok_law (pc' := 2046) (L' := L) (st' := [.int (1 : Int32)]) 1 rfl ?_ ls hl
  intro ls hl
  refine va_forget (fun q hq => hS.2.2 q hq) ?_
  exact lw_ret hC.1 hC.2.1 hC.2.2.1 hC.2.2.2.2.2.2.2.2.1 (kx_dec kok_law (pc := 2046) rfl rfl).1
set_option maxRecDepth 100000 in
set_option maxHeartbeats 8000000 in
theorem kl_loop {p : Program} {l : Launch} {e : Env} {s : State} {m : MethodId} {below : List Frame} {meth : Method} {c0 : Code} {D : va_G} {ac : Nat → ClassId} {adx adm : Nat → Nat} {b0 Lx : Nat} {xs : Nat → Int32} (hC : kl_C p s m meth c0 D ac adx adm b0 Lx xs) {Inv : kx_M → kx_M → Prop} (hL : Lx ≤ 3072) (hA : kl_All Inv) : ∀ (n i : Nat), i ≤ 3078 → Lx + 1 ≤ i + n → ∀ (Mx Mm : kx_M), Inv Mx Mm → kl_R p l e s m below meth c0 D ac adx adm b0 (18, [some (.ref 0), some (.ref 1), some (.ref 2), some (.int (nI i))], []) Mx Mm := by
  intro n
  induction n with
  | zero =>
    intro i hi hin Mx Mm hinv
    refine kl_go hC (pc' := 19) (L' := [some (.ref 0), some (.ref 1), some (.ref 2), some (.int (nI i))]) (st' := [.int (nI i)]) 1 rfl ?_
    refine kl_go hC (pc' := 20) (L' := [some (.ref 0), some (.ref 1), some (.ref 2), some (.int (nI i))]) (st' := [.ref 0, .int (nI i)]) 1 rfl ?_
    refine kl_slen hC rfl ?_
    refine kl_go hC (pc' := 24) (L' := [some (.ref 0), some (.ref 1), some (.ref 2), some (.int (nI i))]) (st' := [.int (Int32.ofNat Lx - 6), .int (nI i)]) 2 rfl ?_
    refine kl_gt hC rfl (fun _ => kl_end hC) (fun h => ?_)
    exact absurd (kl_more hL (by omega) h) (by omega)
  | succ n ih =>
    intro i hi hin Mx Mm hinv
    refine kl_go hC (pc' := 20) (L' := [some (.ref 0), some (.ref 1), some (.ref 2), some (.int (nI i))]) (st' := [.ref 0, .int (nI i)]) 2 rfl ?_
    refine kl_slen hC rfl ?_
    refine kl_go hC (pc' := 24) (L' := [some (.ref 0), some (.ref 1), some (.ref 2), some (.int (nI i))]) (st' := [.int (Int32.ofNat Lx - 6), .int (nI i)]) 2 rfl ?_
    refine kl_gt hC rfl (fun _ => kl_end hC) (fun h => ?_)
    have hm := kl_more hL (by omega) h
    have kk : ∀ Mx' Mm', Inv Mx' Mm' → kl_R p l e s m below meth c0 D ac adx adm b0 (2039, [some (.ref 0), some (.ref 1), some (.ref 2), some (.int (nI i))], []) Mx' Mm' := by
      intro Mx' Mm' hinv'
      refine kl_go hC (pc' := 2042) (L' := [some (.ref 0), some (.ref 1), some (.ref 2), some (.int (nI i + 6))]) (st' := []) 1 rfl ?_
      refine kl_goto hC rfl ?_
      rw [show nI i + 6 = nI (i + 6) from nI_add i 6]
      exact ih (i + 6) (by omega) (by omega) Mx' Mm' hinv'
    have hi1 : vp_in (nI i + (1 : Int32)) Lx := kl_in (k := 1) rfl (by omega) hL
    have hi2 : vp_in (nI i + (2 : Int32)) Lx := kl_in (k := 2) rfl (by omega) hL
    have hi3 : vp_in (nI i + (3 : Int32)) Lx := kl_in (k := 3) rfl (by omega) hL
    have hi4 : vp_in (nI i + (4 : Int32)) Lx := kl_in (k := 4) rfl (by omega) hL
    have hi5 : vp_in (nI i + (5 : Int32)) Lx := kl_in (k := 5) rfl (by omega) hL
    refine kl_go hC (pc' := 29) (L' := [some (.ref 0), some (.ref 1), some (.ref 2), some (.int (nI i))]) (st' := [.int (nI i), .ref 0]) 2 rfl ?_
    refine kl_sld hC rfl (vp_in_nI (by omega) (by omega)) ?_
    refine kl_go hC (pc' := 33) (L' := [some (.ref 0), some (.ref 1), some (.ref 2), some (.int (nI i))]) (st' := [.int (xs (nI i).toNatClampNeg &&& 63)]) 2 rfl ?_
    generalize hx : xs (nI i).toNatClampNeg &&& 63 = x
    unfold kl_All at hA
    obtain ⟨s0, s1, s2, s3, s4, s5, s6, s7, s8, s9, s10, s11, s12, s13, s14, s15, s16, s17, s18, s19, s20, s21, s22, s23, s24, s25, s26, s27, s28, s29, s30, s31, s32, s33, s34, s35, s36, s37, s38, s39, s40, s41, s42, s43, s44, s45, s46, s47, s48, s49, s50, s51, s52, s53, s54, s55, s56, s57, s58, s59⟩ := hA
    by_cases c0 : x = (0 : Int32)
    · exact kl_tsI hC (0 : Int32) (tgt := 288) dl_33 c0 (by decide) (by decide) rfl (by decide) (kl_case0 hC hinv hi1 hi2 hi3 hi4 hi5 (s0 _ _ _) kk)
    by_cases c1 : x = (1 : Int32)
    · exact kl_tsI hC (1 : Int32) (tgt := 331) dl_33 c1 (by decide) (by decide) rfl (by decide) (kl_case1 hC hinv hi1 hi2 hi3 hi4 hi5 (s1 _ _ _) kk)
    by_cases c2 : x = (2 : Int32)
    · exact kl_tsI hC (2 : Int32) (tgt := 404) dl_33 c2 (by decide) (by decide) rfl (by decide) (kl_case2 hC hinv hi1 hi2 hi3 hi4 hi5 (s2 _ _ _ _ _) kk)
    by_cases c3 : x = (3 : Int32)
    · exact kl_tsI hC (3 : Int32) (tgt := 467) dl_33 c3 (by decide) (by decide) rfl (by decide) (kl_case3 hC hinv hi1 hi2 hi3 hi4 hi5 (s3 _ _) kk)
    by_cases c4 : x = (4 : Int32)
    · exact kl_tsI hC (4 : Int32) (tgt := 501) dl_33 c4 (by decide) (by decide) rfl (by decide) (kl_case4 hC hinv hi1 hi2 hi3 hi4 hi5 (s4 _) kk)
    by_cases c5 : x = (5 : Int32)
    · exact kl_tsI hC (5 : Int32) (tgt := 524) dl_33 c5 (by decide) (by decide) rfl (by decide) (kl_case5 hC hinv hi1 hi2 hi3 hi4 hi5 (s5 _ _) kk)
    by_cases c6 : x = (6 : Int32)
    · exact kl_tsI hC (6 : Int32) (tgt := 557) dl_33 c6 (by decide) (by decide) rfl (by decide) (kl_case6 hC hinv hi1 hi2 hi3 hi4 hi5 (s6 _ _) kk)
    by_cases c7 : x = (7 : Int32)
    · exact kl_tsI hC (7 : Int32) (tgt := 590) dl_33 c7 (by decide) (by decide) rfl (by decide) (kl_case7 hC hinv hi1 hi2 hi3 hi4 hi5 (s7 _) kk)
    by_cases c8 : x = (8 : Int32)
    · exact kl_tsI hC (8 : Int32) (tgt := 613) dl_33 c8 (by decide) (by decide) rfl (by decide) (kl_case8 hC hinv hi1 hi2 hi3 hi4 hi5 (s8 _ _ _) kk)
    by_cases c9 : x = (9 : Int32)
    · exact kl_tsI hC (9 : Int32) (tgt := 656) dl_33 c9 (by decide) (by decide) rfl (by decide) (kl_case9 hC hinv hi1 hi2 hi3 hi4 hi5 (s9 _ _) kk)
    by_cases c10 : x = (10 : Int32)
    · exact kl_tsI hC (10 : Int32) (tgt := 689) dl_33 c10 (by decide) (by decide) rfl (by decide) (kl_case10 hC hinv hi1 hi2 hi3 hi4 hi5 (s10 _ _ _) kk)
    by_cases c11 : x = (11 : Int32)
    · exact kl_tsI hC (11 : Int32) (tgt := 732) dl_33 c11 (by decide) (by decide) rfl (by decide) (kl_case11 hC hinv hi1 hi2 hi3 hi4 hi5 (s11 _ _) kk)
    by_cases c12 : x = (12 : Int32)
    · exact kl_tsI hC (12 : Int32) (tgt := 765) dl_33 c12 (by decide) (by decide) rfl (by decide) (kl_case12 hC hinv hi1 hi2 hi3 hi4 hi5 (s12 _) kk)
    by_cases c13 : x = (13 : Int32)
    · exact kl_tsI hC (13 : Int32) (tgt := 788) dl_33 c13 (by decide) (by decide) rfl (by decide) (kl_case13 hC hinv hi1 hi2 hi3 hi4 hi5 s13 kk)
    by_cases c14 : x = (14 : Int32)
    · exact kl_tsI hC (14 : Int32) (tgt := 801) dl_33 c14 (by decide) (by decide) rfl (by decide) (kl_case14 hC hinv hi1 hi2 hi3 hi4 hi5 s14 kk)
    by_cases c15 : x = (15 : Int32)
    · exact kl_tsI hC (15 : Int32) (tgt := 814) dl_33 c15 (by decide) (by decide) rfl (by decide) (kl_case15 hC hinv hi1 hi2 hi3 hi4 hi5 (s15 _ _) kk)
    by_cases c16 : x = (16 : Int32)
    · exact kl_tsI hC (16 : Int32) (tgt := 847) dl_33 c16 (by decide) (by decide) rfl (by decide) (kl_case16 hC hinv hi1 hi2 hi3 hi4 hi5 (s16 _ _) kk)
    by_cases c17 : x = (17 : Int32)
    · exact kl_tsI hC (17 : Int32) (tgt := 880) dl_33 c17 (by decide) (by decide) rfl (by decide) (kl_case17 hC hinv hi1 hi2 hi3 hi4 hi5 (s17 _ _) kk)
    by_cases c18 : x = (18 : Int32)
    · exact kl_tsI hC (18 : Int32) (tgt := 913) dl_33 c18 (by decide) (by decide) rfl (by decide) (kl_case18 hC hinv hi1 hi2 hi3 hi4 hi5 (s18 _ _) kk)
    by_cases c19 : x = (19 : Int32)
    · exact kl_tsI hC (19 : Int32) (tgt := 946) dl_33 c19 (by decide) (by decide) rfl (by decide) (kl_case19 hC hinv hi1 hi2 hi3 hi4 hi5 (s19 _) kk)
    by_cases c20 : x = (20 : Int32)
    · exact kl_tsI hC (20 : Int32) (tgt := 969) dl_33 c20 (by decide) (by decide) rfl (by decide) (kl_case20 hC hinv hi1 hi2 hi3 hi4 hi5 (s20 _) kk)
    by_cases c21 : x = (21 : Int32)
    · exact kl_tsI hC (21 : Int32) (tgt := 992) dl_33 c21 (by decide) (by decide) rfl (by decide) (kl_case21 hC hinv hi1 hi2 hi3 hi4 hi5 (s21 _) kk)
    by_cases c22 : x = (22 : Int32)
    · exact kl_tsI hC (22 : Int32) (tgt := 1015) dl_33 c22 (by decide) (by decide) rfl (by decide) (kl_case22 hC hinv hi1 hi2 hi3 hi4 hi5 (s22 _) kk)
    by_cases c23 : x = (23 : Int32)
    · exact kl_tsI hC (23 : Int32) (tgt := 1038) dl_33 c23 (by decide) (by decide) rfl (by decide) (kl_case23 hC hinv hi1 hi2 hi3 hi4 hi5 (s23 _) kk)
    by_cases c24 : x = (24 : Int32)
    · exact kl_tsI hC (24 : Int32) (tgt := 1061) dl_33 c24 (by decide) (by decide) rfl (by decide) (kl_case24 hC hinv hi1 hi2 hi3 hi4 hi5 (s24 _ _) kk)
    by_cases c25 : x = (25 : Int32)
    · exact kl_tsI hC (25 : Int32) (tgt := 1094) dl_33 c25 (by decide) (by decide) rfl (by decide) (kl_case25 hC hinv hi1 hi2 hi3 hi4 hi5 (s25 _ _) kk)
    by_cases c26 : x = (26 : Int32)
    · exact kl_tsI hC (26 : Int32) (tgt := 1127) dl_33 c26 (by decide) (by decide) rfl (by decide) (kl_case26 hC hinv hi1 hi2 hi3 hi4 hi5 (s26 _ _ _) kk)
    by_cases c27 : x = (27 : Int32)
    · exact kl_tsI hC (27 : Int32) (tgt := 1170) dl_33 c27 (by decide) (by decide) rfl (by decide) (kl_case27 hC hinv hi1 hi2 hi3 hi4 hi5 (s27 _ _ _ _) kk)
    by_cases c28 : x = (28 : Int32)
    · exact kl_tsI hC (28 : Int32) (tgt := 1223) dl_33 c28 (by decide) (by decide) rfl (by decide) (kl_case28 hC hinv hi1 hi2 hi3 hi4 hi5 (s28 _ _ _ _) kk)
    by_cases c29 : x = (29 : Int32)
    · exact kl_tsI hC (29 : Int32) (tgt := 1276) dl_33 c29 (by decide) (by decide) rfl (by decide) (kl_case29 hC hinv hi1 hi2 hi3 hi4 hi5 s29 kk)
    by_cases c30 : x = (30 : Int32)
    · exact kl_tsI hC (30 : Int32) (tgt := 1289) dl_33 c30 (by decide) (by decide) rfl (by decide) (kl_case30 hC hinv hi1 hi2 hi3 hi4 hi5 s30 kk)
    by_cases c31 : x = (31 : Int32)
    · exact kl_tsI hC (31 : Int32) (tgt := 1302) dl_33 c31 (by decide) (by decide) rfl (by decide) (kl_case31 hC hinv hi1 hi2 hi3 hi4 hi5 (s31 _ _ _) kk)
    by_cases c32 : x = (32 : Int32)
    · exact kl_tsI hC (32 : Int32) (tgt := 1345) dl_33 c32 (by decide) (by decide) rfl (by decide) (kl_case32 hC hinv hi1 hi2 hi3 hi4 hi5 (s32 _ _) kk)
    by_cases c33 : x = (33 : Int32)
    · exact kl_tsI hC (33 : Int32) (tgt := 1378) dl_33 c33 (by decide) (by decide) rfl (by decide) (kl_case33 hC hinv hi1 hi2 hi3 hi4 hi5 (s33 _ _) kk)
    by_cases c34 : x = (34 : Int32)
    · exact kl_tsI hC (34 : Int32) (tgt := 1411) dl_33 c34 (by decide) (by decide) rfl (by decide) (kl_case34 hC hinv hi1 hi2 hi3 hi4 hi5 (s34 _) kk)
    by_cases c35 : x = (35 : Int32)
    · exact kl_tsI hC (35 : Int32) (tgt := 1434) dl_33 c35 (by decide) (by decide) rfl (by decide) (kl_case35 hC hinv hi1 hi2 hi3 hi4 hi5 s35 kk)
    by_cases c36 : x = (36 : Int32)
    · exact kl_tsI hC (36 : Int32) (tgt := 1447) dl_33 c36 (by decide) (by decide) rfl (by decide) (kl_case36 hC hinv hi1 hi2 hi3 hi4 hi5 (s36 _) kk)
    by_cases c37 : x = (37 : Int32)
    · exact kl_tsI hC (37 : Int32) (tgt := 1470) dl_33 c37 (by decide) (by decide) rfl (by decide) (kl_case37 hC hinv hi1 hi2 hi3 hi4 hi5 (s37 _) kk)
    by_cases c38 : x = (38 : Int32)
    · exact kl_tsI hC (38 : Int32) (tgt := 1493) dl_33 c38 (by decide) (by decide) rfl (by decide) (kl_case38 hC hinv hi1 hi2 hi3 hi4 hi5 (s38 _) kk)
    by_cases c39 : x = (39 : Int32)
    · exact kl_tsI hC (39 : Int32) (tgt := 1516) dl_33 c39 (by decide) (by decide) rfl (by decide) (kl_case39 hC hinv hi1 hi2 hi3 hi4 hi5 (s39 _ _) kk)
    by_cases c40 : x = (40 : Int32)
    · exact kl_tsI hC (40 : Int32) (tgt := 1549) dl_33 c40 (by decide) (by decide) rfl (by decide) (kl_case40 hC hinv hi1 hi2 hi3 hi4 hi5 (s40 _ _) kk)
    by_cases c41 : x = (41 : Int32)
    · exact kl_tsI hC (41 : Int32) (tgt := 1582) dl_33 c41 (by decide) (by decide) rfl (by decide) (kl_case41 hC hinv hi1 hi2 hi3 hi4 hi5 (s41 _) kk)
    by_cases c42 : x = (42 : Int32)
    · exact kl_tsI hC (42 : Int32) (tgt := 1605) dl_33 c42 (by decide) (by decide) rfl (by decide) (kl_case42 hC hinv hi1 hi2 hi3 hi4 hi5 (s42 _) kk)
    by_cases c43 : x = (43 : Int32)
    · exact kl_tsI hC (43 : Int32) (tgt := 1628) dl_33 c43 (by decide) (by decide) rfl (by decide) (kl_case43 hC hinv hi1 hi2 hi3 hi4 hi5 (s43 _) kk)
    by_cases c44 : x = (44 : Int32)
    · exact kl_tsI hC (44 : Int32) (tgt := 1651) dl_33 c44 (by decide) (by decide) rfl (by decide) (kl_case44 hC hinv hi1 hi2 hi3 hi4 hi5 (s44 _ _) kk)
    by_cases c45 : x = (45 : Int32)
    · exact kl_tsI hC (45 : Int32) (tgt := 1684) dl_33 c45 (by decide) (by decide) rfl (by decide) (kl_case45 hC hinv hi1 hi2 hi3 hi4 hi5 s45 kk)
    by_cases c46 : x = (46 : Int32)
    · exact kl_tsI hC (46 : Int32) (tgt := 1697) dl_33 c46 (by decide) (by decide) rfl (by decide) (kl_case46 hC hinv hi1 hi2 hi3 hi4 hi5 (s46 _) kk)
    by_cases c47 : x = (47 : Int32)
    · exact kl_tsI hC (47 : Int32) (tgt := 1720) dl_33 c47 (by decide) (by decide) rfl (by decide) (kl_case47 hC hinv hi1 hi2 hi3 hi4 hi5 (s47 _) kk)
    by_cases c48 : x = (48 : Int32)
    · exact kl_tsI hC (48 : Int32) (tgt := 1743) dl_33 c48 (by decide) (by decide) rfl (by decide) (kl_case48 hC hinv hi1 hi2 hi3 hi4 hi5 (s48 _) kk)
    by_cases c49 : x = (49 : Int32)
    · exact kl_tsI hC (49 : Int32) (tgt := 1766) dl_33 c49 (by decide) (by decide) rfl (by decide) (kl_case49 hC hinv hi1 hi2 hi3 hi4 hi5 (s49 _) kk)
    by_cases c50 : x = (50 : Int32)
    · exact kl_tsI hC (50 : Int32) (tgt := 1789) dl_33 c50 (by decide) (by decide) rfl (by decide) (kl_case50 hC hinv hi1 hi2 hi3 hi4 hi5 (s50 _ _) kk)
    by_cases c51 : x = (51 : Int32)
    · exact kl_tsI hC (51 : Int32) (tgt := 1822) dl_33 c51 (by decide) (by decide) rfl (by decide) (kl_case51 hC hinv hi1 hi2 hi3 hi4 hi5 (s51 _) kk)
    by_cases c52 : x = (52 : Int32)
    · exact kl_tsI hC (52 : Int32) (tgt := 1845) dl_33 c52 (by decide) (by decide) rfl (by decide) (kl_case52 hC hinv hi1 hi2 hi3 hi4 hi5 (s52 _ _) kk)
    by_cases c53 : x = (53 : Int32)
    · exact kl_tsI hC (53 : Int32) (tgt := 1878) dl_33 c53 (by decide) (by decide) rfl (by decide) (kl_case53 hC hinv hi1 hi2 hi3 hi4 hi5 (s53 _ _ _) kk)
    by_cases c54 : x = (54 : Int32)
    · exact kl_tsI hC (54 : Int32) (tgt := 1921) dl_33 c54 (by decide) (by decide) rfl (by decide) (kl_case54 hC hinv hi1 hi2 hi3 hi4 hi5 (s54 _) kk)
    by_cases c55 : x = (55 : Int32)
    · exact kl_tsI hC (55 : Int32) (tgt := 1944) dl_33 c55 (by decide) (by decide) rfl (by decide) (kl_case55 hC hinv hi1 hi2 hi3 hi4 hi5 (s55 _) kk)
    by_cases c56 : x = (56 : Int32)
    · exact kl_tsI hC (56 : Int32) (tgt := 1967) dl_33 c56 (by decide) (by decide) rfl (by decide) (kl_case56 hC hinv hi1 hi2 hi3 hi4 hi5 (s56 _) kk)
    by_cases c57 : x = (57 : Int32)
    · exact kl_tsI hC (57 : Int32) (tgt := 1990) dl_33 c57 (by decide) (by decide) rfl (by decide) (kl_case57 hC hinv hi1 hi2 hi3 hi4 hi5 s57 kk)
    by_cases c58 : x = (58 : Int32)
    · exact kl_tsI hC (58 : Int32) (tgt := 2003) dl_33 c58 (by decide) (by decide) rfl (by decide) (kl_case58 hC hinv hi1 hi2 hi3 hi4 hi5 s58 kk)
    by_cases c59 : x = (59 : Int32)
    · exact kl_tsI hC (59 : Int32) (tgt := 2016) dl_33 c59 (by decide) (by decide) rfl (by decide) (kl_case59 hC hinv hi1 hi2 hi3 hi4 hi5 (s59 _) kk)
    have g0 : ¬ x.toInt = 0 := fun q => c0 (Int32.toInt_inj.mp (q.trans (by decide)))
    have g1 : ¬ x.toInt = 1 := fun q => c1 (Int32.toInt_inj.mp (q.trans (by decide)))
    have g2 : ¬ x.toInt = 2 := fun q => c2 (Int32.toInt_inj.mp (q.trans (by decide)))
    have g3 : ¬ x.toInt = 3 := fun q => c3 (Int32.toInt_inj.mp (q.trans (by decide)))
    have g4 : ¬ x.toInt = 4 := fun q => c4 (Int32.toInt_inj.mp (q.trans (by decide)))
    have g5 : ¬ x.toInt = 5 := fun q => c5 (Int32.toInt_inj.mp (q.trans (by decide)))
    have g6 : ¬ x.toInt = 6 := fun q => c6 (Int32.toInt_inj.mp (q.trans (by decide)))
    have g7 : ¬ x.toInt = 7 := fun q => c7 (Int32.toInt_inj.mp (q.trans (by decide)))
    have g8 : ¬ x.toInt = 8 := fun q => c8 (Int32.toInt_inj.mp (q.trans (by decide)))
    have g9 : ¬ x.toInt = 9 := fun q => c9 (Int32.toInt_inj.mp (q.trans (by decide)))
    have g10 : ¬ x.toInt = 10 := fun q => c10 (Int32.toInt_inj.mp (q.trans (by decide)))
    have g11 : ¬ x.toInt = 11 := fun q => c11 (Int32.toInt_inj.mp (q.trans (by decide)))
    have g12 : ¬ x.toInt = 12 := fun q => c12 (Int32.toInt_inj.mp (q.trans (by decide)))
    have g13 : ¬ x.toInt = 13 := fun q => c13 (Int32.toInt_inj.mp (q.trans (by decide)))
    have g14 : ¬ x.toInt = 14 := fun q => c14 (Int32.toInt_inj.mp (q.trans (by decide)))
    have g15 : ¬ x.toInt = 15 := fun q => c15 (Int32.toInt_inj.mp (q.trans (by decide)))
    have g16 : ¬ x.toInt = 16 := fun q => c16 (Int32.toInt_inj.mp (q.trans (by decide)))
    have g17 : ¬ x.toInt = 17 := fun q => c17 (Int32.toInt_inj.mp (q.trans (by decide)))
    have g18 : ¬ x.toInt = 18 := fun q => c18 (Int32.toInt_inj.mp (q.trans (by decide)))
    have g19 : ¬ x.toInt = 19 := fun q => c19 (Int32.toInt_inj.mp (q.trans (by decide)))
    have g20 : ¬ x.toInt = 20 := fun q => c20 (Int32.toInt_inj.mp (q.trans (by decide)))
    have g21 : ¬ x.toInt = 21 := fun q => c21 (Int32.toInt_inj.mp (q.trans (by decide)))
    have g22 : ¬ x.toInt = 22 := fun q => c22 (Int32.toInt_inj.mp (q.trans (by decide)))
    have g23 : ¬ x.toInt = 23 := fun q => c23 (Int32.toInt_inj.mp (q.trans (by decide)))
    have g24 : ¬ x.toInt = 24 := fun q => c24 (Int32.toInt_inj.mp (q.trans (by decide)))
    have g25 : ¬ x.toInt = 25 := fun q => c25 (Int32.toInt_inj.mp (q.trans (by decide)))
    have g26 : ¬ x.toInt = 26 := fun q => c26 (Int32.toInt_inj.mp (q.trans (by decide)))
    have g27 : ¬ x.toInt = 27 := fun q => c27 (Int32.toInt_inj.mp (q.trans (by decide)))
    have g28 : ¬ x.toInt = 28 := fun q => c28 (Int32.toInt_inj.mp (q.trans (by decide)))
    have g29 : ¬ x.toInt = 29 := fun q => c29 (Int32.toInt_inj.mp (q.trans (by decide)))
    have g30 : ¬ x.toInt = 30 := fun q => c30 (Int32.toInt_inj.mp (q.trans (by decide)))
    have g31 : ¬ x.toInt = 31 := fun q => c31 (Int32.toInt_inj.mp (q.trans (by decide)))
    have g32 : ¬ x.toInt = 32 := fun q => c32 (Int32.toInt_inj.mp (q.trans (by decide)))
    have g33 : ¬ x.toInt = 33 := fun q => c33 (Int32.toInt_inj.mp (q.trans (by decide)))
    have g34 : ¬ x.toInt = 34 := fun q => c34 (Int32.toInt_inj.mp (q.trans (by decide)))
    have g35 : ¬ x.toInt = 35 := fun q => c35 (Int32.toInt_inj.mp (q.trans (by decide)))
    have g36 : ¬ x.toInt = 36 := fun q => c36 (Int32.toInt_inj.mp (q.trans (by decide)))
    have g37 : ¬ x.toInt = 37 := fun q => c37 (Int32.toInt_inj.mp (q.trans (by decide)))
    have g38 : ¬ x.toInt = 38 := fun q => c38 (Int32.toInt_inj.mp (q.trans (by decide)))
    have g39 : ¬ x.toInt = 39 := fun q => c39 (Int32.toInt_inj.mp (q.trans (by decide)))
    have g40 : ¬ x.toInt = 40 := fun q => c40 (Int32.toInt_inj.mp (q.trans (by decide)))
    have g41 : ¬ x.toInt = 41 := fun q => c41 (Int32.toInt_inj.mp (q.trans (by decide)))
    have g42 : ¬ x.toInt = 42 := fun q => c42 (Int32.toInt_inj.mp (q.trans (by decide)))
    have g43 : ¬ x.toInt = 43 := fun q => c43 (Int32.toInt_inj.mp (q.trans (by decide)))
    have g44 : ¬ x.toInt = 44 := fun q => c44 (Int32.toInt_inj.mp (q.trans (by decide)))
    have g45 : ¬ x.toInt = 45 := fun q => c45 (Int32.toInt_inj.mp (q.trans (by decide)))
    have g46 : ¬ x.toInt = 46 := fun q => c46 (Int32.toInt_inj.mp (q.trans (by decide)))
    have g47 : ¬ x.toInt = 47 := fun q => c47 (Int32.toInt_inj.mp (q.trans (by decide)))
    have g48 : ¬ x.toInt = 48 := fun q => c48 (Int32.toInt_inj.mp (q.trans (by decide)))
    have g49 : ¬ x.toInt = 49 := fun q => c49 (Int32.toInt_inj.mp (q.trans (by decide)))
    have g50 : ¬ x.toInt = 50 := fun q => c50 (Int32.toInt_inj.mp (q.trans (by decide)))
    have g51 : ¬ x.toInt = 51 := fun q => c51 (Int32.toInt_inj.mp (q.trans (by decide)))
    have g52 : ¬ x.toInt = 52 := fun q => c52 (Int32.toInt_inj.mp (q.trans (by decide)))
    have g53 : ¬ x.toInt = 53 := fun q => c53 (Int32.toInt_inj.mp (q.trans (by decide)))
    have g54 : ¬ x.toInt = 54 := fun q => c54 (Int32.toInt_inj.mp (q.trans (by decide)))
    have g55 : ¬ x.toInt = 55 := fun q => c55 (Int32.toInt_inj.mp (q.trans (by decide)))
    have g56 : ¬ x.toInt = 56 := fun q => c56 (Int32.toInt_inj.mp (q.trans (by decide)))
    have g57 : ¬ x.toInt = 57 := fun q => c57 (Int32.toInt_inj.mp (q.trans (by decide)))
    have g58 : ¬ x.toInt = 58 := fun q => c58 (Int32.toInt_inj.mp (q.trans (by decide)))
    have g59 : ¬ x.toInt = 59 := fun q => c59 (Int32.toInt_inj.mp (q.trans (by decide)))
    exact kl_tsO hC (tgt := 2039) dl_33 (by omega) (by decide) (kk Mx Mm hinv)
