/-! register -/
theorem s_mask_bt (V : kv_V) (a : Int32) {c : Nat} (hc : c < V.1 5 0) (hn : V.1 5 0 ≤ 24) : bt (s_mask V a) c = decide (nI (V.1 0 c) ≤ a) := by
  unfold s_mask
  rw [z_mask_bt _ _ (by omega) _ (by omega), decide_eq_true hc, Bool.true_and]
theorem s_open_lv (V : kv_V) (x : Nat) (g t : Int32) : ∃ m, m ≤ 20 ∧ s_open V x g t = nI m := kv_level _
theorem s_open_shy (V : kv_V) (c s x : Nat) (g t : Int32) : s_open (kv_put V 0 c s) x g t = s_open V x g t := rfl
theorem l_bit1 (y : Int64) {c : Nat} (hc : c < 32) : (((y >>> ((nI c).toInt64 &&& 63)) &&& (1 : Int64)) = (1 : Int64)) = (btL y c = true) := by
  have h1 : f_X4_isIn (nI c) y = btL y c := z_isInL y hc
  unfold f_X4_isIn at h1
  have e : (y >>> ((nI c).toInt64 &&& 63)).toBitVec = y.toBitVec.sshiftRight c := by
    rw [Int64.toBitVec_shiftRight]
    show y.toBitVec.sshiftRight _ = _
    rw [z_shL c (by omega)]
  apply propext
  rw [← Int64.toBitVec_inj, Int64.toBitVec_and, e]
  show (y.toBitVec.sshiftRight c &&& 1#64) = 1#64 ↔ _
  rw [BitVec.and_one_eq_setWidth_ofBool_getLsbD, BitVec.getLsbD_sshiftRight, Nat.add_zero]
  unfold btL
  simp only [show ¬ 64 ≤ 0 by omega, show c < 64 by omega, decide_false, Bool.not_false, Bool.true_and, if_true]
  cases hb : y.toBitVec.getLsbD c
  · exact ⟨fun z => absurd z (by decide), fun z => by cases z⟩
  · exact ⟨fun _ => rfl, fun _ => by decide⟩
/-- what the answer is, the bounds being L and G -/
def s_reg (L G : Nat) (w : Int32) : Int32 := if w = 2 then nI (G + 1 - L) else if L ≤ G then (if w = 0 then nI L else nI G) else -1
theorem s_X4_reg {Mx Mm : kx_M} {V : kv_V} {s n c : Nat} {w : Int32} (hok : kv_ok V) (hX : kv_X Mx 1 V) (hs : s < 8) (hn : n ≤ 20) (hc : c < V.1 5 0) (he : ∀ k, k < 40 → Mx.2 (27 + 2 * s) k = Mm.2 11 (40 * s + k)) (y : Nat → Nat) (hy : ∀ i, i < n → y i < V.1 5 3 ∧ (Mm.2 11 (40 * s + 2 * i)).toInt32 = nI (y i)) (ov : Nat → Nat) (hov : ∀ i, i < n → ov i ≤ 20 ∧ s_open V (y i) ((1 : Int32) <<< (nI (y i) &&& 31)) (nI (V.1 5 1)) = nI (ov i)) : ∃ L G, L ≤ 21 ∧ G ≤ 20 ∧ (∀ v, v ≤ 20 → ((L ≤ v ∧ v ≤ G) ↔ ∀ j, j < n → (v ≤ ov j ↔ btL (Mm.2 11 (40 * s + (2 * j + 1))) c = true))) ∧ f_X4_register_104 kx_fuel (nI s) (nI n) (nI c) w (0 : Int32) (20 : Int32) (nI 0) Mx = some (s_reg L G w, Mx) := by
  have hv := hok.2.2.2.1
  have hn24 := hok.1.2
  refine kz_rel (F := fun m i (a : Int32 × Int32) => f_X4_register_104 m (nI s) (nI n) (nI c) w a.1 a.2 i Mx) (N := n) (fun i a => ∃ L G, a = (nI L, nI G) ∧ L ≤ 21 ∧ G ≤ 20 ∧ (∀ v, v ≤ 20 → ((L ≤ v ∧ v ≤ G) ↔ ∀ j, j < i → (v ≤ ov j ↔ btL (Mm.2 11 (40 * s + (2 * j + 1))) c = true)))) (fun z => ∃ L G, L ≤ 21 ∧ G ≤ 20 ∧ (∀ v, v ≤ 20 → ((L ≤ v ∧ v ≤ G) ↔ ∀ j, j < n → (v ≤ ov j ↔ btL (Mm.2 11 (40 * s + (2 * j + 1))) c = true))) ∧ z = some (s_reg L G w, Mx)) ?_ ?_ n 0 kx_fuel ((0 : Int32), (20 : Int32)) (by omega) (kz_f _ (by omega)) ⟨0, 20, rfl, by omega, by omega, fun v hv20 => ⟨fun _ j hj => absurd hj (Nat.not_lt_zero j), fun _ => ⟨Nat.zero_le v, hv20⟩⟩⟩
  · intro m a hP
    obtain ⟨L, G, rfl, hL, hG, hq⟩ := hP
    refine ⟨L, G, hL, hG, hq, ?_⟩
    rw [f_X4_register_104.eq_2, if_pos (Int32.le_refl _)]
    unfold s_reg
    dsimp only
    by_cases h2 : w = 2
    · rw [if_pos h2, if_pos h2]
      refine congrArg (fun z => some (z, Mx)) ?_
      exact (by decide +kernel : ∀ G, G < 21 → ∀ L, L < 22 → (if (0 : Int32) < ((nI G - nI L) + (1 : Int32)) then ((nI G - nI L) + (1 : Int32)) else (0 : Int32)) = nI (G + 1 - L)) G (by omega) L (by omega)
    · rw [if_neg h2, if_neg h2]
      by_cases h3 : L ≤ G
      · rw [if_pos h3, if_pos (nI_le h3 (by omega))]
        split <;> rfl
      · rw [if_neg h3, if_neg (nI_ge (by omega) (by omega))]
  · intro m i a hi hP
    obtain ⟨L, G, rfl, hL, hG, hq⟩ := hP
    obtain ⟨y1, y2⟩ := hy i hi
    obtain ⟨o1, o2⟩ := hov i hi
    rw [f_X4_register_104.eq_2, if_neg (nI_ge hi (by omega)), z_21 i (by omega), z_2 i (by omega)]
    dsimp only
    simp only [z_ck hs (by decide : (8 : Nat) ≤ 4096), z_ck (show 2 * i < 40 by omega) (by decide : (40 : Nat) ≤ 4096), z_ck (show 2 * i + 1 < 40 by omega) (by decide : (40 : Nat) ≤ 4096), nI_clamp (show s < 2 ^ 31 by omega), nI_clamp (show 2 * i < 2 ^ 31 by omega), nI_clamp (show 2 * i + 1 < 2 ^ 31 by omega), show 26 + 2 * s + 1 = 27 + 2 * s by omega, he (2 * i) (by omega), he (2 * i + 1) (by omega), y2, hX.1.2.1]
    rw [s_X0_open hok hX y1 _ _ (by rw [bt_one (by omega) (by omega), decide_eq_true rfl]), o2, Option.bind_some, z_isInL _ (show c < 32 by omega), nI_1, nI_1]
    by_cases hb : btL (Mm.2 11 (40 * s + (2 * i + 1))) c = true
    · rw [if_pos hb]
      refine Or.inr ⟨(nI L, nI (if ov i < G then ov i else G)), ⟨L, _, rfl, hL, by split <;> omega, fun v hv20 => ?_⟩, ?_⟩
      · constructor
        · intro hz j hj
          by_cases ej : j = i
          · rw [ej]
            refine ⟨fun _ => hb, fun _ => ?_⟩
            have := hz.2
            split at this <;> omega
          · exact (hq v hv20).mp ⟨hz.1, by have := hz.2; split at this <;> omega⟩ j (by omega)
        · intro hz
          have z1 := (hq v hv20).mpr (fun j hj => hz j (by omega))
          have z2 := (hz i (by omega)).mpr hb
          exact ⟨z1.1, by split <;> omega⟩
      · dsimp only
        by_cases q : ov i < G
        · rw [if_pos q, if_pos (nI_lt q (by omega))]
        · rw [if_neg q, if_neg (nI_nlt (by omega) (by omega))]
    · rw [if_neg hb]
      refine Or.inr ⟨(nI (if L < ov i + 1 then ov i + 1 else L), nI G), ⟨_, G, rfl, by split <;> omega, hG, fun v hv20 => ?_⟩, ?_⟩
      · constructor
        · intro hz j hj
          by_cases ej : j = i
          · rw [ej]
            refine ⟨fun q => ?_, fun q => absurd q hb⟩
            have := hz.1
            split at this <;> omega
          · exact (hq v hv20).mp ⟨by have := hz.1; split at this <;> omega, hz.2⟩ j (by omega)
        · intro hz
          have z1 := (hq v hv20).mpr (fun j hj => hz j (by omega))
          have z2 : ¬ v ≤ ov i := fun q => hb ((hz i (by omega)).mp q)
          exact ⟨by split <;> omega, z1.2⟩
      · dsimp only
        by_cases q : L < ov i + 1
        · rw [if_pos q, if_pos (nI_lt q (by omega))]
        · rw [if_neg q, if_neg (nI_nlt (by omega) (by omega))]
theorem s_X5_reg {Mm : kx_M} {V : kv_V} {s n c : Nat} (hok : kv_ok V) (hM : kv_M Mm V) (hs : s < 8) (hn : n ≤ 20) (hc : c < V.1 5 0) (y : Nat → Nat) (hy : ∀ i, i < n → y i < V.1 5 3 ∧ (Mm.2 11 (40 * s + 2 * i)).toInt32 = nI (y i)) (ov : Nat → Nat) (hov : ∀ i, i < n → ov i ≤ 20 ∧ s_open V (y i) ((1 : Int32) <<< (nI (y i) &&& 31)) (nI (V.1 5 1)) = nI (ov i)) {v : Nat} (hv20 : v ≤ 20) : f_X5_isRegistered (kx_u1 Mm 1 c (nI v)) (nI s) (nI n) (nI c) = some (z_allb (fun i => decide (v ≤ ov i) == btL (Mm.2 11 (40 * s + (2 * i + 1))) c) n) := by
  have hv := hok.2.2.2.1
  have hn24 := hok.1.2
  have hok' : kv_ok (kv_put V 0 c v) := kv_ok_shy (x := c) hok hv20
  have hM' : kv_M (kx_u1 Mm 1 c (nI v)) (kv_put V 0 c v) := kv_M_shy hM
  have tn : ∀ (j : Nat), j < 40 → f_X5_toldAt (kx_u1 Mm 1 c (nI v)) (nI s) (nI j) = some (Mm.2 11 (40 * s + j)) := fun j hj => e_told (Mm := kx_u1 Mm 1 c (nI v)) hs hj
  unfold f_X5_isRegistered
  refine kz_all0 (F := fun m i => f_X5_isRegistered_3 (kx_u1 Mm 1 c (nI v)) m (nI s) (nI n) (nI c) i) (by omega) ?_ ?_
  · intro m
    rw [f_X5_isRegistered_3.eq_2]
    exact if_pos (Int32.le_refl _)
  · intro m i hi
    obtain ⟨y1, y2⟩ := hy i hi
    obtain ⟨o1, o2⟩ := hov i hi
    have al : f_X5_shownAlone (kx_u1 Mm 1 c (nI v)) (nI (y i)) = some (s_shown (kv_put V 0 c v) (y i) ((1 : Int32) <<< (nI (y i) &&& 31)) (nI (V.1 5 1))) := s_X5_alone hok' hM' y1
    have hh : f_X5_has (s_shown (kv_put V 0 c v) (y i) ((1 : Int32) <<< (nI (y i) &&& 31)) (nI (V.1 5 1))) (nI c) = decide (v ≤ ov i) := by
      rw [z_has _ (show c < 32 by omega)]
      unfold s_shown
      rw [s_mask_bt (kv_put V 0 c v) _ hc hn24, kv_put_at, s_open_shy, o2]
      exact decide_eq_decide.mpr (nI_leI (by omega) (by omega))
    rw [f_X5_isRegistered_3.eq_2, if_neg (nI_ge hi (by omega)), z_21 i (by omega), z_2 i (by omega), tn _ (show 2 * i < 40 by omega), Option.bind_some, y2, al, Option.bind_some, tn _ (show 2 * i + 1 < 40 by omega), Option.bind_some, hh, nI_1]
    simp only [l_eq, l_bit1 _ (show c < 32 by omega)]
    unfold kx_bi
    by_cases hb : btL (Mm.2 11 (40 * s + (2 * i + 1))) c = true
    · rw [if_pos hb]
      by_cases q : v ≤ ov i
      · rw [if_pos (by rw [decide_eq_true q]; rfl), if_pos (by rw [decide_eq_true q, hb]; rfl)]
      · rw [if_neg (by rw [decide_eq_false q]; decide), if_neg (by rw [decide_eq_false q, hb]; decide)]
    · rw [if_neg hb]
      rw [Bool.not_eq_true] at hb
      by_cases q : v ≤ ov i
      · rw [if_neg (by rw [decide_eq_true q]; decide), if_neg (by rw [decide_eq_true q, hb]; decide)]
      · rw [if_pos (by rw [decide_eq_false q]; rfl), if_pos (by rw [decide_eq_false q, hb]; rfl)]
theorem kv_s_register {Mx Mm : kx_M} (h : kv_Inv Mx Mm) (a b d w : Int32) : kv_Sim (f_X4_register a b d w Mx) (f_X5_register a b d w Mm) := by
  obtain ⟨V, hok, hX, hM, hR⟩ := id h
  have hv := hok.2.2.2.1
  have hn24 := hok.1.2
  have no : ∀ (t : Bool), (¬ f_X4_isWithin a 0 7 = true ∨ t = false) → f_X4_register_36 a b d w t Mx = kx_bd (f_X4_refuse (-2) Mx) fun v M => some (v, M) := by
    intro t ht
    unfold f_X4_register_36 f_X4_register_54 f_X4_register_82
    simp only [e_X4_fault_no ht, Option.bind_some, if_neg (show ¬ (-2 : Int32) = 0 by decide)]
    split <;> rfl
  unfold f_X4_register f_X5_register f_X5_isShelf
  rw [kv_within, kv_within, e_X0_C hX, e_X5_C hM, kv_within]
  by_cases h1 : f_X4_isWithin a 0 7 = true
  · rw [if_pos h1]
    by_cases h2 : f_X4_isWithin b 0 20 = true
    · rw [if_pos h2, if_pos h2]
      by_cases h3 : g_C V d = true
      · rw [if_pos h3, if_pos h3]
        by_cases h4 : f_X4_isWithin w 0 2 = true
        · rw [if_pos h4, if_pos h4]
          obtain ⟨s, hs, rfl⟩ := g_S_el h1
          have hS := hR.2.1 s hs
          obtain ⟨n, hn, rfl⟩ := z_in (n := 20) (by omega) h2
          obtain ⟨c, hc, rfl⟩ := g_C_el hok h3
          have hhi : (Mm.1 0 4 - (1 : Int32)).toInt = (V.1 5 3 : Int) - 1 := by
            rw [hM.1.2.2.2.2]
            exact (by decide +kernel : ∀ v, v < 9 → (nI v - (1 : Int32)).toInt = (v : Int) - 1) _ (by omega)
          rw [e_noTwos hS hv hs hn hhi, Option.bind_some]
          unfold f_X4_register_36 f_X4_register_54
          rw [if_pos rfl, z_2 n (by omega), e_X4_fault hS hv hs, Option.bind_some]
          by_cases hf : s_fault Mm s (nI (2 * n)) = 0
          · obtain ⟨t, z, ht, hz, e, e2, e3, e4, e5⟩ := s_fault_el hS hv hf
            rw [if_pos hf, if_pos hf, hf, z_ck hs (by decide), nI_clamp (show s < 2 ^ 31 by omega), e_tellsVisitors hok hX e4 hn, Option.bind_some]
            by_cases hw : z_allb (s_in Mm s ((V.1 5 3 : Int) - 1)) n = true
            · rw [if_pos hw, if_pos hw, if_pos (show (0 : Int32) ≤ 0 by decide)]
              have hin := (z_allb_iff _ n).mp hw
              have hy : ∃ y : Nat → Nat, ∀ i, i < n → y i < V.1 5 3 ∧ (Mm.2 11 (40 * s + 2 * i)).toInt32 = nI (y i) := by
                refine ⟨fun i => (Mm.2 11 (40 * s + 2 * i)).toInt.toNat, fun i hi => ?_⟩
                have := of_decide_eq_true (hin i hi)
                obtain ⟨t, ht, e1, e2⟩ := l_small (H := 20) (y := Mm.2 11 (40 * s + 2 * i)) (by omega) this.1 (by omega)
                dsimp only
                rw [e2]
                exact ⟨by omega, e1⟩
              obtain ⟨y, hy⟩ := hy
              have hov : ∃ ov : Nat → Nat, ∀ i, i < n → ov i ≤ 20 ∧ s_open V (y i) ((1 : Int32) <<< (nI (y i) &&& 31)) (nI (V.1 5 1)) = nI (ov i) := by
                refine ⟨fun i => (s_open V (y i) ((1 : Int32) <<< (nI (y i) &&& 31)) (nI (V.1 5 1))).toNatClampNeg, fun i _ => ?_⟩
                obtain ⟨m, hm, em⟩ := s_open_lv V (y i) ((1 : Int32) <<< (nI (y i) &&& 31)) (nI (V.1 5 1))
                dsimp only
                rw [em, nI_clamp (by omega)]
                exact ⟨hm, rfl⟩
              obtain ⟨ov, hov⟩ := hov
              obtain ⟨L, G, hL, hG, hq, hx1⟩ := s_X4_reg (w := w) hok hX hs hn hc e4 y hy ov hov
              unfold f_X4_register_82
              rw [if_pos rfl, z_ck (show c < 24 by omega) (by decide), nI_clamp (by omega)]
              refine kv_Sim_eq hx1 ?_ h
              have hreg : ∀ v, v ≤ 20 → f_X5_isRegistered (kx_u1 Mm 1 c (nI v)) (nI s) (nI n) (nI c) = some (decide (L ≤ v ∧ v ≤ G)) := by
                intro v hv20
                rw [s_X5_reg hok hM hs hn hc y hy ov hov hv20]
                refine congrArg some ?_
                rw [Bool.eq_iff_iff, z_allb_iff, decide_eq_true_eq, hq v hv20]
                constructor
                · intro z j hj
                  have z1 := z j hj
                  rw [beq_iff_eq] at z1
                  rw [← z1, decide_eq_true_eq]
                · intro z j hj
                  have z1 := z j hj
                  rw [beq_iff_eq, Bool.eq_iff_iff, decide_eq_true_eq]
                  exact z1
              exact kz_rel (F := fun m v (a : (Int32 × Int32 × Int32) × kx_M) => f_X5_register_88 m (nI s) (nI n) (nI c) w (Mm.1 1 c) a.1.1 a.1.2.1 a.1.2.2 v a.2) (N := 21) (fun v a => (∃ t, a.2 = kx_u1 Mm 1 c t) ∧ ((v ≤ L ∨ G < L) → a.1 = (-1, -1, 0)) ∧ ((L < v ∧ L ≤ G) → a.1 = (nI L, nI (if v - 1 < G then v - 1 else G), nI ((if v < G + 1 then v else G + 1) - L)))) (fun z => z = some (s_reg L G w, Mm))
                (fun m a hP => by
                  obtain ⟨⟨t, ht⟩, p1, p2⟩ := hP
                  rw [f_X5_register_88.eq_2, if_pos (show (20 : Int32) < nI 21 by decide), z_ck (show c < 24 by omega) (by decide), nI_clamp (by omega), ht, kx_u1_twice, kx_u1_self]
                  have hw2 := e_three.mp (show f_X5_within w 0 2 = true from h4)
                  unfold s_reg
                  by_cases q : L ≤ G
                  · rw [p2 ⟨by omega, q⟩]
                    have g1 : (if 21 - 1 < G then 21 - 1 else G) = G := by split <;> omega
                    have g2 : (if 21 < G + 1 then 21 else G + 1) = G + 1 := by split <;> omega
                    rw [g1, g2]
                    rcases hw2 with rfl | rfl | rfl
                    · rw [if_pos rfl, if_neg (show ¬ (0 : Int32) = 2 by decide), if_pos q, if_pos rfl]
                    · rw [if_neg (show ¬ (1 : Int32) = 0 by decide), if_pos rfl, if_neg (show ¬ (1 : Int32) = 2 by decide), if_pos q, if_neg (show ¬ (1 : Int32) = 0 by decide)]
                    · rw [if_neg (show ¬ (2 : Int32) = 0 by decide), if_neg (show ¬ (2 : Int32) = 1 by decide), if_pos rfl]
                  · rw [p1 (Or.inr (by omega))]
                    rcases hw2 with rfl | rfl | rfl
                    · rw [if_pos rfl, if_neg (show ¬ (0 : Int32) = 2 by decide), if_neg q]
                    · rw [if_neg (show ¬ (1 : Int32) = 0 by decide), if_pos rfl, if_neg (show ¬ (1 : Int32) = 2 by decide), if_neg q]
                    · rw [if_neg (show ¬ (2 : Int32) = 0 by decide), if_neg (show ¬ (2 : Int32) = 1 by decide), if_pos rfl, show G + 1 - L = 0 by omega]
                      rfl)
                (fun m v a hv21 hP => by
                  obtain ⟨⟨t, ht⟩, p1, p2⟩ := hP
                  rw [f_X5_register_88.eq_2, if_neg (show ¬ (20 : Int32) < nI v from nI_nlt (a := 20) (by omega) (by omega)), z_ck (show c < 24 by omega) (by decide), nI_clamp (by omega), ht, kx_u1_twice, hreg v (by omega), Option.bind_some, nI_1]
                  by_cases q : L ≤ v ∧ v ≤ G
                  · rw [if_pos (decide_eq_true q)]
                    by_cases q2 : v = L
                    · rw [p1 (Or.inl (by omega))]
                      refine Or.inr ⟨((nI v, nI v, nI 1), kx_u1 Mm 1 c (nI v)), ⟨⟨_, rfl⟩, fun z => absurd z (by omega), fun _ => ?_⟩, ?_⟩
                      · have g1 : (if v + 1 - 1 < G then v + 1 - 1 else G) = v := by split <;> omega
                        have g2 : (if v + 1 < G + 1 then v + 1 else G + 1) - L = 1 := by split <;> omega
                        dsimp only
                        rw [g1, g2, q2]
                      · rw [if_pos rfl]
                        rfl
                    · rw [p2 ⟨by omega, by omega⟩]
                      have g3 : (if v - 1 < G then v - 1 else G) = v - 1 := by split <;> omega
                      have g4 : (if v < G + 1 then v else G + 1) - L = v - L := by split <;> omega
                      rw [g3, g4]
                      refine Or.inr ⟨((nI L, nI v, nI (v - L + 1)), kx_u1 Mm 1 c (nI v)), ⟨⟨_, rfl⟩, fun z => absurd z (by omega), fun _ => ?_⟩, ?_⟩
                      · have g1 : (if v + 1 - 1 < G then v + 1 - 1 else G) = v := by split <;> omega
                        have g2 : (if v + 1 < G + 1 then v + 1 else G + 1) - L = v - L + 1 := by split <;> omega
                        dsimp only
                        rw [g1, g2]
                      · rw [if_neg (show ¬ nI L = (-1 : Int32) from fun z => (show ¬ (0 : Int32) ≤ -1 by decide) (z ▸ nI_pos' (by omega)))]
                        dsimp only
                        rw [nI_1]
                  · rw [if_neg (fun z => q (of_decide_eq_true z))]
                    refine Or.inr ⟨(a.1, kx_u1 Mm 1 c (nI v)), ⟨⟨_, rfl⟩, fun z => ?_, fun z => ?_⟩, rfl⟩
                    · exact p1 (by omega)
                    · rw [p2 (by omega)]
                      have g1 : (if v + 1 - 1 < G then v + 1 - 1 else G) = (if v - 1 < G then v - 1 else G) := by split <;> split <;> omega
                      have g2 : (if v + 1 < G + 1 then v + 1 else G + 1) = (if v < G + 1 then v else G + 1) := by split <;> split <;> omega
                      rw [g1, g2]) 21 0 kx_fuel (((-1 : Int32), (-1 : Int32), (0 : Int32)), Mm) (by omega) (kz_f _ (by omega)) ⟨⟨_, kx_u1_self.symm⟩, fun _ => rfl, fun z => absurd z.1 (by omega)⟩
            · rw [if_neg hw, if_neg hw, if_neg (show ¬ (0 : Int32) ≤ -5 by decide)]
              unfold f_X4_register_82
              rw [if_neg (show ¬ (-5 : Int32) = 0 by decide)]
              exact kv_Sim_stuck h
          · unfold f_X4_register_82
            rw [if_neg hf, if_neg hf, if_neg hf, if_neg (s_fault_neg hf)]
            exact kv_Sim_fault h hf
        · rw [if_neg h4, if_neg h4, no _ (Or.inr rfl)]
          exact kv_Sim_no h
      · rw [if_neg h3, if_neg h3, no _ (Or.inr rfl)]
        exact kv_Sim_no h
    · rw [if_neg h2, if_neg h2, no _ (Or.inr rfl)]
      exact kv_Sim_no h
  · rw [if_neg h1, no _ (Or.inl h1), no _ (Or.inl h1)]
    simp only [ite_self]
    exact kv_Sim_no h
/-! copy -/
theorem z_has2 {M : kx_M} {q i n z : Nat} (hz : z ≤ 40) (hi : i < 2 ^ 31) (hn : n < 2 ^ 31) (e : M.1 q 1 = nI z) : f_X2_hasPart q M (nI i) (nI n) = decide (i + n ≤ z) := by
  unfold f_X2_hasPart
  rw [e, z_within, z_within]
  by_cases h1 : n ≤ z
  · rw [if_pos (decide_eq_true ⟨nI_pos' hn, nI_le h1 (by omega)⟩), nI_sub h1]
    by_cases h2 : i ≤ z - n
    · rw [if_pos (decide_eq_true ⟨nI_pos' hi, nI_le h2 (by omega)⟩), decide_eq_true (by omega)]
    · rw [if_neg (fun w => absurd ((nI_leI hi (by omega)).mp (of_decide_eq_true w).2) h2), decide_eq_false (by omega)]
  · rw [if_neg (fun w => absurd ((nI_leI hn (by omega)).mp (of_decide_eq_true w).2) h1), decide_eq_false (by omega)]
theorem z_hasn {M : kx_M} {q : Nat} {i n : Int32} (h : n < 0 ∨ i < 0) : f_X2_hasPart q M i n = false := by
  unfold f_X2_hasPart
  rw [z_within, z_within]
  rcases h with h | h
  · rw [if_neg (fun w => absurd (of_decide_eq_true w).1 (Int32.not_le.mpr h))]
  · split
    · rw [if_neg (fun w => absurd (of_decide_eq_true w).1 (Int32.not_le.mpr h))]
    · rfl
theorem l_sumle {i n z : Nat} (hi : i < 2 ^ 31) (hn : n < 2 ^ 31) (hz : z ≤ 40) : (lg_cmp ((nI i).toInt64 + (nI n).toInt64) ((nI z).toInt64) ≤ 0) = (i + n ≤ z) := by
  rw [nI_l hi, nI_l hn, nI_l (show z < 2 ^ 31 by omega), lN_add, l_le, Int64.le_iff_toInt_le, l_N (by omega), l_N (by omega)]
  exact propext ⟨fun h => by omega, fun h => by omega⟩
theorem z_cup {p q i j n : Nat} {M : kx_M} (hp : p < 8) (hq : q < 8) (hi : i + n ≤ 40) (hj : j + n ≤ 40) (hpq : p = q → j ≤ i) : ∃ M', f_X5_copy_225 kx_fuel (nI p) (nI q) (nI i) (nI j) (nI n) (nI 0) M = some (nI n, M') ∧ M'.1 = M.1 ∧ ∀ c, M'.2 11 c = if 40 * q + j ≤ c ∧ c < 40 * q + j + n then M.2 11 (40 * p + i + (c - (40 * q + j))) else M.2 11 c := by
  have := kz_loop (F := fun m k N => f_X5_copy_225 m (nI p) (nI q) (nI i) (nI j) (nI n) k N) (N := n) (st := fun k N => kx_u2 N 11 (40 * q + j + k) (N.2 11 (40 * p + i + k))) (k := fun N => some (nI n, N)) (fun k N => N.1 = M.1 ∧ ∀ c, N.2 11 c = if 40 * q + j ≤ c ∧ c < 40 * q + j + k then M.2 11 (40 * p + i + (c - (40 * q + j))) else M.2 11 c)
    (fun m N _ => by
      rw [f_X5_copy_225.eq_2]
      exact if_pos (Int32.le_refl _))
    (fun m k N hk _ => by
      rw [f_X5_copy_225.eq_2, if_neg (nI_ge hk (by omega)), z_40 p hp, z_40 q hq, nI_add, nI_add, nI_add, nI_add, z_ck (show 40 * p + i + k < 320 by omega) (by decide), z_ck (show 40 * q + j + k < 320 by omega) (by decide), nI_clamp (by omega), nI_clamp (by omega), nI_1]
      rfl)
    (fun k N hk hP => by
      obtain ⟨p1, p2⟩ := hP
      refine ⟨p1, fun c => ?_⟩
      show (if 11 = 11 ∧ c = 40 * q + j + k then N.2 11 (40 * p + i + k) else N.2 11 c) = _
      have src : N.2 11 (40 * p + i + k) = M.2 11 (40 * p + i + k) := by
        rw [p2, if_neg]
        by_cases e : p = q
        · have := hpq e
          omega
        · omega
      by_cases e : c = 40 * q + j + k
      · rw [if_pos ⟨rfl, e⟩, src, if_pos (by omega), show c - (40 * q + j) = k by omega]
      · rw [if_neg (fun z => e z.2), p2]
        by_cases e2 : 40 * q + j ≤ c ∧ c < 40 * q + j + k
        · rw [if_pos e2, if_pos (by omega)]
        · rw [if_neg e2, if_neg (by omega)]) n 0 M kx_fuel (by omega) (kz_f _ (by omega)) ⟨rfl, fun c => by rw [if_neg (by omega)]⟩
  exact ⟨_, this.1, this.2⟩
theorem z_cdown {p i j n : Nat} {M : kx_M} (hp : p < 8) (hi : i + n ≤ 40) (hj : j + n ≤ 40) (hij : i < j) : ∃ M', f_X5_copy_179 kx_fuel (nI p) (nI p) (nI i) (nI j) (nI n) (nI n - (1 : Int32)) M = some (nI n, M') ∧ M'.1 = M.1 ∧ ∀ c, M'.2 11 c = if 40 * p + j ≤ c ∧ c < 40 * p + j + n then M.2 11 (40 * p + i + (c - (40 * p + j))) else M.2 11 c := by
  have ix : ∀ k, k < n → (nI n - (1 : Int32)) - nI k = nI (n - 1 - k) := fun k hk => by
    have e : nI n - (1 : Int32) = nI (n - 1) := by
      have := nI_pred (n - 1)
      rw [show n - 1 + 1 = n by omega] at this
      exact this
    rw [e, nI_sub (by omega)]
  have := kz_loop (F := fun m k N => f_X5_copy_179 m (nI p) (nI p) (nI i) (nI j) (nI n) ((nI n - (1 : Int32)) - k) N) (N := n) (st := fun k N => kx_u2 N 11 (40 * p + j + (n - 1 - k)) (N.2 11 (40 * p + i + (n - 1 - k)))) (k := fun N => some (nI n, N)) (fun k N => N.1 = M.1 ∧ ∀ c, N.2 11 c = if 40 * p + j + (n - k) ≤ c ∧ c < 40 * p + j + n then M.2 11 (40 * p + i + (c - (40 * p + j))) else M.2 11 c)
    (fun m N _ => by
      rw [f_X5_copy_179.eq_2]
      exact if_pos ((by decide +kernel : ∀ n, n < 41 → (nI n - (1 : Int32)) - nI n < 0) n (by omega)))
    (fun m k N hk _ => by
      have z1 : ((nI n - (1 : Int32)) - nI k) + (-1) = (nI n - (1 : Int32)) - nI (k + 1) := (z_down1 _ _).trans (congrArg (fun z => (nI n - (1 : Int32)) - z) (nI_1 k))
      rw [f_X5_copy_179.eq_2, z1, ix k hk, if_neg (nI_pos (by omega)), z_40 p hp, nI_add, nI_add, nI_add, nI_add, z_ck (show 40 * p + i + (n - 1 - k) < 320 by omega) (by decide), z_ck (show 40 * p + j + (n - 1 - k) < 320 by omega) (by decide), nI_clamp (by omega), nI_clamp (by omega)]
      rfl)
    (fun k N hk hP => by
      obtain ⟨p1, p2⟩ := hP
      refine ⟨p1, fun c => ?_⟩
      show (if 11 = 11 ∧ c = 40 * p + j + (n - 1 - k) then N.2 11 (40 * p + i + (n - 1 - k)) else N.2 11 c) = _
      have src : N.2 11 (40 * p + i + (n - 1 - k)) = M.2 11 (40 * p + i + (n - 1 - k)) := by
        rw [p2, if_neg (by omega)]
      by_cases e : c = 40 * p + j + (n - 1 - k)
      · rw [if_pos ⟨rfl, e⟩, src, if_pos (by omega), show c - (40 * p + j) = n - 1 - k by omega]
      · rw [if_neg (fun z => e z.2), p2]
        by_cases e2 : 40 * p + j + (n - k) ≤ c ∧ c < 40 * p + j + n
        · rw [if_pos e2, if_pos (by omega)]
        · rw [if_neg e2, if_neg (by omega)]) n 0 M kx_fuel (by omega) (kz_f _ (by omega)) ⟨rfl, fun c => by rw [if_neg (by omega)]⟩
  obtain ⟨a1, a2, a3⟩ := this
  rw [nI_0, Int32.sub_zero] at a1
  refine ⟨_, a1, a2, fun c => ?_⟩
  rw [a3, show n - n = 0 by omega, Nat.add_zero]
theorem z_neg_or (x : Int32) : x < 0 ∨ ∃ k, k < 2 ^ 31 ∧ x = nI k := by
  by_cases h : x < 0
  · exact Or.inl h
  · exact Or.inr (nI_of h)
theorem kv_s_copy {Mx Mm : kx_M} (h : kv_Inv Mx Mm) (a b c d w : Int32) : kv_Sim (f_X4_copy a b c d w Mx) (f_X5_copy a b c d w Mm) := by
  obtain ⟨V, hok, hX, hM, hR⟩ := id h
  have hv := hok.2.2.2.1
  unfold f_X4_copy f_X5_copy f_X5_isShelf f_X4_copyFault f_X4_isShelf
  rw [kv_within, kv_within]
  by_cases h1 : f_X4_isWithin a 0 7 = true
  · rw [if_pos h1, if_pos h1]
    by_cases h2 : f_X4_isWithin b 0 7 = true
    · rw [if_pos h2, if_pos h2]
      obtain ⟨p, hp, rfl⟩ := g_S_el h1
      obtain ⟨q, hq, rfl⟩ := g_S_el h2
      have hSp := hR.2.1 p hp
      have hSq := hR.2.1 q hq
      simp only [z_ck hp (by decide : (8 : Nat) ≤ 4096), z_ck hq (by decide : (8 : Nat) ≤ 4096), nI_clamp (show p < 2 ^ 31 by omega), nI_clamp (show q < 2 ^ 31 by omega)]
      have no : ∀ r : Int32, ¬ r = 0 → f_X4_copy_48 (nI p) (nI q) c d w r Mx = kx_bd (f_X4_refuse r Mx) fun v M => some (v, M) := fun r hr => by
        unfold f_X4_copy_48
        rw [if_neg hr]
      rcases hSp.2 with ep | ⟨x, hx, ep⟩ | ⟨t, z, ht, hz, ep, ep2, ep3, ep4⟩
      · obtain ⟨g1, g2, g3, g4⟩ := sh_none hSp hp ep
        rcases hSq.2 with eq | ⟨y, hy, eq⟩ | ⟨u, zq, hu, hzq, eq, eq2, eq3, eq4⟩
        · obtain ⟨k1, k2, k3, k4⟩ := sh_none hSq hq eq
          rw [g1, g2, g3, k1, ep, eq]
          rw [if_neg (show ¬ (10 : Int32) ≤ -1 by decide), Option.bind_some, if_neg (show ¬ false = true by decide)]
          unfold f_X5_copy_81
          rw [z_ck hp (by decide), nI_clamp (by omega), ep]
          rw [if_neg (show ¬ false = true by decide), if_neg (show ¬ false = true by decide), Option.bind_some, if_neg (show ¬ (-4 : Int32) = 0 by decide), no _ (by decide), if_neg (show ¬ (10 : Int32) ≤ -1 by decide), if_pos (show (-1 : Int32) < 0 by decide)]
          exact kv_Sim_nothing h
        · obtain ⟨k1, k2, k3, k4⟩ := sh_visitor hSq hq (by omega) eq
          obtain ⟨c1, c2, c3, c4, c5⟩ := z_ten y (by omega)
          rw [g1, k1, ep, eq]
          rw [if_neg (show ¬ (10 : Int32) ≤ -1 by decide), if_neg (show ¬ false = true by decide), if_pos rfl, Option.bind_some, if_neg (show ¬ (-3 : Int32) = 0 by decide), no _ (by decide), if_pos (Int32.not_lt.mp c1)]
          exact kv_Sim_other h
        · obtain ⟨k1, k2, k3⟩ := sh_row hSq hq hu eq
          obtain ⟨c1, c2, c3, c4⟩ := z_sort u hu
          rw [g1, g2, g3, k1, ep, eq]
          rw [if_neg (show ¬ (10 : Int32) ≤ -1 by decide), Option.bind_some]
          unfold f_X5_copy_81
          rw [z_ck hp (by decide), nI_clamp (by omega), ep]
          rw [if_neg (show ¬ false = true by decide), if_neg (show ¬ false = true by decide), if_neg (show ¬ false = true by decide), if_neg (show ¬ false = true by decide), Option.bind_some, if_neg (show ¬ (-4 : Int32) = 0 by decide), no _ (by decide), if_neg (show ¬ (10 : Int32) ≤ nI u from Int32.not_le.mpr c1), if_pos (show (-1 : Int32) < 0 by decide)]
          exact kv_Sim_nothing h
      · obtain ⟨g1, g2, g3, g4⟩ := sh_visitor hSp hp (by omega) ep
        obtain ⟨c1, c2, c3, c4, c5⟩ := z_ten x (by omega)
        rw [g1, ep, if_pos rfl, Option.bind_some, if_neg (show ¬ (-3 : Int32) = 0 by decide), no _ (by decide), if_pos (Int32.not_lt.mp c1)]
        exact kv_Sim_other h
      · obtain ⟨g1, g2, g3⟩ := sh_row hSp hp ht ep
        obtain ⟨d1, d2, d3, d4⟩ := z_sort t ht
        rcases hSq.2 with eq | ⟨y, hy, eq⟩ | ⟨u, zq, hu, hzq, eq, eq2, eq3, eq4⟩
        · obtain ⟨k1, k2, k3, k4⟩ := sh_none hSq hq eq
          rw [g1, g2, g3, k1, k2, k3, ep, eq]
          rw [if_neg (show ¬ (10 : Int32) ≤ nI t from Int32.not_le.mpr d1), if_neg (show ¬ (10 : Int32) ≤ -1 by decide), Option.bind_some, if_pos rfl, Option.bind_some]
          unfold f_X5_copy_81
          rw [z_ck hp (by decide), z_ck hq (by decide), nI_clamp (by omega), nI_clamp (by omega), ep, eq]
          rw [if_neg (show ¬ false = true by decide), if_neg (show ¬ false = true by decide), if_neg (show ¬ false = true by decide), if_neg (show ¬ false = true by decide), Option.bind_some, if_neg (show ¬ (-4 : Int32) = 0 by decide), no _ (by decide), if_neg (Int32.not_lt.mpr d3), if_neg (show ¬ (0 : Int32) ≤ -1 by decide)]
          exact kv_Sim_nothing h
        · obtain ⟨k1, k2, k3, k4⟩ := sh_visitor hSq hq (by omega) eq
          obtain ⟨c1, c2, c3, c4, c5⟩ := z_ten y (by omega)
          rw [g1, k1, ep, eq]
          rw [if_neg (show ¬ (10 : Int32) ≤ nI t from Int32.not_le.mpr d1), if_neg (show ¬ false = true by decide), if_pos rfl, Option.bind_some, if_neg (show ¬ (-3 : Int32) = 0 by decide), no _ (by decide), if_pos (Int32.not_lt.mp c1)]
          exact kv_Sim_other h
        · obtain ⟨k1, k2, k3⟩ := sh_row hSq hq hu eq
          obtain ⟨c1, c2, c3, c4⟩ := z_sort u hu
          rw [g1, g2, g3, k1, k2, k3, hSp.1, hSq.1, ep, eq]
          rw [if_neg (show ¬ (10 : Int32) ≤ nI t from Int32.not_le.mpr d1), if_neg (show ¬ (10 : Int32) ≤ nI u from Int32.not_le.mpr c1), if_neg (show ¬ false = true by decide), if_neg (show ¬ false = true by decide), if_pos rfl, if_pos rfl, Option.bind_some, Option.bind_some, if_pos rfl, if_pos rfl]
          by_cases etu : nI t = nI u
          · rw [if_pos etu, if_pos etu, Option.bind_some, if_pos rfl]
            have cl : f_X5_copy_81 (nI p) (nI q) c d w Mm = (if w < 0 then (kx_bd (f_X5_no (-2 : Int32) Mm) fun v M => some (v, M)) else if c < 0 then (kx_bd (f_X5_no (-2 : Int32) Mm) fun v M => some (v, M)) else if d < 0 then (kx_bd (f_X5_no (-2 : Int32) Mm) fun v M => some (v, M)) else if 0 < (lg_cmp (c.toInt64 + w.toInt64) (nI z).toInt64) then (kx_bd (f_X5_no (-2 : Int32) Mm) fun v M => some (v, M)) else if (lg_cmp (d.toInt64 + w.toInt64) (nI zq).toInt64) ≤ 0 then (if nI p = nI q then (if d ≤ c then f_X5_copy_225 kx_fuel (nI p) (nI q) c d w (0 : Int32) Mm else f_X5_copy_179 kx_fuel (nI p) (nI q) c d w (w - (1 : Int32)) Mm) else f_X5_copy_225 kx_fuel (nI p) (nI q) c d w (0 : Int32) Mm) else (kx_bd (f_X5_no (-2 : Int32) Mm) fun v M => some (v, M))) := by
              unfold f_X5_copy_81
              simp only [z_ck hp (by decide : (8 : Nat) ≤ 4096), z_ck hq (by decide : (8 : Nat) ≤ 4096), nI_clamp (show p < 2 ^ 31 by omega), nI_clamp (show q < 2 ^ 31 by omega), ep, eq, ep2, eq2, if_neg (Int32.not_lt.mpr d3), if_pos c3]
            rw [cl]
            rcases z_neg_or w with hw | ⟨n, hn, rfl⟩
            · rw [z_hasn (Or.inl hw), if_neg (show ¬ false = true by decide), no _ (by decide), if_pos hw]
              exact kv_Sim_no h
            · rw [if_neg (nI_pos hn)]
              rcases z_neg_or c with hc | ⟨i, hi, rfl⟩
              · rw [z_hasn (Or.inr hc), if_neg (show ¬ false = true by decide), no _ (by decide), if_pos hc]
                exact kv_Sim_no h
              · rw [if_neg (nI_pos hi)]
                rcases z_neg_or d with hd | ⟨j, hj, rfl⟩
                · rw [z_hasn (i := d) (Or.inr hd), if_neg (show ¬ false = true by decide), no (-2) (by decide), if_pos hd, ite_self]
                  exact kv_Sim_no h
                · rw [if_neg (nI_pos hj), z_has2 hz hi hn ep3, z_has2 hzq hj hn eq3]
                  by_cases b1 : i + n ≤ z
                  · have b1' : ¬ 0 < (lg_cmp ((nI i).toInt64 + (nI n).toInt64) (nI z).toInt64) := fun q => absurd q (Int32.not_lt.mpr ((l_sumle hi hn hz).mpr b1))
                    rw [decide_eq_true b1, if_pos rfl, if_neg b1']
                    by_cases b2 : j + n ≤ zq
                    · rw [decide_eq_true b2, if_pos rfl, if_pos ((l_sumle hj hn hzq).mpr b2)]
                      have mem : ∃ N, (if nI p = nI q then (if nI j ≤ nI i then f_X5_copy_225 kx_fuel (nI p) (nI q) (nI i) (nI j) (nI n) (0 : Int32) Mm else f_X5_copy_179 kx_fuel (nI p) (nI q) (nI i) (nI j) (nI n) (nI n - (1 : Int32)) Mm) else f_X5_copy_225 kx_fuel (nI p) (nI q) (nI i) (nI j) (nI n) (0 : Int32) Mm) = some (nI n, N) ∧ N.1 = Mm.1 ∧ ∀ c, N.2 11 c = if 40 * q + j ≤ c ∧ c < 40 * q + j + n then Mm.2 11 (40 * p + i + (c - (40 * q + j))) else Mm.2 11 c := by
                        by_cases epq : p = q
                        · subst epq
                          rw [if_pos rfl]
                          by_cases eij : j ≤ i
                          · rw [if_pos (nI_le eij (by omega))]
                            exact z_cup hp hp (by omega) (by omega) (fun _ => eij)
                          · rw [if_neg (nI_ge (by omega) (by omega))]
                            exact z_cdown hp (by omega) (by omega) (by omega)
                        · rw [if_neg (fun e => epq ((nI_eq (by omega) (by omega)).mp e))]
                          exact z_cup hp hq (by omega) (by omega) (fun e => absurd e epq)
                      obtain ⟨N, n1, n2, n3⟩ := mem
                      rw [n1]
                      unfold f_X4_copy_48
                      have cg : ∀ {k : Option (Int32 × kx_M)}, kx_cg 40 40 (nI i) (nI j) (nI n) k = k := fun {k} => if_pos ⟨nI_pos hi, nI_pos hj, nI_pos hn, by rw [nI_clamp hi, nI_clamp hn]; omega, by rw [nI_clamp hj, nI_clamp hn]; omega⟩
                      rw [if_pos rfl, z_ck hp (by decide), z_ck hq (by decide), cg, nI_clamp (by omega), nI_clamp (by omega), nI_clamp hi, nI_clamp hj, nI_clamp hn]
                      unfold kx_lt
                      have etu2 : t = u := (nI_eq (by omega) (by omega)).mp etu
                      refine kv_Sim_eq rfl rfl (kv_shelf_row hok hX hM hR hq (fun r hr => rfl) (fun r hr => ?_) (fun r r1 r2 => by rw [n2]) (fun k hk => ⟨by rw [n2], by rw [n2]⟩) (fun k hk => ?_) ?_)
                      · funext k
                        exact if_neg (show ¬ r = 26 + 2 * q + 1 by omega)
                      · rw [n3, if_neg (by omega)]
                      · refine ⟨by rw [n2]; exact hSq.1, Or.inr (Or.inr ⟨u, zq, hu, hzq, by rw [n2]; exact eq, by rw [n2]; exact eq2, eq3, fun k hk => ?_⟩)⟩
                        show (if 27 + 2 * q = 26 + 2 * q + 1 then va_cpy (Mx.2 (26 + 2 * p + 1)) (Mx.2 (26 + 2 * q + 1)) i j n k else Mx.2 (27 + 2 * q) k) = _
                        rw [if_pos (by omega), n3, show 26 + 2 * p + 1 = 27 + 2 * p by omega, show 26 + 2 * q + 1 = 27 + 2 * q by omega]
                        unfold va_cpy
                        by_cases e : j ≤ k ∧ k < j + n
                        · rw [if_pos e, if_pos (by omega), ep4 _ (by omega), show 40 * p + (i + (k - j)) = 40 * p + i + (40 * q + k - (40 * q + j)) by omega]
                        · rw [if_neg e, if_neg (by omega), eq4 k hk]
                    · rw [decide_eq_false b2, if_neg (show ¬ false = true by decide), no (-2) (by decide), if_neg (fun e => b2 ((l_sumle hj hn hzq).mp e))]
                      exact kv_Sim_no h
                  · have b1' : 0 < (lg_cmp ((nI i).toInt64 + (nI n).toInt64) (nI z).toInt64) := Int32.not_le.mp (fun q => b1 ((l_sumle hi hn hz).mp q))
                    rw [decide_eq_false b1, if_neg (show ¬ false = true by decide), no (-2) (by decide), if_pos b1']
                    exact kv_Sim_no h
          · rw [if_neg etu, if_neg etu, Option.bind_some, if_neg (show ¬ (-3 : Int32) = 0 by decide), no _ (by decide)]
            exact kv_Sim_other h
    · rw [if_neg h2, if_neg h2, Option.bind_some, if_neg (show ¬ (-2 : Int32) = 0 by decide)]
      unfold f_X4_copy_48
      rw [if_neg (show ¬ (-2 : Int32) = 0 by decide)]
      exact kv_Sim_no h
  · rw [if_neg h1, if_neg h1, Option.bind_some, if_neg (show ¬ (-2 : Int32) = 0 by decide)]
    unfold f_X4_copy_48
    rw [if_neg (show ¬ (-2 : Int32) = 0 by decide)]
    exact kv_Sim_no h
