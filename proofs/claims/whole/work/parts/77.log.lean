/-! visitsTill, judge, behind, split -/
def s_fst (p : Nat → Bool) : Nat → Nat → Int32
  | 0, _ => -1
  | m + 1, i => if p i = true then nI i else s_fst p m (i + 1)
theorem s_fst_none (p : Nat → Bool) : ∀ m i, (∀ j, i ≤ j → j < i + m → p j = false) → s_fst p m i = -1
  | 0, _, _ => rfl
  | m + 1, i, h => by
    show (if p i = true then nI i else s_fst p m (i + 1)) = -1
    rw [h i (Nat.le_refl i) (by omega), if_neg (show ¬ false = true by decide)]
    exact s_fst_none p m (i + 1) (fun j h1 h2 => h j (by omega) (by omega))
theorem s_fst_hit (p : Nat → Bool) : ∀ m i k, i ≤ k → k < i + m → (∀ j, i ≤ j → j < k → p j = false) → p k = true → s_fst p m i = nI k
  | 0, i, k, h1, h2, _, _ => absurd h2 (by omega)
  | m + 1, i, k, h1, h2, h3, h4 => by
    show (if p i = true then nI i else s_fst p m (i + 1)) = nI k
    by_cases e : i = k
    · rw [e, if_pos h4]
    · rw [h3 i (Nat.le_refl i) (by omega), if_neg (show ¬ false = true by decide)]
      exact s_fst_hit p m (i + 1) k (by omega) (by omega) (fun j h5 h6 => h3 j (by omega) h6) h4
def s_it (V : kv_V) (g : Int32) : Nat → kv_V
  | 0 => V
  | i + 1 => s_go (s_it V g i) g
theorem kv_ok_it {V : kv_V} (hok : kv_ok V) (g : Int32) : ∀ i, kv_ok (s_it V g i)
  | 0 => hok
  | i + 1 => kv_ok_go (kv_ok_it hok g i) g
/-- the reference's own row of what was kept, still there -/
theorem frM_set {M : kx_M} {w : Nat} {f : Nat → Int32} (h : 14 ≤ w ∧ w ≤ 18) : frM M (kz_set M w f) := ⟨fun r a b => kz_set_ne (by omega), by rw [kz_set_ne (by omega)], by rw [kz_set_ne (by omega)], rfl⟩
theorem frM_again {M M' : kx_M} (h1 : ∀ r, 8 ≤ r → M'.1 r = M.1 r) (h2 : ∀ s, ¬ s = 0 → ¬ s = 4 → ¬ s = 9 → M'.1 0 s = M.1 0 s) (h3 : M'.2 = M.2) : frM M M' := ⟨fun r a _ => h1 r a, h2 10 (by omega) (by omega) (by omega), h2 20 (by omega) (by omega) (by omega), h3⟩
/-- the reference is again as it was kept in row 15 -/
theorem kv_M_again {Mm N : kx_M} {V : kv_V} {f : Nat → Int32} (hO : kv_Of f V) (h15 : N.1 15 = f) (fr : frM Mm N) : ∃ M', f_X5_again 15 N = some M' ∧ kv_M M' V ∧ frM Mm M' ∧ (∀ r, 8 ≤ r → M'.1 r = N.1 r) ∧ (∀ s, ¬ s = 0 → ¬ s = 4 → ¬ s = 9 → M'.1 0 s = N.1 0 s) := by
  rw [← h15] at hO
  obtain ⟨M', g1, g2, g3, g4, g5⟩ := kv_again (w := 15) (by omega) hO
  exact ⟨M', g1, g2, frM_trans fr (frM_again g3 g4 g5), g3, g4⟩
theorem kv_M_set {M : kx_M} {V : kv_V} {w : Nat} {f : Nat → Int32} (hw : 8 ≤ w) (hM : kv_M M V) : kv_M (kz_set M w f) V := kv_M_of (by rw [kz_set_ne (by omega)]) (by rw [kz_set_ne (by omega)]) (by rw [kz_set_ne (by omega)]) (fun j h1 h2 => kz_set_ne (by omega)) hM
theorem kv_Inv_same {Mx Mx' Mm Mm' : kx_M} {V : kv_V} (hok : kv_ok V) (hX : kv_X Mx 1 V) (hM' : kv_M Mm' V) (hR : kv_rest Mx Mm (V.1 5 3)) (fx : frX Mx Mx') (h1 : ∀ r, 1 ≤ r → r ≤ 8 → Mx'.1 r = Mx.1 r) (fm : frM Mm Mm') : kv_Inv Mx' Mm' := kv_Inv_of hok (kv_X_of (fun j hj => h1 _ (by omega) (by omega)) hX) hM' fx fm (Nat.le_refl _) hR
theorem kv_s_visitsTill {Mx Mm : kx_M} (h : kv_Inv Mx Mm) (a b : Int32) : kv_Sim (f_X4_visitsTill a b Mx) (f_X5_visitsTill a b Mm) := by
  obtain ⟨V, hok, hX, hM, hR⟩ := id h
  have hv := hok.2.2.2.1
  have hn := hok.1.2
  unfold f_X4_visitsTill f_X5_visitsTill
  rw [e_X0_V hX, e_X5_V hM, e_X0_C hX, e_X5_C hM]
  refine kv_Sim_if (fun h1 => kv_Sim_if (fun h2 => ?_) (fun _ => kv_Sim_no h)) (fun _ => kv_Sim_no h)
  obtain ⟨x, hx, rfl⟩ := g_V_el hok h1
  obtain ⟨c, hc, rfl⟩ := g_C_el hok h2
  obtain ⟨A, g1, g2, g3, g4⟩ := kv_take (o := 17) (o2 := 1) (by omega) hX
  obtain ⟨f, q1, q2⟩ := kv_keep (w := 15) (by omega) hM
  rw [g1, q1, Option.bind_some, Option.bind_some]
  have gg : ∃ g : Int32, g = (1 : Int32) <<< (nI x &&& 31) := ⟨_, rfl⟩
  obtain ⟨g, hg⟩ := gg
  have pp : ∃ p : Nat → Bool, p = fun i => bt ((s_it V g i).2.1 x) c := ⟨_, rfl⟩
  obtain ⟨p, hp⟩ := pp
  have hx1 := kz_rel (F := fun n i N => f_X4_visitsTill_42 n (nI x) (nI c) i N) (N := 61) (fun i N => kv_X N 17 (s_it V g i) ∧ (∀ r, ¬ (17 ≤ r ∧ r ≤ 24) → N.1 r = Mx.1 r) ∧ N.2 = Mx.2 ∧ ∀ j, j < i → p j = false) (fun z => ∃ M', z = some (s_fst p 61 0, M') ∧ (∀ r, ¬ (17 ≤ r ∧ r ≤ 24) → M'.1 r = Mx.1 r) ∧ M'.2 = Mx.2)
    (fun n N hP => by
      obtain ⟨p1, p2, p3, p4⟩ := hP
      refine ⟨N, ?_, p2, p3⟩
      rw [f_X4_visitsTill_42.eq_2, if_pos (show (60 : Int32) < nI 61 by decide), s_fst_none p 61 0 (fun j _ hj => p4 j (by omega))])
    (fun n i N hi hP => by
      obtain ⟨p1, p2, p3, p4⟩ := hP
      have y : N.1 24 x = (s_it V g i).2.1 x := (p1.2.2.1 x (by omega)).2.2.2
      have epi : p i = bt ((s_it V g i).2.1 x) c := by rw [hp]
      rw [f_X4_visitsTill_42.eq_2, if_neg (show ¬ (60 : Int32) < nI i from nI_nlt (a := 60) (by omega) (by omega)), z_ck (show x < 8 by omega) (by decide), nI_clamp (by omega), y, z_isIn _ (show c < 32 by omega), ← epi]
      cases hpi : p i with
      | true =>
        rw [if_pos rfl]
        exact Or.inl ⟨N, by rw [s_fst_hit p 61 0 i (by omega) (by omega) (fun j _ hj => p4 j hj) hpi], p2, p3⟩
      | false =>
        rw [if_neg (show ¬ false = true by decide), ← hg, nI_1]
        obtain ⟨N', t1, t2, t3, t4⟩ := s_X0_go (kv_ok_it hok g i) p1 g
        rw [t1, Option.bind_some]
        refine Or.inr ⟨N', ⟨t2, fun r hr => by rw [t3 r (by omega), p2 r hr], t4.trans p3, fun j hj => ?_⟩, rfl⟩
        by_cases e : j = i
        · rw [e]
          exact hpi
        · exact p4 j (by omega)) 61 0 kx_fuel A (by omega) (kz_f _ (by omega)) ⟨g2, g3, g4, fun j hj => absurd hj (Nat.not_lt_zero j)⟩
  have hm1 := kz_rel (F := fun n i (b : Int32 × kx_M) => f_X5_visitsTill_36 n (nI x) (nI c) b.1 i b.2) (N := 61) (fun i b => b.2.1 15 = f ∧ frM Mm b.2 ∧ ((b.1 = -1 ∧ kv_M b.2 (s_it V g (i - 1)) ∧ ∀ j, j < i → p j = false) ∨ (¬ b.1 = -1 ∧ b.1 = s_fst p 61 0))) (fun z => ∃ M', z = some (s_fst p 61 0, M') ∧ kv_M M' V ∧ frM Mm M')
    (fun n b hP => by
      obtain ⟨p1, p2, p3⟩ := hP
      obtain ⟨M', t1, t2, t3, t4⟩ := kv_M_again q2 p1 p2
      refine ⟨M', ?_, t2, t3⟩
      rw [f_X5_visitsTill_36.eq_2, if_pos (show (60 : Int32) < nI 61 by decide), t1, Option.bind_some]
      rcases p3 with ⟨e, _, e2⟩ | ⟨_, e⟩
      · rw [e, s_fst_none p 61 0 (fun j _ hj => e2 j (by omega))]
      · rw [e])
    (fun n i b hi hP => by
      obtain ⟨p1, p2, p3⟩ := hP
      rw [f_X5_visitsTill_36.eq_2, if_neg (show ¬ (60 : Int32) < nI i from nI_nlt (a := 60) (by omega) (by omega))]
      rcases p3 with ⟨e, e1, e2⟩ | ⟨e, e1⟩
      · rw [if_pos e, ← hg]
        have key : ∀ N : kx_M, N.1 15 = f → frM Mm N → kv_M N (s_it V g i) → ∃ a' : Int32 × kx_M, (a'.2.1 15 = f ∧ frM Mm a'.2 ∧ ((a'.1 = -1 ∧ kv_M a'.2 (s_it V g (i + 1 - 1)) ∧ ∀ j, j < i + 1 → p j = false) ∨ (¬ a'.1 = -1 ∧ a'.1 = s_fst p 61 0))) ∧ f_X5_visitsTill_60 (f_X5_visitsTill_36 n) (nI x) (nI c) b.1 (nI i) N = f_X5_visitsTill_36 n (nI x) (nI c) a'.1 (nI (i + 1)) a'.2 := by
          intro N n1 n2 n3
          have epi : p i = bt ((s_it V g i).2.1 x) c := by rw [hp]
          unfold f_X5_visitsTill_60
          rw [z_ck (show x < 8 by omega) (by decide), nI_clamp (by omega), (n3.2.2 x (by omega)).2.2.2, z_has _ (show c < 32 by omega), ← epi, nI_1]
          cases hpi : p i with
          | true =>
            rw [if_pos rfl]
            refine ⟨(nI i, N), ⟨n1, n2, Or.inr ⟨?_, ?_⟩⟩, rfl⟩
            · exact fun q => (show ¬ (0 : Int32) ≤ -1 by decide) (q ▸ nI_pos' (by omega))
            · exact (s_fst_hit p 61 0 i (by omega) (by omega) (fun j _ hj => e2 j hj) hpi).symm
          | false =>
            rw [if_neg (show ¬ false = true by decide)]
            refine ⟨(b.1, N), ⟨n1, n2, Or.inl ⟨e, n3, fun j hj => ?_⟩⟩, rfl⟩
            by_cases ej : j = i
            · rw [ej]
              exact hpi
            · exact e2 j (by omega)
        by_cases h0 : i = 0
        · subst h0
          rw [if_pos (show nI 0 ≤ (0 : Int32) by decide)]
          exact Or.inr (key b.2 p1 p2 e1)
        · rw [if_neg (show ¬ nI i ≤ (0 : Int32) from nI_nle (by omega) (by omega))]
          obtain ⟨N', t1, t2, t3, t4⟩ := s_X5_go (kv_ok_it hok g (i - 1)) e1 g
          rw [t1, Option.bind_some]
          refine Or.inr (key N' (by rw [t3 15 (by omega) (by omega) (by omega)]; exact p1) (frM_trans p2 (frM_go t3 t4)) ?_)
          have ei : i = i - 1 + 1 := by omega
          rw [ei]
          exact t2
      · rw [if_neg e]
        obtain ⟨M', t1, t2, t3, t4⟩ := kv_M_again q2 p1 p2
        rw [t1, Option.bind_some, e1]
        exact Or.inl ⟨M', rfl, t2, t3⟩) 61 0 kx_fuel ((-1 : Int32), kz_set Mm 15 f) (by omega) (kz_f _ (by omega)) ⟨kz_set_same, frM_set (by omega), Or.inl ⟨rfl, kv_M_set (by omega) hM, fun j hj => absurd hj (Nat.not_lt_zero j)⟩⟩
  obtain ⟨M', a1, a2, a3⟩ := hx1
  obtain ⟨N', b1, b2, b3⟩ := hm1
  exact kv_Sim_eq a1 b1 (kv_Inv_same hok hX b2 hR ⟨fun r h1 h2 _ => a2 r (by omega), a3⟩ (fun r h1 h2 => a2 r (by omega)) b3)
theorem e_X4_fault_no {Mx : kx_M} {a : Int32} {told : Bool} {n : Int32} (h : ¬ f_X4_isWithin a 0 7 = true ∨ told = false) : f_X4_rowFault Mx a told n = some (-2) := by
  unfold f_X4_rowFault f_X4_isShelf
  by_cases h1 : f_X4_isWithin a 0 7 = true
  · rcases h with h | h
    · exact absurd h1 h
    · rw [if_pos h1, h]
      rfl
  · rw [if_neg h1]
/-- what both see in the first elements of a row -/
theorem e_told {Mm : kx_M} {s i : Nat} (hs : s < 8) (hi : i < 40) : f_X5_toldAt Mm (nI s) (nI i) = some (Mm.2 11 (40 * s + i)) := by
  unfold f_X5_toldAt
  rw [z_40 s hs, nI_add, z_ck (show 40 * s + i < 320 by omega) (by decide), nI_clamp (by omega)]
theorem kz_first {F : Nat → Int32 → Option Int32} {N : Nat} {p : Nat → Bool} (hx : ∀ n, F (n + 1) (nI N) = some (-1)) (hs : ∀ n i, i < N → F (n + 1) (nI i) = if p i = true then some (nI i) else F n (nI (i + 1))) : ∀ (m i n : Nat), i + m = N → m < n → F n (nI i) = some (s_fst p m i)
  | 0, i, 0, _, h => absurd h (Nat.not_lt_zero _)
  | m + 1, i, 0, _, h => absurd h (Nat.not_lt_zero _)
  | 0, i, n + 1, h, _ => by
    have : i = N := by omega
    subst this
    exact hx n
  | m + 1, i, n + 1, h, hn => by
    rw [hs n i (by omega)]
    show _ = some (if p i = true then nI i else s_fst p m (i + 1))
    by_cases q : p i = true
    · rw [if_pos q, if_pos q]
    · rw [if_neg q, if_neg q]
      exact kz_first hx hs m (i + 1) n (by omega) (by omega)
theorem l_all : ∀ v, v < 9 → ((((1 : Int32) <<< (nI v &&& 31)) - (1 : Int32)).toInt64.toInt = 2 ^ v - 1 ∧ ((1 : Int64) <<< ((nI v).toInt64 &&& 63)).toInt = 2 ^ v) := by decide +kernel
/-- a group that can't be -/
def s_wr (V : kv_V) (Mm : kx_M) (s i : Nat) : Bool := decide (¬ (1 ≤ (Mm.2 11 (40 * s + i)).toInt ∧ (Mm.2 11 (40 * s + i)).toInt < 2 ^ V.1 5 3))
theorem e_X4_wrong {Mx Mm : kx_M} {V : kv_V} {s n : Nat} (hok : kv_ok V) (hX : kv_X Mx 1 V) (he : ∀ k, k < 40 → Mx.2 (27 + 2 * s) k = Mm.2 11 (40 * s + k)) (hn : n ≤ 40) : f_X4_firstWrong (26 + 2 * s) Mx (nI n) = some (s_fst (s_wr V Mm s) n 0) := by
  have hv := hok.2.2.2.1
  obtain ⟨la, _⟩ := l_all (V.1 5 3) (by omega)
  unfold f_X4_firstWrong
  refine kz_first (F := fun m i => f_X4_firstWrong_2 (26 + 2 * s) Mx m (nI n) i) (N := n) ?_ ?_ n 0 kx_fuel (by omega) (kz_f _ (by omega))
  · intro m
    rw [f_X4_firstWrong_2.eq_2]
    exact if_pos (Int32.le_refl _)
  · intro m i hi
    have l1 : (1 : Int64).toInt = 1 := by decide
    rw [f_X4_firstWrong_2.eq_2, if_neg (nI_ge hi (by omega)), z_ck (show i < 40 by omega) (by decide), nI_clamp (by omega), show 26 + 2 * s + 1 = 27 + 2 * s by omega, he i (by omega), s_X0_all hX, nI_1]
    unfold s_all s_wr
    simp only [l_lt, l_le, Int64.lt_iff_toInt_lt, Int64.le_iff_toInt_le, l1, la]
    by_cases q1 : (Mm.2 11 (40 * s + i)).toInt < 1
    · rw [if_pos q1, if_pos (decide_eq_true (by omega))]
    · rw [if_neg q1]
      by_cases q2 : (Mm.2 11 (40 * s + i)).toInt ≤ 2 ^ V.1 5 3 - 1
      · rw [if_pos q2, if_neg (fun z => absurd (of_decide_eq_true z) (by omega))]
      · rw [if_neg q2, if_pos (decide_eq_true (by omega))]
theorem e_X5_wrong {Mm : kx_M} {V : kv_V} {s n : Nat} (hok : kv_ok V) (hM : kv_M Mm V) (hs : s < 8) (hn : n ≤ 40) : f_X5_wrong Mm (nI s) (nI n) = some (s_fst (s_wr V Mm s) n 0) := by
  have hv := hok.2.2.2.1
  obtain ⟨_, la⟩ := l_all (V.1 5 3) (by omega)
  unfold f_X5_wrong
  refine kz_first (F := fun m i => f_X5_wrong_2 Mm m (nI s) (nI n) i) (N := n) ?_ ?_ n 0 kx_fuel (by omega) (kz_f _ (by omega))
  · intro m
    rw [f_X5_wrong_2.eq_2]
    exact if_pos (Int32.le_refl _)
  · intro m i hi
    have l0 : (0 : Int64).toInt = 0 := by decide
    rw [f_X5_wrong_2.eq_2, if_neg (nI_ge hi (by omega)), e_told hs (by omega), Option.bind_some, nI_1]
    unfold f_X5_canBe s_wr
    rw [hM.1.2.2.2.2]
    simp only [l_le, l_ge, Int64.le_iff_toInt_le, l0, la]
    by_cases q1 : (Mm.2 11 (40 * s + i)).toInt ≤ 0
    · rw [if_pos q1, if_neg (show ¬ false = true by decide), if_pos (decide_eq_true (by omega))]
    · rw [if_neg q1]
      by_cases q2 : 2 ^ V.1 5 3 ≤ (Mm.2 11 (40 * s + i)).toInt
      · rw [if_pos q2, if_neg (show ¬ false = true by decide), if_pos (decide_eq_true (by omega))]
      · rw [if_neg q2, if_pos rfl, if_neg (fun z => absurd (of_decide_eq_true z) (by omega))]
theorem kv_s_judge {Mx Mm : kx_M} (h : kv_Inv Mx Mm) (a b : Int32) : kv_Sim (f_X4_judge a b Mx) (f_X5_judge a b Mm) := by
  obtain ⟨V, hok, hX, hM, hR⟩ := id h
  have hv := hok.2.2.2.1
  unfold f_X4_judge f_X5_judge f_X5_isShelf
  rw [kv_within, kv_within]
  by_cases h1 : f_X4_isWithin a 0 7 = true
  · rw [if_pos h1]
    obtain ⟨s, hs, rfl⟩ := g_S_el h1
    have hS := hR.2.1 s hs
    by_cases h2 : f_X4_isWithin b 0 40 = true
    · rw [if_pos h2, h2]
      obtain ⟨n, hn, rfl⟩ := z_in (n := 40) (by omega) h2
      rw [e_X4_fault hS hv hs, e_X5_told hS hv hs, Option.bind_some, Option.bind_some]
      by_cases hf : s_fault Mm s (nI n) = 0
      · obtain ⟨t, z, ht, hz, e, e2, e3, e4, e5⟩ := s_fault_el hS hv hf
        rw [hf, if_pos rfl, if_pos (show (0 : Int32) ≤ 0 by decide), z_ck hs (by decide), nI_clamp (by omega), e_X4_wrong hok hX e4 hn, e_X5_wrong hok hM hs hn]
        exact kv_Sim_ret h _
      · rw [if_neg hf, if_neg (s_fault_neg hf)]
        exact kv_Sim_fault h hf
    · rw [if_neg h2, e_X4_fault_no (Or.inr (by cases q : f_X4_isWithin b 0 40 with | true => exact absurd q h2 | false => rfl))]
      exact kv_Sim_no h
  · rw [if_neg h1, e_X4_fault_no (Or.inl h1)]
    exact kv_Sim_no h
def s_lg (V : kv_V) (e : Nat → Int32) : Nat → kv_V
  | 0 => V
  | i + 1 => s_go (s_lg V e i) (e i)
theorem kv_ok_lg {V : kv_V} (hok : kv_ok V) (e : Nat → Int32) : ∀ i, kv_ok (s_lg V e i)
  | 0 => hok
  | i + 1 => kv_ok_go (kv_ok_lg hok e i) _
theorem kv_s_behind {Mx Mm : kx_M} (h : kv_Inv Mx Mm) (a b c : Int32) : kv_Sim (f_X4_behind a b c Mx) (f_X5_behind a b c Mm) := by
  obtain ⟨V, hok, hX, hM, hR⟩ := id h
  have hv := hok.2.2.2.1
  have no : ∀ (t : Bool), (¬ f_X4_isWithin a 0 7 = true ∨ t = false) → f_X4_behind_24 a b c t a Mx = kx_bd (f_X4_refuse (-2) Mx) fun v M => some (v, M) := by
    intro t ht
    unfold f_X4_behind_24 f_X4_behind_54
    rw [e_X4_fault_no ht, Option.bind_some, if_neg (show ¬ (-2 : Int32) = 0 by decide), if_neg (show ¬ (-2 : Int32) = 0 by decide)]
  unfold f_X4_behind f_X5_behind f_X5_isShelf
  rw [kv_within, kv_within, e_two]
  by_cases h1 : f_X4_isWithin a 0 7 = true
  · rw [if_pos h1]
    by_cases h2 : f_X4_isWithin b 0 40 = true
    · rw [if_pos h2, if_pos h2]
      by_cases h3 : f_X4_isOneOfTwo c = true
      · rw [if_pos h3, if_pos h3]
        obtain ⟨s, hs, rfl⟩ := g_S_el h1
        have hS := hR.2.1 s hs
        obtain ⟨n, hn, rfl⟩ := z_in (n := 40) (by omega) h2
        unfold f_X4_behind_24 f_X4_behind_54
        rw [e_X4_fault hS hv hs, e_X5_told hS hv hs, Option.bind_some, Option.bind_some]
        by_cases hf : s_fault Mm s (nI n) = 0
        · obtain ⟨t, z, ht, hz, e, e2, e3, e4, e5⟩ := s_fault_el hS hv hf
          rw [hf, if_pos rfl, if_pos (show (0 : Int32) ≤ 0 by decide), z_ck hs (by decide), nI_clamp (by omega), e_X4_wrong hok hX e4 hn, e_X5_wrong hok hM hs hn, Option.bind_some, Option.bind_some]
          by_cases hw : s_fst (s_wr V Mm s) n 0 = (-1 : Int32)
          · rw [if_pos hw, if_pos hw, if_pos rfl]
            obtain ⟨A, g1, g2, g3, g4⟩ := kv_take (o := 17) (o2 := 1) (by omega) hX
            obtain ⟨f, q1, q2⟩ := kv_keep (w := 15) (by omega) hM
            rw [g1, q1, Option.bind_some, Option.bind_some]
            have ee : ∃ el : Nat → Int32, el = fun i => (Mm.2 11 (40 * s + i)).toInt32 := ⟨_, rfl⟩
            obtain ⟨el, hel⟩ := ee
            have rr : ∃ R : Int32, R = if c = 0 then s_known (s_lg V el n) (s_all (s_lg V el n)) else nI ((s_lg V el n).1 5 1) := ⟨_, rfl⟩
            obtain ⟨R, hRR⟩ := rr
            have hx1 := kz_rel (F := fun m i N => f_X4_behind_80 m (nI s) (nI n) c i N) (N := n) (fun i N => kv_X N 17 (s_lg V el i) ∧ (∀ r, ¬ (17 ≤ r ∧ r ≤ 24) → N.1 r = Mx.1 r) ∧ N.2 = Mx.2) (fun z => ∃ M', z = some (R, M') ∧ (∀ r, ¬ (17 ≤ r ∧ r ≤ 24) → M'.1 r = Mx.1 r) ∧ M'.2 = Mx.2)
              (fun m N hP => by
                obtain ⟨p1, p2, p3⟩ := hP
                refine ⟨N, ?_, p2, p3⟩
                have y8 : N.1 17 8 = nI ((s_lg V el n).1 5 1) := p1.1.2.1
                rw [f_X4_behind_80.eq_2, if_pos (Int32.le_refl _), s_X0_all p1, s_X0_known (kv_ok_lg hok el n) p1, y8, Option.bind_some, hRR]
                split <;> rfl)
              (fun m i N hi hP => by
                obtain ⟨p1, p2, p3⟩ := hP
                obtain ⟨N', t1, t2, t3, t4⟩ := s_X0_go (kv_ok_lg hok el i) p1 (el i)
                refine Or.inr ⟨N', ⟨t2, fun r hr => by rw [t3 r (by omega), p2 r hr], t4.trans p3⟩, ?_⟩
                have ye : (N.2 (27 + 2 * s) i).toInt32 = el i := by rw [p3, e4 i (by omega), hel]
                rw [f_X4_behind_80.eq_2, if_neg (nI_ge hi (by omega)), z_ck hs (by decide), z_ck (show i < 40 by omega) (by decide), nI_clamp (show i < 2 ^ 31 by omega), nI_clamp (show s < 2 ^ 31 by omega), show 26 + 2 * s + 1 = 27 + 2 * s by omega, ye, t1, Option.bind_some, nI_1]) n 0 kx_fuel A (by omega) (kz_f _ (by omega)) ⟨g2, g3, g4⟩
            have hm1 := kz_rel (F := fun m i N => f_X5_behind_81 m (nI s) (nI n) c i N) (N := n) (fun i N => N.1 15 = f ∧ frM Mm N ∧ kv_M N (s_lg V el i)) (fun z => ∃ M', z = some (R, M') ∧ kv_M M' V ∧ frM Mm M')
              (fun m N hP => by
                obtain ⟨p1, p2, p3⟩ := hP
                obtain ⟨M', t1, t2, t3, t4⟩ := kv_M_again q2 p1 p2
                refine ⟨M', ?_, t2, t3⟩
                rw [f_X5_behind_81.eq_2, if_pos (Int32.le_refl _), s_X5_all p3, s_X5_known (kv_ok_lg hok el n) p3, z_ck2a, z_c0, p3.1.2.1, t1, Option.bind_some, Option.bind_some, Option.bind_some, hRR]
                split <;> rfl)
              (fun m i N hi hP => by
                obtain ⟨p1, p2, p3⟩ := hP
                obtain ⟨N', t1, t2, t3, t4⟩ := s_X5_go (kv_ok_lg hok el i) p3 (el i)
                refine Or.inr ⟨N', ⟨by rw [t3 15 (by omega) (by omega) (by omega)]; exact p1, frM_trans p2 (frM_go t3 t4), t2⟩, ?_⟩
                have ye : (N.2 11 (40 * s + i)).toInt32 = el i := by rw [p2.2.2.2, hel]
                rw [f_X5_behind_81.eq_2, if_neg (nI_ge hi (by omega)), e_told hs (show i < 40 by omega), Option.bind_some, ye, t1, Option.bind_some, nI_1]) n 0 kx_fuel (kz_set Mm 15 f) (by omega) (kz_f _ (by omega)) ⟨kz_set_same, frM_set (by omega), kv_M_set (by omega) hM⟩
            obtain ⟨M', a1, a2, a3⟩ := hx1
            obtain ⟨N', b1, b2, b3⟩ := hm1
            exact kv_Sim_eq a1 b1 (kv_Inv_same hok hX b2 hR ⟨fun r h1 h2 _ => a2 r (by omega), a3⟩ (fun r h1 h2 => a2 r (by omega)) b3)
          · rw [if_neg hw, if_neg hw, if_neg (show ¬ (-5 : Int32) = 0 by decide)]
            exact kv_Sim_stuck h
        · rw [if_neg hf, if_neg hf, if_neg (s_fault_neg hf)]
          exact kv_Sim_fault h hf
      · rw [if_neg h3, if_neg h3, no _ (Or.inr rfl)]
        exact kv_Sim_no h
    · rw [if_neg h2, if_neg h2, no _ (Or.inr rfl)]
      exact kv_Sim_no h
  · rw [if_neg h1]
    by_cases h2 : f_X4_isWithin b 0 40 = true
    · rw [if_pos h2]
      by_cases h3 : f_X4_isOneOfTwo c = true
      · rw [if_pos h3, no _ (Or.inl h1)]
        exact kv_Sim_no h
      · rw [if_neg h3, no _ (Or.inl h1)]
        exact kv_Sim_no h
    · rw [if_neg h2, no _ (Or.inl h1)]
      exact kv_Sim_no h
