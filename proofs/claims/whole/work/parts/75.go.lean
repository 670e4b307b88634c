/-! a visit -/
def s_gf (V : kv_V) (g : Int32) (m : Nat) : Nat → Int32 := fun x => if x < m ∧ bt g x = true then V.2.1 x ||| s_shown V x g (nI (V.1 5 1)) else V.2.1 x
def s_day1 (d : Nat) : Nat := if d < 999 then d + 1 else 999
def s_go (V : kv_V) (g : Int32) : kv_V := kv_put (kv_put (kv_see V (s_gf V g (V.1 5 3))) 5 1 (s_behind V g (nI (V.1 5 1))).toNatClampNeg) 5 2 (s_day1 (V.1 5 2))
theorem s_behind_lv (V : kv_V) (g t : Int32) : ∃ m, m ≤ 20 ∧ s_behind V g t = nI m := kv_level _
theorem s_day1_le (d : Nat) : s_day1 d ≤ 999 := by
  unfold s_day1
  split <;> omega
theorem kv_ok_go {V : kv_V} (hok : kv_ok V) (g : Int32) : kv_ok (s_go V g) := by
  obtain ⟨m, hm, e⟩ := s_behind_lv V g (nI (V.1 5 1))
  unfold s_go
  rw [e, nI_clamp (by omega)]
  exact kv_ok_day (kv_ok_veil (kv_ok_see hok _) hm) (s_day1_le _)
theorem s_shown_see {V : kv_V} {f : Nat → Int32} {x : Nat} {g t : Int32} (h : f x = V.2.1 x) : s_shown (kv_see V f) x g t = s_shown V x g t := by
  unfold s_shown s_open kv_see
  dsimp only
  rw [h]
  rfl
theorem s_gf_at (V : kv_V) (g : Int32) (i : Nat) : s_gf V g i i = V.2.1 i := if_neg (fun z => Nat.lt_irrefl i z.1)
theorem s_gf_succ (V : kv_V) (g : Int32) (i : Nat) : s_gf V g (i + 1) = upd (s_gf V g i) i (V.2.1 i ||| (if bt g i = true then s_shown V i g (nI (V.1 5 1)) else 0)) := by
  funext x
  by_cases e : x = i
  · rw [kz_upd_eq e, e]
    unfold s_gf
    by_cases hb : bt g i = true
    · rw [if_pos ⟨by omega, hb⟩, if_pos hb]
    · rw [if_neg (fun z => hb z.2), if_neg hb, Int32.or_zero]
  · rw [kz_upd_ne e]
    unfold s_gf
    by_cases hb : x < i ∧ bt g x = true
    · rw [if_pos hb, if_pos ⟨by omega, hb.2⟩]
    · rw [if_neg hb, if_neg (fun z => hb ⟨by omega, z.2⟩)]
theorem s_gf_skip {V : kv_V} {g : Int32} {i : Nat} (hb : bt g i = false) : s_gf V g (i + 1) = s_gf V g i := by
  funext x
  unfold s_gf
  by_cases hc : x < i ∧ bt g x = true
  · rw [if_pos hc, if_pos ⟨by omega, hc.2⟩]
  · rw [if_neg hc, if_neg (fun z => by
      by_cases e : x = i
      · rw [e, hb] at z
        exact absurd z.2 (by decide)
      · exact hc ⟨by omega, z.2⟩)]
theorem s_day_eq {d : Nat} (hd : d ≤ 999) : (if nI (d + 1) < (999 : Int32) then nI (d + 1) else (999 : Int32)) = nI (s_day1 d) := by
  unfold s_day1
  by_cases h : d + 1 < 999
  · rw [if_pos (show nI (d + 1) < (999 : Int32) from nI_lt (b := 999) h (by omega)), if_pos (by omega)]
  · rw [if_neg (show ¬ nI (d + 1) < (999 : Int32) from nI_nlt (b := 999) (by omega) (by omega))]
    by_cases h2 : d < 999
    · rw [if_pos h2, show d + 1 = 999 by omega]
      rfl
    · rw [if_neg h2]
      rfl
theorem s_X0_pass {M : kx_M} {o : Nat} {V : kv_V} (hok : kv_ok V) (hX : kv_X M o V) : f_X0_passDay o M = some (kx_u1 M o 9 (nI (s_day1 (V.1 5 2)))) := by
  unfold f_X0_passDay
  rw [hX.1.2.2.1, nI_1, s_day_eq hok.2.2.1]
theorem s_X0_go {M : kx_M} {o : Nat} {V : kv_V} (hok : kv_ok V) (hX : kv_X M o V) (g : Int32) : ∃ M', f_X0_goTogether o g M = some M' ∧ kv_X M' o (s_go V g) ∧ (∀ r, ¬ (o ≤ r ∧ r ≤ o + 7) → M'.1 r = M.1 r) ∧ M'.2 = M.2 := by
  have hv := hok.2.2.2.1
  have lp := kz_loop (F := fun n i N => f_X0_goTogether_2 o n g i N) (N := V.1 5 3) (st := fun i N => if bt g i = true then kx_u1 N (o + 7) i (V.2.1 i ||| s_shown V i g (nI (V.1 5 1))) else N) (k := fun N => some (kx_u1 (kx_u1 N o 8 (s_behind V g (nI (V.1 5 1)))) o 9 (nI (s_day1 (V.1 5 2))))) (fun i N => kv_X N o (kv_see V (s_gf V g i)) ∧ (∀ r, ¬ (o ≤ r ∧ r ≤ o + 7) → N.1 r = M.1 r) ∧ N.2 = M.2)
    (fun n N hP => by
      obtain ⟨p1, p2, p3⟩ := hP
      have y11 : N.1 o 11 = nI (V.1 5 3) := p1.1.2.2.2.2
      have y8 : N.1 o 8 = nI (V.1 5 1) := p1.1.2.1
      have yb : f_X0_veilBehind o N g (nI (V.1 5 1)) = s_behind V g (nI (V.1 5 1)) := s_X0_behind (kv_ok_see hok _) p1 g _
      obtain ⟨m, hm, e⟩ := s_behind_lv V g (nI (V.1 5 1))
      rw [f_X0_goTogether_2.eq_2, y11, if_pos (Int32.le_refl _), y8, yb, e]
      have yp : f_X0_passDay o (kx_u1 N o 8 (nI m)) = some (kx_u1 (kx_u1 N o 8 (nI m)) o 9 (nI (s_day1 (V.1 5 2)))) := s_X0_pass (V := kv_put (kv_see V (s_gf V g (V.1 5 3))) 5 1 m) (kv_ok_veil (kv_ok_see hok _) hm) (kv_X_veil p1)
      rw [yp]
      rfl)
    (fun n i N hi hP => by
      obtain ⟨p1, p2, p3⟩ := hP
      have y11 : N.1 o 11 = nI (V.1 5 3) := p1.1.2.2.2.2
      have y8 : N.1 o 8 = nI (V.1 5 1) := p1.1.2.1
      have y7 : N.1 (o + 7) i = V.2.1 i := (p1.2.2.1 i (by omega)).2.2.2.trans (s_gf_at V g i)
      rw [f_X0_goTogether_2.eq_2, y11, if_neg (nI_ge hi (by omega)), z_isIn g (by omega), nI_1, y8]
      by_cases hb : bt g i = true
      · have ys : f_X0_shownTo o N (nI i) g (nI (V.1 5 1)) = some (s_shown V i g (nI (V.1 5 1))) := (s_X0_shown (kv_ok_see hok _) p1 hi g _ hb).trans (congrArg some (s_shown_see (s_gf_at V g i)))
        rw [if_pos hb, if_pos hb, z_ck (show i < 8 by omega) (by decide), ys, Option.bind_some, z_ck (show i < 8 by omega) (by decide), nI_clamp (by omega), y7]
      · rw [if_neg hb, if_neg hb])
    (fun i N hi hP => by
      obtain ⟨p1, p2, p3⟩ := hP
      cases hb : bt g i with
      | true =>
        rw [if_pos rfl]
        refine ⟨?_, fun r hr => by rw [kx_u1_ne (by omega)]; exact p2 r hr, p3⟩
        rw [s_gf_succ, hb, if_pos rfl]
        exact kv_X_seen p1
      | false =>
        rw [if_neg (by decide), s_gf_skip hb]
        exact ⟨p1, p2, p3⟩) (V.1 5 3) 0 M kx_fuel (by omega) (kz_f _ (by omega)) ⟨by
      have : s_gf V g 0 = V.2.1 := by
        funext x
        exact if_neg (fun z => absurd z.1 (Nat.not_lt_zero x))
      rw [this]
      exact hX, fun _ _ => rfl, rfl⟩
  obtain ⟨l1, l2, l3, l4⟩ := lp
  obtain ⟨m, hm, e⟩ := s_behind_lv V g (nI (V.1 5 1))
  rw [e] at l1
  refine ⟨_, l1, ?_, fun r hr => ?_, l4⟩
  · unfold s_go
    rw [e, nI_clamp (by omega)]
    exact kv_X_day (kv_X_veil l2)
  · rw [kx_u1_ne (by omega), kx_u1_ne (by omega)]
    exact l3 r hr
theorem s_X5_pass {M : kx_M} {V : kv_V} (hok : kv_ok V) (hM : kv_M M V) : f_X5_passesDay M = some (kx_u1 M 3 1 (nI (s_day1 (V.1 5 2)))) := by
  have hd := hok.2.2.1
  unfold f_X5_passesDay
  simp only [z_ck2b, z_c1, hM.1.2.2.1, nI_1]
  unfold s_day1
  by_cases h : V.1 5 2 < 999
  · rw [if_neg (show ¬ (999 : Int32) ≤ nI (V.1 5 2) from nI_ge (b := 999) h (by omega)), if_pos h]
  · have e : V.1 5 2 = 999 := by omega
    rw [if_pos (show (999 : Int32) ≤ nI (V.1 5 2) from nI_le (a := 999) (by omega) (by omega)), if_neg h, kx_u1_same (hM.1.2.2.1.trans (congrArg nI e))]
theorem s_X5_go {M : kx_M} {V : kv_V} (hok : kv_ok V) (hM : kv_M M V) (g : Int32) : ∃ M', f_X5_goes g M = some M' ∧ kv_M M' (s_go V g) ∧ (∀ r, ¬ r = 3 → ¬ r = 7 → ¬ r = 16 → M'.1 r = M.1 r) ∧ M'.2 = M.2 := by
  have hv := hok.2.2.2.1
  have l1 := kz_loop (F := fun n i N => f_X5_goes_2 n g i N) (N := V.1 5 3) (st := fun i N => kx_u1 N 16 i (if bt g i = true then s_shown V i g (nI (V.1 5 1)) else 0)) (k := fun N => f_X5_goes_42 kx_fuel g (nI 0) N) (fun i N => kv_M N V ∧ (∀ k, k < i → N.1 16 k = if bt g k = true then s_shown V k g (nI (V.1 5 1)) else 0) ∧ (∀ r, ¬ r = 16 → N.1 r = M.1 r) ∧ N.2 = M.2)
    (fun n N hP => by
      rw [f_X5_goes_2.eq_2, hP.1.1.2.2.2.2]
      exact if_pos (Int32.le_refl _))
    (fun n i N hi hP => by
      obtain ⟨p1, p2, p3, p4⟩ := hP
      rw [f_X5_goes_2.eq_2, p1.1.2.2.2.2, if_neg (nI_ge hi (by omega)), z_has g (by omega), nI_1, s_X5_shown hok p1 hi, Option.bind_some, z_ck (show i < 8 by omega) (by decide), z_ck (show i < 8 by omega) (by decide), nI_clamp (by omega)]
      by_cases hb : bt g i = true
      · rw [if_pos hb, if_pos hb]
      · rw [if_neg hb, if_neg hb])
    (fun i N hi hP => by
      obtain ⟨p1, p2, p3, p4⟩ := hP
      refine ⟨kv_M_of (by rw [kx_u1_ne (by omega)]) (by rw [kx_u1_ne (by omega)]) (by rw [kx_u1_ne (by omega)]) (fun j h1 h2 => kx_u1_ne (by omega)) p1, fun k hk => ?_, fun r hr => by rw [kx_u1_ne hr]; exact p3 r hr, p4⟩
      by_cases e : k = i
      · rw [e, kv_u1_at]
      · rw [kv_u1_no (fun z => e z.2)]
        exact p2 k (by omega)) (V.1 5 3) 0 M kx_fuel (by omega) (kz_f _ (by omega)) ⟨hM, fun k hk => absurd hk (Nat.not_lt_zero k), fun _ _ => rfl, rfl⟩
  obtain ⟨a1, a2, a3, a4, a5⟩ := l1
  have l2 := fun N0 => kz_loop (F := fun n i N => f_X5_goes_42 n g i N) (N := V.1 5 3) (st := fun i N => kx_u1 N 7 i (V.2.1 i ||| (if bt g i = true then s_shown V i g (nI (V.1 5 1)) else 0))) (k := fun N => some (kx_u1 (kx_u1 N 3 0 (s_behind V g (nI (V.1 5 1)))) 3 1 (nI (s_day1 (V.1 5 2))))) (fun i N => kv_M N (kv_see V (s_gf V g i)) ∧ (∀ k, k < V.1 5 3 → N.1 16 k = if bt g k = true then s_shown V k g (nI (V.1 5 1)) else 0) ∧ (∀ r, ¬ r = 16 → ¬ r = 7 → N.1 r = M.1 r) ∧ N.2 = M.2)
    (fun n N hP => by
      obtain ⟨p1, p2, p3, p4⟩ := hP
      have y4 : N.1 0 4 = nI (V.1 5 3) := p1.1.2.2.2.2
      have yb : f_X5_veilBehind N g = some (s_behind V g (nI (V.1 5 1))) := s_X5_behind (kv_ok_see hok _) p1 g
      obtain ⟨m, hm, e⟩ := s_behind_lv V g (nI (V.1 5 1))
      rw [f_X5_goes_42.eq_2, y4, if_pos (Int32.le_refl _), yb, Option.bind_some, z_ck2a, z_c0, e]
      have yp : f_X5_passesDay (kx_u1 N 3 0 (nI m)) = some (kx_u1 (kx_u1 N 3 0 (nI m)) 3 1 (nI (s_day1 (V.1 5 2)))) := s_X5_pass (V := kv_put (kv_see V (s_gf V g (V.1 5 3))) 5 1 m) (kv_ok_veil (kv_ok_see hok _) hm) (kv_M_veil p1)
      rw [yp]
      rfl)
    (fun n i N hi hP => by
      obtain ⟨p1, p2, p3, p4⟩ := hP
      have y4 : N.1 0 4 = nI (V.1 5 3) := p1.1.2.2.2.2
      have y7 : N.1 7 i = V.2.1 i := (p1.2.2 i (by omega)).2.2.2.trans (s_gf_at V g i)
      rw [f_X5_goes_42.eq_2, y4, if_neg (nI_ge hi (by omega)), nI_1, z_ck (show i < 8 by omega) (by decide), z_ck (show i < 8 by omega) (by decide), z_ck (show i < 8 by omega) (by decide), nI_clamp (by omega), y7, p2 i hi])
    (fun i N hi hP => by
      obtain ⟨p1, p2, p3, p4⟩ := hP
      refine ⟨?_, fun k hk => by rw [kx_u1_ne (by decide)]; exact p2 k hk, fun r h1 h2 => by rw [kx_u1_ne h2]; exact p3 r h1 h2, p4⟩
      rw [s_gf_succ]
      exact kv_M_seen p1) (V.1 5 3) 0 N0 kx_fuel (by omega) (kz_f _ (by omega))
  obtain ⟨b1, b2, b3, b4, b5⟩ := l2 _ ⟨by
    have : s_gf V g 0 = V.2.1 := by
      funext x
      exact if_neg (fun z => absurd z.1 (Nat.not_lt_zero x))
    rw [this]
    exact a2, a3, fun r h1 _ => a4 r h1, a5⟩
  obtain ⟨m, hm, e⟩ := s_behind_lv V g (nI (V.1 5 1))
  rw [e] at b1
  refine ⟨_, Eq.trans a1 b1, ?_, fun r h1 h2 h3 => ?_, b5⟩
  · unfold s_go
    rw [e, nI_clamp (by omega)]
    exact kv_M_day (kv_M_veil b2)
  · rw [kx_u1_ne h1, kx_u1_ne h1]
    exact b4 r h3 h2
theorem frM_go {M M' : kx_M} (h : ∀ r, ¬ r = 3 → ¬ r = 7 → ¬ r = 16 → M'.1 r = M.1 r) (h2 : M'.2 = M.2) : frM M M' := ⟨fun r a b => h r (by omega) (by omega) (by omega), by rw [h 0 (by omega) (by omega) (by omega)], by rw [h 0 (by omega) (by omega) (by omega)], h2⟩
theorem kv_s_visit {Mx Mm : kx_M} (h : kv_Inv Mx Mm) (a : Int32) : kv_Sim (f_X4_visit a Mx) (f_X5_visit a Mm) := by
  obtain ⟨V, hok, hX, hM, hR⟩ := id h
  unfold f_X4_visit f_X5_visit
  rw [e_X0_visit hok hX, e_X5_G hM]
  cases h1 : g_G V a with
  | false => exact kv_Sim_no h
  | true =>
    by_cases h0 : a = (0 : Int32)
    · rw [decide_eq_true h0, if_pos h0]
      exact kv_Sim_no h
    · rw [decide_eq_false h0, if_neg h0]
      obtain ⟨M', g1, g2, g3, g4⟩ := s_X0_go hok hX a
      obtain ⟨N', q1, q2, q3, q4⟩ := s_X5_go hok hM a
      rw [s_X0_new hok hX, s_X5_new hok hM, g1, q1]
      exact kv_Sim_eq rfl rfl (kv_Inv_of (kv_ok_go hok a) g2 q2 (frX_rows (Or.inl rfl) g3 g4) (frM_go q3 q4) (Nat.le_refl _) hR)
theorem kv_s_back {Mx Mm : kx_M} (h : kv_Inv Mx Mm) : kv_Sim (f_X4_back Mx) (f_X5_back Mm) := by
  obtain ⟨V, hok, hX, hM, hK, hS, hT, hR⟩ := id h
  have hv := hok.2.2.2.1
  unfold f_X4_back f_X5_back
  rcases hK with ⟨k1, k2⟩ | ⟨k1, k2, V', hok', hX', hO'⟩
  · rw [k1, k2]
    exact kv_Sim_stuck h
  · rw [k1, k2]
    rw [if_neg (show ¬ (1 : Int32) = 0 by decide), if_neg (show ¬ (1 : Int32) = 0 by decide)]
    have hv' := hok'.2.2.2.1
    obtain ⟨A, g1, g2, g3, g4⟩ := kv_take (o := 1) (o2 := 9) (by omega) hX'
    obtain ⟨B, q1, q2, q3, q4, q5⟩ := kv_again (w := 13) (by omega) hO'
    rw [g1, q1, Option.bind_some, Option.bind_some]
    have cc : ∃ c : Nat → Bool, c = fun s => decide (¬ Mm.1 9 s < nI (10 + V'.1 5 3)) := ⟨_, rfl⟩
    obtain ⟨c, hc⟩ := cc
    have hcT : ∀ s, Mm.1 9 s < nI (10 + V'.1 5 3) → ¬ c s = true := fun s q z => by
      rw [hc] at z
      exact of_decide_eq_true z q
    have hcF : ∀ s, ¬ Mm.1 9 s < nI (10 + V'.1 5 3) → c s = true := fun s q => by
      rw [hc]
      exact decide_eq_true q
    have a26 : ∀ s, s < 8 → A.1 (26 + 2 * s) = Mx.1 (26 + 2 * s) := fun s hs => g3 _ (by omega)
    have lx := kz_loop (F := fun n i N => f_X4_back_27 n i N) (N := 8) (st := fun i N => if c i = true then kx_u1 N (26 + 2 * i) 2 (-1) else N) (k := fun N => some ((1 : Int32), N)) (fun i N => (∀ r, ¬ (26 ≤ r ∧ r ≤ 41) → N.1 r = A.1 r) ∧ (∀ s, s < 8 → N.1 (26 + 2 * s) 2 = (if s < i ∧ c s = true then -1 else Mx.1 (26 + 2 * s) 2) ∧ N.1 (26 + 2 * s) 1 = Mx.1 (26 + 2 * s) 1) ∧ N.2 = Mx.2)
      (fun n N _ => by
        rw [f_X4_back_27.eq_2]
        exact if_pos (by decide))
      (fun n i N hi hP => by
        obtain ⟨p1, p2, p3⟩ := hP
        have y1 : N.1 (26 + 2 * i) 2 = Mm.1 9 i := by
          rw [(p2 i hi).1, if_neg (fun z => Nat.lt_irrefl i z.1)]
          exact (hS i hi).1
        have y11 : N.1 1 11 = nI (V'.1 5 3) := by
          rw [p1 1 (by omega)]
          exact g2.1.2.2.2.2
        rw [f_X4_back_27.eq_2, if_neg (show ¬ (8 : Int32) ≤ nI i from nI_ge (b := 8) hi (by omega)), z_ck hi (by decide), nI_clamp (by omega), nI_1]
        unfold f_X2_holdsVisitor f_X0_hasVisitor
        rw [y1, y11]
        rcases (hS i hi).2 with e | ⟨x, hx, e⟩ | ⟨t, z, ht, hz, e, _⟩
        · rw [if_neg (hcT i (by rw [e]; exact Int32.lt_of_lt_of_le (show (-1 : Int32) < 0 by decide) (nI_pos' (by omega)))), e, if_pos (show (-1 : Int32) < 10 by decide), if_neg (show ¬ false = true by decide)]
        · obtain ⟨c1, c2, c3, c4, c5⟩ := z_ten x (by omega)
          by_cases q : x < V'.1 5 3
          · rw [if_neg (hcT i (by rw [e]; exact nI_lt (by omega) (by omega))), e, if_neg c1, if_pos rfl, c5, if_pos (z_in1T (by omega) q)]
          · rw [if_pos (hcF i (by rw [e]; exact nI_nlt (by omega) (by omega))), e, if_neg c1, if_pos rfl, c5, if_neg (fun z => by
              obtain ⟨k, hk, e2⟩ := z_in1 (by omega) z
              have := (nI_eq (by omega) (by omega)).mp e2
              omega)]
        · obtain ⟨c1, c2, c3, c4⟩ := z_sort t ht
          rw [if_neg (hcT i (by rw [e]; exact nI_lt (by omega) (by omega))), e, if_pos c1, if_neg (show ¬ false = true by decide)])
      (fun i N hi hP => by
        obtain ⟨p1, p2, p3⟩ := hP
        cases hb : c i with
        | true =>
          rw [if_pos rfl]
          refine ⟨fun r hr => by rw [kx_u1_ne (by omega)]; exact p1 r hr, fun s hs => ?_, p3⟩
          by_cases e : s = i
          · rw [e, kv_u1_at, if_pos ⟨by omega, hb⟩, kv_u1_no (by omega)]
            exact ⟨rfl, (p2 i hi).2⟩
          · rw [kv_u1_no (by omega), kv_u1_no (by omega), (p2 s hs).1, (p2 s hs).2]
            refine ⟨?_, rfl⟩
            by_cases q : s < i ∧ c s = true
            · rw [if_pos q, if_pos ⟨by omega, q.2⟩]
            · rw [if_neg q, if_neg (fun z => q ⟨by omega, z.2⟩)]
        | false =>
          rw [if_neg (by decide)]
          refine ⟨p1, fun s hs => ?_, p3⟩
          rw [(p2 s hs).1, (p2 s hs).2]
          refine ⟨?_, rfl⟩
          by_cases q : s < i ∧ c s = true
          · rw [if_pos q, if_pos ⟨by omega, q.2⟩]
          · rw [if_neg q, if_neg (fun z => q ⟨by
              by_cases e : s = i
              · rw [e, hb] at z
                exact absurd z.2 (by decide)
              · omega, z.2⟩)]) 8 0 A kx_fuel (by omega) (kz_f _ (by omega)) ⟨fun _ _ => rfl, fun s hs => by rw [a26 s hs, if_neg (fun z => absurd z.1 (Nat.not_lt_zero s))]; exact ⟨rfl, rfl⟩, g4⟩
    have lm := kz_loop (F := fun n i N => f_X5_back_24 n i N) (N := 8) (st := fun i N => if c i = true then kx_u1 N 9 i (-1) else N) (k := fun N => some ((1 : Int32), N)) (fun i N => (∀ r, ¬ r = 9 → N.1 r = B.1 r) ∧ (∀ s, N.1 9 s = if s < i ∧ c s = true then -1 else Mm.1 9 s) ∧ N.2 = Mm.2)
      (fun n N _ => by
        rw [f_X5_back_24.eq_2]
        exact if_pos (by decide))
      (fun n i N hi hP => by
        obtain ⟨p1, p2, p3⟩ := hP
        have y1 : N.1 9 i = Mm.1 9 i := by rw [p2 i, if_neg (fun z => Nat.lt_irrefl i z.1)]
        have y4 : N.1 0 4 = nI (V'.1 5 3) := by
          rw [p1 0 (by omega)]
          exact q2.1.2.2.2.2
        have e10 : (10 : Int32) + nI (V'.1 5 3) = nI (10 + V'.1 5 3) := nI_add 10 _
        rw [f_X5_back_24.eq_2, if_neg (show ¬ (8 : Int32) ≤ nI i from nI_ge (b := 8) hi (by omega)), z_ck hi (by decide), z_ck hi (by decide), nI_clamp (by omega), nI_1, y1, y4, e10]
        by_cases q : Mm.1 9 i < nI (10 + V'.1 5 3)
        · rw [if_pos q, if_neg (hcT i q)]
        · rw [if_neg q, if_pos (hcF i q)])
      (fun i N hi hP => by
        obtain ⟨p1, p2, p3⟩ := hP
        cases hb : c i with
        | true =>
          rw [if_pos rfl]
          refine ⟨fun r hr => by rw [kx_u1_ne hr]; exact p1 r hr, fun s => ?_, p3⟩
          by_cases e : s = i
          · rw [e, kv_u1_at, if_pos ⟨by omega, hb⟩]
          · rw [kv_u1_no (by omega), p2 s]
            by_cases q : s < i ∧ c s = true
            · rw [if_pos q, if_pos ⟨by omega, q.2⟩]
            · rw [if_neg q, if_neg (fun z => q ⟨by omega, z.2⟩)]
        | false =>
          rw [if_neg (by decide)]
          refine ⟨p1, fun s => ?_, p3⟩
          rw [p2 s]
          by_cases q : s < i ∧ c s = true
          · rw [if_pos q, if_pos ⟨by omega, q.2⟩]
          · rw [if_neg q, if_neg (fun z => q ⟨by
              by_cases e : s = i
              · rw [e, hb] at z
                exact absurd z.2 (by decide)
              · omega, z.2⟩)]) 8 0 B kx_fuel (by omega) (kz_f _ (by omega)) ⟨fun _ _ => rfl, fun s => by rw [q3 9 (by omega), if_neg (fun z => absurd z.1 (Nat.not_lt_zero s))], q5⟩
    obtain ⟨x1, x2, x3, x4⟩ := lx
    obtain ⟨m1, m2, m3, m4⟩ := lm
    refine kv_Sim_eq x1 m1 ?_
    generalize kz_up _ 8 0 A = A' at x2 x3 x4
    generalize kz_up _ 8 0 B = B' at m2 m3 m4
    refine ⟨V', hok', kv_X_of (fun j hj => x2 _ (by omega)) g2, kv_M_of (by rw [m2 0 (by omega)]) (by rw [m2 0 (by omega)]) (by rw [m2 0 (by omega)]) (fun j h1 h2 => m2 j (by omega)) q2, Or.inr ⟨?_, ?_, V', hok', kv_X_of (fun j hj => by rw [x2 _ (by omega), g3 _ (by omega)]) hX', kv_O_of (by rw [m2 13 (by omega), q3 13 (by omega)]) hO'⟩, fun s hs => ?_, ?_, fun k hk => ?_⟩
    · rw [x2 0 (by omega), g3 0 (by omega)]
      exact k1
    · rw [m2 0 (by omega), q4 20 (by omega) (by omega) (by omega)]
      exact k2
    · obtain ⟨z1, z2⟩ := hS s hs
      unfold kv_shelf
      rw [(x3 s hs).1, (x3 s hs).2, m3 s, m2 10 (by omega), q3 10 (by omega), x4, m4, z1]
      refine ⟨rfl, ?_⟩
      by_cases q : s < 8 ∧ c s = true
      · rw [if_pos q]
        exact Or.inl rfl
      · rw [if_neg q]
        rcases z2 with e | ⟨x, hx, e⟩ | z2
        · exact Or.inl e
        · refine Or.inr (Or.inl ⟨x, ?_, e⟩)
          have q2 : ¬ c s = true := fun z => q ⟨hs, z⟩
          have q3 : Mm.1 9 s < nI (10 + V'.1 5 3) := Classical.byContradiction (fun z => q2 (hcF s z))
          rw [e] at q3
          have := (nI_ltI (by omega) (by omega)).mp q3
          omega
        · exact Or.inr (Or.inr z2)
    · unfold kv_tape at hT ⊢
      rw [x2 42 (by omega), x2 43 (by omega), g3 42 (by omega), g3 43 (by omega), m2 0 (by omega), m2 8 (by omega), q3 8 (by omega), q4 10 (by omega) (by omega) (by omega)]
      exact hT
    · rw [x2 47 (by omega), g3 47 (by omega), m2 12 (by omega), q3 12 (by omega)]
      exact hR k hk
