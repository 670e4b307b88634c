/-! a view read from the tape -/
theorem t_tk101 {k : Int32} {s e : Nat} : (t_tk k s e = 101) = (k = 0) := by
  unfold t_tk
  by_cases k0 : k = 0
  · rw [if_pos k0]
    exact propext ⟨fun _ => k0, fun _ => rfl⟩
  · rw [if_neg k0]
    refine propext ⟨fun w => ?_, fun w => absurd w k0⟩
    exfalso
    revert w
    by_cases k1 : k = 1
    · rw [if_pos k1]; decide
    · rw [if_neg k1]
      by_cases k2 : k = 2
      · rw [if_pos k2]
        by_cases q : e ≤ s + 3
        · rw [if_pos q]; decide
        · rw [if_neg q]; decide
      · rw [if_neg k2]
        by_cases k3 : k = 3
        · rw [if_pos k3]; decide
        · rw [if_neg k3]; decide
theorem t_tk119 {k : Int32} {s e : Nat} : (t_tk k s e = 119) = (k = 1) := by
  unfold t_tk
  by_cases k0 : k = 0
  · rw [if_pos k0]
    exact propext ⟨fun w => absurd w (by decide), fun w => absurd (k0.symm.trans w) (by decide)⟩
  · rw [if_neg k0]
    by_cases k1 : k = 1
    · rw [if_pos k1]
      exact propext ⟨fun _ => k1, fun _ => rfl⟩
    · rw [if_neg k1]
      refine propext ⟨fun w => ?_, fun w => absurd w k1⟩
      exfalso
      revert w
      by_cases k2 : k = 2
      · rw [if_pos k2]
        by_cases q : e ≤ s + 3
        · rw [if_pos q]; decide
        · rw [if_neg q]; decide
      · rw [if_neg k2]
        by_cases k3 : k = 3
        · rw [if_pos k3]; decide
        · rw [if_neg k3]; decide
theorem t_tk59 {k : Int32} {s e : Nat} : (t_tk k s e = 59) = (k = 3) := by
  unfold t_tk
  by_cases k0 : k = 0
  · rw [if_pos k0]
    exact propext ⟨fun w => absurd w (by decide), fun w => absurd (k0.symm.trans w) (by decide)⟩
  · rw [if_neg k0]
    by_cases k1 : k = 1
    · rw [if_pos k1]
      exact propext ⟨fun w => absurd w (by decide), fun w => absurd (k1.symm.trans w) (by decide)⟩
    · rw [if_neg k1]
      by_cases k2 : k = 2
      · rw [if_pos k2]
        refine propext ⟨fun w => ?_, fun w => absurd (k2.symm.trans w) (by decide)⟩
        exfalso
        revert w
        by_cases q : e ≤ s + 3
        · rw [if_pos q]; decide
        · rw [if_neg q]; decide
      · rw [if_neg k2]
        by_cases k3 : k = 3
        · rw [if_pos k3]
          exact propext ⟨fun _ => k3, fun _ => rfl⟩
        · rw [if_neg k3]
          exact propext ⟨fun w => absurd w (by decide), fun w => absurd w k3⟩
theorem kx_bd_id {α : Type} (x : Option (α × kx_M)) : (kx_bd x fun v M => some (v, M)) = x := by
  cases x with
  | none => rfl
  | some a => rfl
theorem kx_bd_idb (x : Option (Bool × kx_M)) : (kx_bd x fun v M => (if v = true then some (true, M) else some (false, M))) = x := by
  cases x with
  | none => rfl
  | some a =>
    obtain ⟨b, M⟩ := a
    cases b <;> rfl
theorem s_word_len {L : Nat → Int32} {s e : Nat} {w u : List Int32} (h : s_word L s e w = true) (hl : ¬ u.length = w.length) : s_word L s e u = false := by
  unfold s_word at h ⊢
  rw [Bool.and_eq_true, decide_eq_true_eq] at h
  rw [decide_eq_false (by omega)]
  rfl
theorem s_word_at {L : Nat → Int32} {s e : Nat} {w u : List Int32} (h : s_word L s e w = true) (hw : 0 < w.length) (hu : 0 < u.length) (hl : ¬ kt_ch (u.getD 0 0) = kt_ch (w.getD 0 0)) : s_word L s e u = false := by
  cases hh : s_word L s e u with
  | false => rfl
  | true =>
    unfold s_word at h hh
    rw [Bool.and_eq_true] at h hh
    have a := of_decide_eq_true ((z_allb_iff _ _).mp h.2 0 hw)
    have b := of_decide_eq_true ((z_allb_iff _ _).mp hh.2 0 hu)
    exact absurd (b.symm.trans a) hl
/-- a statement, by both -/
theorem pS_stmt {Mx B0 A B : kx_M} {L : Nat → Int32} {z v0 p : Nat} {V : kv_V} (hz : z ≤ 250) (hLx : ∀ k, k < z → Mx.1 43 k = L k) (hLm : ∀ k, k < z → B0.1 8 k = L k) (h : pR Mx B0 z v0 V p A B) : ∃ B1, f_X5_next B = some B1 ∧ pS Mx B0 z v0 (p + 1) (f_X3_readStatement 17 A) (f_X5_statement B1) := by
  have hp : p ≤ z := h.2.2.2.2.2.1
  have hts := t_s_le (L := L) hp
  have hte := t_e_le (L := L) hp
  obtain ⟨A1, B1, a1, b1, r1, s1, s2, k1, k2, _⟩ := pR_tok hz hLx hLm h
  refine ⟨B1, b1, ?_⟩
  unfold f_X3_readStatement
  rw [a1, Option.bind_some, k1]
  by_cases q : t_k L z p = 1
  · rw [if_pos q]
    have hsz : t_s L z p < z := by
      refine Classical.byContradiction (fun w => ?_)
      unfold t_k at q
      rw [if_neg w] at q
      exact absurd q (by decide)
    have ht : B1.1 0 14 = 119 := by
      have e : (B1.1 0 14 = 119) = (t_k L z p = 1) := by rw [k2]; exact t_tk119
      rw [e]
      exact q
    have ss : ∃ s, s = t_s L z p := ⟨_, rfl⟩
    obtain ⟨s, hs⟩ := ss
    have ee : ∃ e, e = t_e L z p := ⟨_, rfl⟩
    obtain ⟨e, he⟩ := ee
    rw [← he] at r1
    rw [← hs] at s1 s2
    have xw : ∀ w : List Int32, w.length < 10 → f_X3_isWord w A1 = some (s_word L s e w) := fun w hw => X_word w hw (by omega) (by omega) s1 r1.2.2.2.2.2.2.1 (fun k hk => by rw [r1.1.2.2.1 43 (by omega) (by omega)]; exact hLx k (by omega))
    have mw : ∀ w : List Int32, w.length < 10 → f_X5_isWord w B1 = some (s_word L s e w) := fun w hw => M_word w hw (by omega) (by omega) ht s2 r1.2.2.2.2.2.2.2 (fun k hk => by rw [r1.1.2.2.2.2.1 8 (by omega)]; exact hLm k (by omega))
    unfold f_X5_statement
    rw [xw _ (by decide), xw _ (by decide), xw _ (by decide), xw _ (by decide), xw _ (by decide), xw _ (by decide), xw _ (by decide), mw _ (by decide), mw _ (by decide), mw _ (by decide), mw _ (by decide), mw _ (by decide), mw _ (by decide), mw _ (by decide)]
    simp only [Option.bind_some, kx_bd_id, kx_bd_idb]
    have wk : ∀ x m, pS Mx B0 z v0 e x m → pS Mx B0 z v0 (p + 1) x m := fun x m w => by
      obtain ⟨A', B', b, g1, g2, g3⟩ := w
      refine ⟨A', B', b, g1, g2, ?_⟩
      rcases g3 with ⟨g4, V', p', g5, g6⟩ | g3
      · exact Or.inl ⟨g4, V', p', g5, by omega⟩
      · exact Or.inr g3
    by_cases w1 : s_word L s e [99, 101, 108, 108, 115] = true
    · rw [if_pos w1, if_neg (by rw [s_word_len w1 (show ¬ [118, 105, 115, 105, 116, 111, 114].length = [99, 101, 108, 108, 115].length by decide)]; decide), if_neg (by rw [s_word_len w1 (show ¬ [115, 104, 121].length = [99, 101, 108, 108, 115].length by decide)]; decide), if_neg (by rw [s_word_at (u := [116, 104, 105, 110, 103]) w1 (by decide) (by decide) (by decide)]; decide), if_pos w1]
      exact wk _ _ (pS_cells hz hLx hLm r1)
    · rw [if_neg w1]
      by_cases w2 : s_word L s e [118, 105, 115, 105, 116, 111, 114] = true
      · rw [if_pos w2, if_pos w2]
        exact wk _ _ (pS_visitor hz hLx hLm r1 (by omega) s1 s2)
      · rw [if_neg w2, if_neg w2]
        by_cases w3 : s_word L s e [115, 104, 121] = true
        · rw [if_pos w3, if_pos w3]
          exact wk _ _ (pS_shy hz hLx hLm r1)
        · rw [if_neg w3, if_neg w3]
          by_cases w4 : s_word L s e [116, 104, 105, 110, 103] = true
          · rw [if_pos w4, if_pos w4]
            exact wk _ _ (pS_thing hz hLx hLm r1)
          · rw [if_neg w4, if_neg w4, if_neg w1]
            by_cases w5 : s_word L s e [115, 97, 119] = true
            · rw [if_pos w5, if_pos w5]
              exact wk _ _ (pS_saw hz hLx hLm r1)
            · rw [if_neg w5, if_neg w5]
              by_cases w6 : s_word L s e [118, 101, 105, 108] = true
              · rw [if_pos w6, if_pos w6]
                exact wk _ _ (pS_veil hz hLx hLm r1)
              · rw [if_neg w6, if_neg w6]
                by_cases w7 : s_word L s e [100, 97, 121] = true
                · rw [if_pos w7, if_pos w7]
                  exact wk _ _ (pS_day hz hLx hLm r1)
                · rw [if_neg w7, if_neg w7]
                  unfold f_X5_statement_178
                  rw [if_pos rfl]
                  exact pS_no r1 (show s ≤ z by omega) s1 s2
  · rw [if_neg q]
    have ht : ¬ B1.1 0 14 = 119 := by
      have e : (B1.1 0 14 = 119) = (t_k L z p = 1) := by rw [k2]; exact t_tk119
      rw [e]
      exact q
    have mw : ∀ w : List Int32, f_X5_isWord w B1 = some false := fun w => by
      unfold f_X5_isWord
      rw [if_neg ht]
    unfold f_X5_statement f_X5_statement_178
    rw [mw, mw, mw, mw, mw, mw, mw]
    simp only [Option.bind_some, if_neg (show ¬ false = true by decide)]
    rw [if_pos trivial]
    exact pS_no r1 (show t_s L z p ≤ z by omega) s1 s2
/-- statement after statement -/
theorem p_loop {Mx B0 : kx_M} {L : Nat → Int32} {z v0 : Nat} (hz : z ≤ 250) (hLx : ∀ k, k < z → Mx.1 43 k = L k) (hLm : ∀ k, k < z → B0.1 8 k = L k) (q : Nat) : ∀ (p k n m : Nat) (V : kv_V) (A B : kx_M), z - p ≤ q → q < n → q + 1 < m → k ≤ p → pR Mx B0 z v0 V p A B → ∃ r A', f_X3_readInto_7 17 n (nI k) A = some (r, A') ∧ ((∃ c V' p' B', r = nI c ∧ c ≤ 250 ∧ f_X5_view_17 m (nI k) true B = some (nI c, kx_u1 B' 0 10 0) ∧ pR Mx B0 z v0 V' p' A' B') ∨ (∃ s B' m' y, s ≤ z ∧ r = (-20 : Int32) - nI s ∧ pF Mx B0 z A' B' ∧ B'.1 0 12 = nI s ∧ f_X5_view_17 m (nI k) true B = f_X5_view_17 (m' + 1) y false B')) := by
  induction q using Nat.strongRecOn with
  | ind q ih =>
    intro p k n m V A B h1 h2 h3 h4 hR
    cases n with
    | zero => omega
    | succ n =>
      cases m with
      | zero => omega
      | succ m =>
        have hp : p ≤ z := hR.2.2.2.2.2.1
        obtain ⟨B1, b1, A', B', b, x1, m1, hb⟩ := pS_stmt hz hLx hLm hR
        rw [f_X3_readInto_7.eq_2, f_X5_view_17.eq_2, x1, kx_bd_ok, if_pos rfl, b1, Option.bind_some, m1, kx_bd_ok]
        rcases hb with ⟨rfl, V', p', r', hpp⟩ | ⟨rfl, hF, s, hs, s1, s2⟩
        · rw [if_pos rfl, if_pos rfl]
          have hp' : p' ≤ z := r'.2.2.2.2.2.1
          have hts := t_s_le (L := L) hp'
          have hte := t_e_le (L := L) hp'
          obtain ⟨A2, B2, a2, b2, r2, u1, u2, k1, k2, _⟩ := pR_tok hz hLx hLm r'
          rw [a2, b2, Option.bind_some, Option.bind_some, k1, k2, nI_1]
          simp only [t_tk101, t_tk59]
          unfold f_X3_readInto_45
          rw [k1, u1]
          by_cases q0 : t_k L z p' = 0
          · rw [if_neg (show ¬ t_k L z p' = 3 by rw [q0]; decide), if_pos q0, if_pos q0]
            exact ⟨_, _, rfl, Or.inl ⟨k + 1, V', _, B2, rfl, by omega, rfl, r2⟩⟩
          · rw [if_neg q0, if_neg q0]
            have hsz : t_s L z p' < z := by
              refine Classical.byContradiction (fun w => ?_)
              unfold t_k at q0
              rw [if_neg w] at q0
              exact absurd rfl q0
            by_cases q3 : t_k L z p' = 3
            · rw [if_pos q3, if_pos q3, if_pos (show nI (k + 1) < (250 : Int32) from nI_lt (b := 250) (by omega) (by omega))]
              exact ih (q - 1) (by omega) (t_e L z p') (k + 1) n m V' A2 B2 (by omega) (by omega) (by omega) (by omega) r2
            · rw [if_neg q3, if_neg q3]
              cases m with
              | zero => omega
              | succ m => exact ⟨_, _, rfl, Or.inr ⟨t_s L z p', B2, m, _, by omega, rfl, r2.1, u2, rfl⟩⟩
        · rw [if_neg (show ¬ false = true by decide), if_neg (show ¬ false = true by decide), s1]
          cases m with
          | zero => omega
          | succ m => exact ⟨_, _, rfl, Or.inr ⟨s, B', m, _, hs, rfl, hF, s2, rfl⟩⟩
/-- all is as it was but the view, the trial and the tape -/
theorem kv_Inv_all {Mx Mx' Mm Mm' : kx_M} {v : Nat} {V' : kv_V} (hok : kv_ok V') (hX : kv_X Mx' 1 V') (hM : kv_M Mm' V') (fx : ∀ r, ¬ (1 ≤ r ∧ r ≤ 8) → ¬ (17 ≤ r ∧ r ≤ 24) → ¬ r = 42 → ¬ r = 43 → Mx'.1 r = Mx.1 r) (fx2 : Mx'.2 = Mx.2) (fm : ∀ r, 9 ≤ r → r ≤ 13 → Mm'.1 r = Mm.1 r) (fm0 : Mm'.1 0 20 = Mm.1 0 20) (fm2 : Mm'.2 = Mm.2) (hv : v ≤ V'.1 5 3) (hR : kv_rest Mx Mm v) (hT : kv_tape Mx' Mm') : kv_Inv Mx' Mm' := by
  obtain ⟨hK, hS, _, hR⟩ := hR
  refine ⟨V', hok, hX, hM, ?_, fun s hs => ?_, hT, fun k hk => ?_⟩
  · rw [fx 0 (by omega) (by omega) (by omega) (by omega), fm0]
    rcases hK with hK | ⟨h1, h2, V2, h3, h4, h5⟩
    · exact Or.inl hK
    · exact Or.inr ⟨h1, h2, V2, h3, kv_X_of (fun j hj => fx _ (by omega) (by omega) (by omega) (by omega)) h4, kv_O_of (fm 13 (by omega) (by omega)) h5⟩
  · have z := hS s hs
    unfold kv_shelf at z ⊢
    rw [fx (26 + 2 * s) (by omega) (by omega) (by omega) (by omega), fm 9 (by omega) (by omega), fm 10 (by omega) (by omega), fx2, fm2]
    obtain ⟨z1, z2⟩ := z
    refine ⟨z1, ?_⟩
    rcases z2 with z2 | ⟨x, hx, e⟩ | z2
    · exact Or.inl z2
    · exact Or.inr (Or.inl ⟨x, by omega, e⟩)
    · exact Or.inr (Or.inr z2)
  · rw [fx 47 (by omega) (by omega) (by omega) (by omega), fm 12 (by omega) (by omega)]
    exact hR k hk
theorem z_m20 : ∀ s, s < 251 → ¬ (0 : Int32) ≤ (-20 : Int32) - nI s := by decide +kernel
theorem kv_s_view {Mx Mm : kx_M} (h : kv_Inv Mx Mm) : kv_Sim (f_X4_view Mx) (f_X5_view Mm) := by
  obtain ⟨V, hok, hX, hM, hR⟩ := id h
  obtain ⟨z, hz, t1, t2, t3⟩ := hR.2.2.1
  obtain ⟨A0, g1, g2, g3, g4⟩ := kv_take (o := 17) (o2 := 1) (by omega) hX
  obtain ⟨f, q1, q2⟩ := kv_keep (w := 14) (by omega) hM
  unfold f_X4_view f_X5_view f_X3_readInto
  rw [g1, q1, Option.bind_some, Option.bind_some]
  have B0e : ∃ B0, B0 = kz_set Mm 14 f := ⟨_, rfl⟩
  obtain ⟨B0, hB0⟩ := B0e
  rw [← hB0]
  have b14 : B0.1 14 = f := by rw [hB0]; exact kz_set_same
  have bne : ∀ r, ¬ r = 14 → B0.1 r = Mm.1 r := fun r hr => by rw [hB0]; exact kz_set_ne hr
  have b2 : B0.2 = Mm.2 := by rw [hB0]; rfl
  have hMB : kv_M B0 V := by rw [hB0]; exact kv_M_set (by omega) hM
  have r0 : pR Mx B0 z (V.1 5 3) V 0 (kx_u1 A0 42 3 (0 : Int32)) (kx_u1 B0 0 13 (0 : Int32)) := by
    refine ⟨⟨?_, ?_, fun r h1 h2 => ?_, g4, fun r hr => kx_u1_ne (by omega), kv_u1_no (by omega), rfl⟩, hok, Nat.le_refl _, kv_X_of (fun j hj => kx_u1_ne (by omega)) g2, kv_M_of (kv_u1_no (by omega)) (kv_u1_no (by omega)) (kv_u1_no (by omega)) (fun j h1 h2 => kx_u1_ne (by omega)) hMB, Nat.zero_le z, kv_u1_at, kv_u1_at⟩
    · rw [kv_u1_no (by omega), g3 42 (by omega)]
      exact t1
    · rw [kv_u1_no (by omega), bne 0 (by omega)]
      exact t2
    · rw [kx_u1_ne h2]
      exact g3 r (by omega)
  obtain ⟨r, A', x1, hres⟩ := p_loop (L := Mm.1 8) hz (fun k hk => t3 k hk) (fun k hk => by rw [bne 8 (by omega)]) 250 0 0 kx_fuel kx_fuel V _ _ (by omega) (kz_f _ (by omega)) (kz_f 251 (by omega)) (Nat.le_refl 0) r0
  have x1' : f_X3_readInto_7 17 kx_fuel (0 : Int32) (kx_u1 A0 42 3 (0 : Int32)) = some (r, A') := x1
  rw [x1', kx_bd_ok]
  rcases hres with ⟨c, V', p', B', e1, hc, m1, r'⟩ | ⟨s, B', m', y, hs, e1, hF, s2, m1⟩
  · have m1' : f_X5_view_17 kx_fuel (0 : Int32) true (kx_u1 B0 0 13 (0 : Int32)) = some (nI c, kx_u1 B' 0 10 0) := m1
    rw [m1', e1, if_pos (nI_pos' (by omega))]
    obtain ⟨⟨f1, f2, f3, f4, f5, f6, f7⟩, j1, j2, j3, j4, _⟩ := r'
    have X2 : kv_X (kx_u1 A' 42 1 (0 : Int32)) 17 V' := kv_X_of (fun j hj => kx_u1_ne (by omega)) j3
    obtain ⟨A2, o1, o2, o3, o4⟩ := kv_take (o := 1) (o2 := 17) (by omega) X2
    rw [o1, Option.bind_some]
    refine kv_Sim_eq rfl rfl (kv_Inv_all j1 o2 (kv_M_of (kv_u1_no (by omega)) (kv_u1_no (by omega)) (kv_u1_no (by omega)) (fun j h1 h2 => kx_u1_ne (by omega)) j4) (fun r h1 h2 h3 h4 => ?_) ?_ (fun r h1 h2 => ?_) ?_ ?_ j2 hR ⟨0, by omega, ?_, kv_u1_at, fun k hk => absurd hk (Nat.not_lt_zero k)⟩)
    · rw [o3 r (by omega), kx_u1_ne h3]
      exact f3 r h2 h3
    · exact o4.trans f4
    · rw [kx_u1_ne (by omega), f5 r (by omega), bne r (by omega)]
    · rw [kv_u1_no (by omega), f6, bne 0 (by omega)]
    · exact f7.trans b2
    · rw [o3 42 (by omega), kv_u1_at]
      rfl
  · have m1' : f_X5_view_17 kx_fuel (0 : Int32) true (kx_u1 B0 0 13 (0 : Int32)) = f_X5_view_17 (m' + 1) y false B' := m1
    obtain ⟨f1, f2, f3, f4, f5, f6, f7⟩ := hF
    have h14 : B'.1 14 = f := by rw [f5 14 (by omega), b14]
    rw [← h14] at q2
    obtain ⟨M4, o1, o2, o3, o4, o5⟩ := kv_again (w := 14) (by omega) q2
    rw [m1', f_X5_view_17.eq_2, if_neg (show ¬ false = true by decide), o1, Option.bind_some, e1, if_neg (z_m20 s (by omega))]
    have inv : kv_Inv (kx_u1 A' 42 1 (0 : Int32)) (kx_u1 M4 0 10 (0 : Int32)) := by
      refine kv_Inv_all hok (kv_X_of (fun j hj => by rw [kx_u1_ne (by omega), f3 _ (by omega) (by omega)]) hX) (kv_M_of (kv_u1_no (by omega)) (kv_u1_no (by omega)) (kv_u1_no (by omega)) (fun j h1 h2 => kx_u1_ne (by omega)) o2) (fun r h1 h2 h3 h4 => by rw [kx_u1_ne h3]; exact f3 r h2 h3) f4 (fun r h1 h2 => by rw [kx_u1_ne (by omega), o3 r (by omega), f5 r (by omega), bne r (by omega)]) ?_ ?_ (Nat.le_refl _) hR ⟨0, by omega, kv_u1_at, kv_u1_at, fun k hk => absurd hk (Nat.not_lt_zero k)⟩
      · rw [kv_u1_no (by omega), o4 20 (by omega) (by omega) (by omega), f6, bne 0 (by omega)]
      · exact o5.trans (f7.trans b2)
    obtain ⟨Nx, Nm, n1, n2, n3⟩ := kv_refuse inv (r := -2) (Or.inl rfl)
    have n4 : f_X5_no (-2) (kx_u1 M4 0 10 (0 : Int32)) = some (-2, kx_u1 (kx_u1 M4 0 10 (0 : Int32)) 12 2 ((kx_u1 M4 0 10 (0 : Int32)).1 12 2 + 1)) := rfl
    have n5 : Nm = kx_u1 (kx_u1 M4 0 10 (0 : Int32)) 12 2 ((kx_u1 M4 0 10 (0 : Int32)).1 12 2 + 1) := by
      have := n2.symm.trans n4
      exact congrArg Prod.snd (Option.some.inj this)
    have n6 : Nm.1 0 12 = nI s := by
      rw [n5, kx_u1_ne (by omega), kv_u1_no (by omega), o4 12 (by omega) (by omega) (by omega)]
      exact s2
    rw [n1, n2, kx_bd_ok, kx_bd_ok, n6]
    exact kv_Sim_eq rfl rfl n3
