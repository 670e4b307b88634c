/-! numbers, words, statements: by both, side by side -/
def pF (Mx B0 : kx_M) (z : Nat) (A B : kx_M) : Prop := A.1 42 1 = nI z ∧ B.1 0 10 = nI z ∧ (∀ r, ¬ (17 ≤ r ∧ r ≤ 24) → ¬ r = 42 → A.1 r = Mx.1 r) ∧ A.2 = Mx.2 ∧ (∀ r, 8 ≤ r → B.1 r = B0.1 r) ∧ B.1 0 20 = B0.1 0 20 ∧ B.2 = B0.2
def pR (Mx B0 : kx_M) (z v0 : Nat) (V : kv_V) (p : Nat) (A B : kx_M) : Prop := pF Mx B0 z A B ∧ kv_ok V ∧ v0 ≤ V.1 5 3 ∧ kv_X A 17 V ∧ kv_M B V ∧ p ≤ z ∧ A.1 42 3 = nI p ∧ B.1 0 13 = nI p
theorem pR_tok {Mx B0 A B : kx_M} {L : Nat → Int32} {z v0 p : Nat} {V : kv_V} (hz : z ≤ 250) (hLx : ∀ k, k < z → Mx.1 43 k = L k) (hLm : ∀ k, k < z → B0.1 8 k = L k) (h : pR Mx B0 z v0 V p A B) : ∃ A' B', f_X3_step A = some A' ∧ f_X5_next B = some B' ∧ pR Mx B0 z v0 V (t_e L z p) A' B' ∧ A'.1 42 2 = nI (t_s L z p) ∧ B'.1 0 12 = nI (t_s L z p) ∧ A'.1 42 4 = t_k L z p ∧ B'.1 0 14 = t_tk (t_k L z p) (t_s L z p) (t_e L z p) ∧ (t_k L z p = 2 → t_e L z p ≤ t_s L z p + 3 → B'.1 0 15 = t_num L (t_s L z p) (t_e L z p - t_s L z p)) := by
  obtain ⟨⟨f1, f2, f3, f4, f5, f6, f7⟩, g1, g2, g3, g4, g5, g6, g7⟩ := h
  obtain ⟨A', a1, a2, a3, a4, a5, a6, a7⟩ := X_step (L := L) hz g5 f1 g6 (fun k hk => by rw [f3 43 (by omega) (by omega)]; exact hLx k hk)
  obtain ⟨B', b1, b2, b3, b4, b5, b6, b7, b8, b9⟩ := M_next (L := L) hz g5 f2 g7 (fun k hk => by rw [f5 8 (by omega)]; exact hLm k hk)
  refine ⟨A', B', a1, b1, ⟨⟨a2, b2, fun r h1 h2 => by rw [a6 r h2]; exact f3 r h1 h2, a7.trans f4, fun r hr => by rw [b8 r (by omega)]; exact f5 r hr, by rw [b7 20 (by omega) (by omega) (by omega) (by omega)]; exact f6, b9.trans f7⟩, g1, g2, kv_X_of (fun j hj => a6 _ (by omega)) g3, kv_M_of (b7 0 (by omega) (by omega) (by omega) (by omega)) (b7 4 (by omega) (by omega) (by omega) (by omega)) (b7 9 (by omega) (by omega) (by omega) (by omega)) (fun j h1 h2 => b8 j (by omega)) g4, (t_e_le (L := L) g5).2.1, a4, b4⟩, a3, b3, a5, b5, b6⟩
theorem t_tk48 {k : Int32} {s e : Nat} : (t_tk k s e = 48) = (k = 2 ∧ e ≤ s + 3) := by
  unfold t_tk
  by_cases k0 : k = 0
  · rw [if_pos k0]
    exact propext ⟨fun w => absurd w (by decide), fun w => absurd (k0.symm.trans w.1) (by decide)⟩
  · rw [if_neg k0]
    by_cases k1 : k = 1
    · rw [if_pos k1]
      exact propext ⟨fun w => absurd w (by decide), fun w => absurd (k1.symm.trans w.1) (by decide)⟩
    · rw [if_neg k1]
      by_cases k2 : k = 2
      · rw [if_pos k2]
        by_cases q : e ≤ s + 3
        · rw [if_pos q]
          exact propext ⟨fun _ => ⟨k2, q⟩, fun _ => rfl⟩
        · rw [if_neg q]
          exact propext ⟨fun w => absurd w (by decide), fun w => absurd w.2 q⟩
      · rw [if_neg k2]
        by_cases k3 : k = 3
        · rw [if_pos k3]
          exact propext ⟨fun w => absurd w (by decide), fun w => absurd w.1 k2⟩
        · rw [if_neg k3]
          exact propext ⟨fun w => absurd w (by decide), fun w => absurd w.1 k2⟩
/-- a number comes, or it doesn't -/
theorem pR_num {Mx B0 A B : kx_M} {L : Nat → Int32} {z v0 p : Nat} {V : kv_V} {lo hi : Int32} (hlo : 0 ≤ lo) (hz : z ≤ 250) (hLx : ∀ k, k < z → Mx.1 43 k = L k) (hLm : ∀ k, k < z → B0.1 8 k = L k) (h : pR Mx B0 z v0 V p A B) : ∃ A' B' p' s, pR Mx B0 z v0 V p' A' B' ∧ p ≤ p' ∧ s ≤ z ∧ A'.1 42 2 = nI s ∧ B'.1 0 12 = nI s ∧ ((∃ w, f_X3_readNumber lo hi A = some (true, A') ∧ f_X5_number lo hi B = some (w, B') ∧ A'.1 42 5 = w ∧ f_X4_isWithin w lo hi = true ∧ ¬ w = -1) ∨ (f_X3_readNumber lo hi A = some (false, A') ∧ f_X5_number lo hi B = some (-1, B'))) := by
  have hp : p ≤ z := h.2.2.2.2.2.1
  have hts := t_s_le (L := L) hp
  have hte := t_e_le (L := L) hp
  obtain ⟨A1, B1, a1, b1, r1, s1, s2, k1, k2, v1⟩ := pR_tok hz hLx hLm h
  have ss : ∃ s, s = t_s L z p := ⟨_, rfl⟩
  obtain ⟨s, hs⟩ := ss
  have ee : ∃ e, e = t_e L z p := ⟨_, rfl⟩
  obtain ⟨e, he⟩ := ee
  rw [← hs, ← he] at k2 v1
  rw [← hs] at s1 s2
  rw [← he] at r1
  have e3 : A1.1 42 3 = nI e := r1.2.2.2.2.2.2.1
  unfold f_X3_readNumber f_X5_number
  rw [a1, b1, Option.bind_some, Option.bind_some, k1, k2, e3, s1, nI_sub (by omega)]
  simp only [t_tk48]
  by_cases q : t_k L z p = 2
  · rw [if_pos q]
    by_cases q2 : e ≤ s + 3
    · rw [if_pos (show nI (e - s) ≤ (3 : Int32) from nI_le (b := 3) (by omega) (by omega)), if_pos ⟨q, q2⟩, v1 q q2, kv_within]
      have hs' : (kx_u1 A1 42 5 (0 : Int32)).1 42 2 = nI s := (kv_u1_no (by omega)).trans s1
      rw [hs']
      have lp := kz_run (F := fun n i a => f_X3_readNumber_37 n lo hi i (kx_u1 A1 42 5 a)) (st := fun i a => ((10 : Int32) * a) + (L i - (48 : Int32))) (k := fun a => some (f_X4_isWithin a lo hi, kx_u1 A1 42 5 a)) (i0 := s) e (0 : Int32) (by omega) (by omega)
        (fun n a => by
          have y3 : (kx_u1 A1 42 5 a).1 42 3 = nI e := (kv_u1_no (by omega)).trans e3
          rw [f_X3_readNumber_37.eq_2, y3, kv_u1_at]
          exact if_pos (Int32.le_refl _))
        (fun n i a h0 hi => by
          have y3 : (kx_u1 A1 42 5 a).1 42 3 = nI e := (kv_u1_no (by omega)).trans e3
          have y2 : (kx_u1 A1 42 5 a).1 43 i = L i := by
            rw [kx_u1_ne (by omega), r1.1.2.2.1 43 (by omega) (by omega)]
            exact hLx i (by omega)
          rw [f_X3_readNumber_37.eq_2, y3, kv_u1_at, if_neg (nI_ge hi (by omega)), z_ck (show i < 250 by omega) (by decide), nI_clamp (by omega), y2, kx_u1_twice, nI_1])
      have ew : kz_up (fun i a => ((10 : Int32) * a) + (L i - (48 : Int32))) (e - s) s 0 = t_num L s (e - s) := rfl
      rw [ew] at lp
      rw [lp]
      have up : ∀ w : Int32, pR Mx B0 z v0 V e (kx_u1 A1 42 5 w) B1 := fun w => by
        obtain ⟨⟨f1, f2, f3, f4, f5, f6, f7⟩, g1, g2, g3, g4, g5, g6, g7⟩ := r1
        exact ⟨⟨(kv_u1_no (by omega)).trans f1, f2, fun r h1 h2 => by rw [kx_u1_ne h2]; exact f3 r h1 h2, f4, f5, f6, f7⟩, g1, g2, kv_X_of (fun j hj => kx_u1_ne (by omega)) g3, g4, g5, (kv_u1_no (by omega)).trans g6, g7⟩
      refine ⟨kx_u1 A1 42 5 (t_num L s (e - s)), B1, e, s, up _, by omega, by omega, (kv_u1_no (by omega)).trans s1, s2, ?_⟩
      cases hw : f_X4_isWithin (t_num L s (e - s)) lo hi with
      | true =>
        refine Or.inl ⟨_, rfl, rfl, kv_u1_at, hw, fun w => ?_⟩
        rw [w, z_within, decide_eq_true_eq] at hw
        exact (show ¬ (0 : Int32) ≤ -1 by decide) (Int32.le_trans hlo hw.1)
      | false => exact Or.inr ⟨rfl, rfl⟩
    · rw [if_neg (show ¬ nI (e - s) ≤ (3 : Int32) from nI_ge (a := 3) (by omega) (by omega)), if_neg (fun w => q2 w.2)]
      exact ⟨A1, B1, e, s, r1, by omega, by omega, s1, s2, Or.inr ⟨rfl, rfl⟩⟩
  · rw [if_neg q, if_neg (fun w => q w.1)]
    exact ⟨A1, B1, e, s, r1, by omega, by omega, s1, s2, Or.inr ⟨rfl, rfl⟩⟩
def s_word (L : Nat → Int32) (s e : Nat) (w : List Int32) : Bool := decide (e - s = w.length) && z_allb (fun i => decide (L (s + i) = kt_ch (w.getD i 0))) w.length
theorem X_word {A : kx_M} {L : Nat → Int32} {s e : Nat} (w : List Int32) (hw : w.length < 10) (hse : s ≤ e) (he : e ≤ 250) (h2 : A.1 42 2 = nI s) (h3 : A.1 42 3 = nI e) (hL : ∀ k, k < e → A.1 43 k = L k) : f_X3_isWord w A = some (s_word L s e w) := by
  unfold f_X3_isWord s_word
  rw [h2, h3, nI_sub hse]
  by_cases q : e - s = w.length
  · rw [if_pos (show Int32.ofNat w.length = nI (e - s) from congrArg nI q.symm), decide_eq_true q, Bool.true_and]
    refine kz_all0 (F := fun n i => f_X3_isWord_l w A n i) (by omega) ?_ ?_
    · intro n
      rw [f_X3_isWord_l.eq_2]
      exact if_pos (Int32.le_refl _)
    · intro n i hi
      rw [f_X3_isWord_l.eq_2, if_neg (show ¬ Int32.ofNat w.length ≤ nI i from nI_ge (b := w.length) hi (by omega)), h2, nI_add, z_ck (show s + i < 250 by omega) (by decide), z_ck hi (by omega), nI_clamp (by omega), nI_clamp (by omega), hL (s + i) (by omega), nI_1]
      by_cases q2 : L (s + i) = kt_ch (w.getD i 0)
      · rw [if_pos q2, if_pos (decide_eq_true q2)]
      · rw [if_neg q2, if_neg (fun z => q2 (of_decide_eq_true z))]
  · rw [if_neg (fun z => q ((nI_eq (by omega) (by omega)).mp (show nI (e - s) = nI w.length from z.symm))), decide_eq_false q]
    rfl
theorem M_word {B : kx_M} {L : Nat → Int32} {s e : Nat} (w : List Int32) (hw : w.length < 10) (hse : s ≤ e) (he : e ≤ 250) (ht : B.1 0 14 = 119) (h2 : B.1 0 12 = nI s) (h3 : B.1 0 13 = nI e) (hL : ∀ k, k < e → B.1 8 k = L k) : f_X5_isWord w B = some (s_word L s e w) := by
  unfold f_X5_isWord s_word
  rw [if_pos ht, h2, h3, nI_sub hse]
  by_cases q : e - s = w.length
  · rw [if_pos (show nI (e - s) = Int32.ofNat w.length from congrArg nI q), decide_eq_true q, Bool.true_and]
    refine kz_all0 (F := fun n i => f_X5_isWord_l w B n i) (by omega) ?_ ?_
    · intro n
      rw [f_X5_isWord_l.eq_2]
      exact if_pos (Int32.le_refl _)
    · intro n i hi
      rw [f_X5_isWord_l.eq_2, if_neg (show ¬ Int32.ofNat w.length ≤ nI i from nI_ge (b := w.length) hi (by omega)), h2, nI_add, z_ck (show s + i < 250 by omega) (by decide), z_ck hi (by omega), nI_clamp (by omega), nI_clamp (by omega), hL (s + i) (by omega), nI_1]
      by_cases q2 : L (s + i) = kt_ch (w.getD i 0)
      · rw [if_pos q2, if_pos (decide_eq_true q2)]
      · rw [if_neg q2, if_neg (fun z => q2 (of_decide_eq_true z))]
  · rw [if_neg (show ¬ nI (e - s) = Int32.ofNat w.length from fun z => q ((nI_eq (by omega) (by omega)).mp (show nI (e - s) = nI w.length from z))), decide_eq_false q]
    rfl
/-- what a statement comes to, by both -/
def pS (Mx B0 : kx_M) (z v0 p : Nat) (x m : Option (Bool × kx_M)) : Prop := ∃ A' B' b, x = some (b, A') ∧ m = some (b, B') ∧ ((b = true ∧ ∃ V' p', pR Mx B0 z v0 V' p' A' B' ∧ p ≤ p') ∨ (b = false ∧ pF Mx B0 z A' B' ∧ ∃ s, s ≤ z ∧ A'.1 42 2 = nI s ∧ B'.1 0 12 = nI s))
theorem pS_no {Mx B0 A B : kx_M} {z v0 p q s : Nat} {V : kv_V} (h : pR Mx B0 z v0 V q A B) (hs : s ≤ z) (h1 : A.1 42 2 = nI s) (h2 : B.1 0 12 = nI s) : pS Mx B0 z v0 p (some (false, A)) (some (false, B)) := ⟨A, B, false, rfl, rfl, Or.inr ⟨rfl, h.1, s, hs, h1, h2⟩⟩
theorem pR_upd {Mx B0 A B A' B' : kx_M} {z v0 p : Nat} {V V' : kv_V} (h : pR Mx B0 z v0 V p A B) (hok : kv_ok V') (hv : V.1 5 3 ≤ V'.1 5 3) (hX : kv_X A' 17 V') (hM : kv_M B' V') (a1 : ∀ r, ¬ (17 ≤ r ∧ r ≤ 24) → A'.1 r = A.1 r) (a2 : A'.2 = A.2) (b1 : ∀ r, 8 ≤ r → B'.1 r = B.1 r) (b2 : ∀ c, c = 10 ∨ c = 13 ∨ c = 20 → B'.1 0 c = B.1 0 c) (b3 : B'.2 = B.2) : pR Mx B0 z v0 V' p A' B' := by
  obtain ⟨⟨f1, f2, f3, f4, f5, f6, f7⟩, g1, g2, g3, g4, g5, g6, g7⟩ := h
  exact ⟨⟨by rw [a1 42 (by omega)]; exact f1, by rw [b2 10 (by omega)]; exact f2, fun r h1 h2 => by rw [a1 r h1]; exact f3 r h1 h2, a2.trans f4, fun r hr => by rw [b1 r hr]; exact f5 r hr, by rw [b2 20 (by omega)]; exact f6, b3.trans f7⟩, hok, by omega, hX, hM, g5, by rw [a1 42 (by omega)]; exact g6, by rw [b2 13 (by omega)]; exact g7⟩
theorem pS_cells {Mx B0 A B : kx_M} {L : Nat → Int32} {z v0 p : Nat} {V : kv_V} (hz : z ≤ 250) (hLx : ∀ k, k < z → Mx.1 43 k = L k) (hLm : ∀ k, k < z → B0.1 8 k = L k) (h : pR Mx B0 z v0 V p A B) : pS Mx B0 z v0 p (f_X3_readCells 17 A) (kx_bd (f_X5_number (B.1 0 0) (24 : Int32) B) fun v29 M31 => (if v29 = (-1 : Int32) then some (false, M31) else some (true, (kx_u1 M31 0 0 v29)))) := by
  have hok := h.2.1
  have hn := hok.1
  unfold f_X3_readCells
  rw [h.2.2.2.1.1.1, h.2.2.2.2.1.1.1]
  obtain ⟨A', B', p', s, r', hpp, hs, s1, s2, hc⟩ := pR_num (lo := nI (V.1 5 0)) (hi := 24) (nI_pos' (by omega)) hz hLx hLm h
  rcases hc with ⟨w, x1, m1, e5, hw, hw1⟩ | ⟨x1, m1⟩
  · rw [x1, m1, kx_bd_ok, kx_bd_ok, if_pos rfl, if_neg hw1, e5]
    have h0 : f_X4_isWithin w 0 (nI 24) = true := by
      rw [z_within, decide_eq_true_eq] at hw ⊢
      exact ⟨Int32.le_trans (nI_pos' (by omega)) hw.1, hw.2⟩
    obtain ⟨k, hk, rfl⟩ := z_in (n := 24) (by omega) h0
    rw [z_within, decide_eq_true_eq] at hw
    have hk4 := (nI_leI (by omega) (by omega)).mp hw.1
    obtain ⟨M', g1, g2, g3, g4⟩ := kv_X_pave (w := k) hok r'.2.2.2.1 (by omega) hk
    rw [g1, Option.bind_some]
    exact ⟨M', _, true, rfl, rfl, Or.inl ⟨rfl, kv_put V 5 0 k, p', pR_upd r' (kv_ok_n hok (by omega) hk) (Nat.le_refl _) g2 (kv_M_n r'.2.2.2.2.1) (fun r hr => g3 r (by omega)) g4 (fun r hr => kx_u1_ne (by omega)) (fun c hc => kv_u1_no (by omega)) rfl, hpp⟩⟩
  · rw [x1, m1, kx_bd_ok, kx_bd_ok, if_neg (show ¬ false = true by decide), if_pos rfl]
    exact pS_no r' hs s1 s2
theorem pS_veil {Mx B0 A B : kx_M} {L : Nat → Int32} {z v0 p : Nat} {V : kv_V} (hz : z ≤ 250) (hLx : ∀ k, k < z → Mx.1 43 k = L k) (hLm : ∀ k, k < z → B0.1 8 k = L k) (h : pR Mx B0 z v0 V p A B) : pS Mx B0 z v0 p (f_X3_readVeil 17 A) (f_X5_statement_178 (0 : Int32) B) := by
  have hok := h.2.1
  unfold f_X3_readVeil f_X5_statement_178 f_X5_statement_200
  rw [if_neg (show ¬ (0 : Int32) = -1 by decide), if_pos rfl]
  obtain ⟨A', B', p', s, r', hpp, hs, s1, s2, hc⟩ := pR_num (lo := 0) (hi := 20) (by decide) hz hLx hLm h
  rcases hc with ⟨w, x1, m1, e5, hw, hw1⟩ | ⟨x1, m1⟩
  · rw [x1, m1, kx_bd_ok, kx_bd_ok, if_pos rfl, if_neg hw1, e5, z_ck2a, z_c0]
    obtain ⟨k, hk, rfl⟩ := z_in (n := 20) (by omega) hw
    exact ⟨_, _, true, rfl, rfl, Or.inl ⟨rfl, kv_put V 5 1 k, p', pR_upd r' (kv_ok_veil hok hk) (Nat.le_refl _) (kv_X_veil r'.2.2.2.1) (kv_M_veil r'.2.2.2.2.1) (fun r hr => kx_u1_ne (by omega)) rfl (fun r hr => kx_u1_ne (by omega)) (fun c hc => by rw [kx_u1_ne (by omega)]) rfl, hpp⟩⟩
  · rw [x1, m1, kx_bd_ok, kx_bd_ok, if_neg (show ¬ false = true by decide), if_pos rfl]
    exact pS_no r' hs s1 s2
theorem pS_day {Mx B0 A B : kx_M} {L : Nat → Int32} {z v0 p : Nat} {V : kv_V} (hz : z ≤ 250) (hLx : ∀ k, k < z → Mx.1 43 k = L k) (hLm : ∀ k, k < z → B0.1 8 k = L k) (h : pR Mx B0 z v0 V p A B) : pS Mx B0 z v0 p (f_X3_readDay 17 A) (f_X5_statement_178 (1 : Int32) B) := by
  have hok := h.2.1
  unfold f_X3_readDay f_X5_statement_178 f_X5_statement_200
  rw [if_neg (show ¬ (1 : Int32) = -1 by decide), if_neg (show ¬ (1 : Int32) = 0 by decide)]
  obtain ⟨A', B', p', s, r', hpp, hs, s1, s2, hc⟩ := pR_num (lo := 0) (hi := 999) (by decide) hz hLx hLm h
  rcases hc with ⟨w, x1, m1, e5, hw, hw1⟩ | ⟨x1, m1⟩
  · rw [x1, m1, kx_bd_ok, kx_bd_ok, if_pos rfl, if_neg hw1, e5, z_ck2b, z_c1]
    obtain ⟨k, hk, rfl⟩ := z_in (n := 999) (by omega) hw
    exact ⟨_, _, true, rfl, rfl, Or.inl ⟨rfl, kv_put V 5 2 k, p', pR_upd r' (kv_ok_day hok hk) (Nat.le_refl _) (kv_X_day r'.2.2.2.1) (kv_M_day r'.2.2.2.2.1) (fun r hr => kx_u1_ne (by omega)) rfl (fun r hr => kx_u1_ne (by omega)) (fun c hc => by rw [kx_u1_ne (by omega)]) rfl, hpp⟩⟩
  · rw [x1, m1, kx_bd_ok, kx_bd_ok, if_neg (show ¬ false = true by decide), if_pos rfl]
    exact pS_no r' hs s1 s2
theorem pS_shy {Mx B0 A B : kx_M} {L : Nat → Int32} {z v0 p : Nat} {V : kv_V} (hz : z ≤ 250) (hLx : ∀ k, k < z → Mx.1 43 k = L k) (hLm : ∀ k, k < z → B0.1 8 k = L k) (h : pR Mx B0 z v0 V p A B) : pS Mx B0 z v0 p (f_X3_readShy 17 A) (f_X5_tellsOf 1 (20 : Int32) B) := by
  have hok := h.2.1
  have hn := hok.1
  unfold f_X3_readShy f_X5_tellsOf f_X5_tellsOf_27
  rw [h.2.2.2.1.1.1, h.2.2.2.2.1.1.1]
  obtain ⟨A', B', p', s, r', hpp, hs, s1, s2, hc⟩ := pR_num (lo := 0) (hi := nI (V.1 5 0) - 1) (by decide) hz hLx hLm h
  rcases hc with ⟨w, x1, m1, e5, hw, hw1⟩ | ⟨x1, m1⟩
  · rw [x1, m1, kx_bd_ok, kx_bd_ok, if_pos rfl, if_neg hw1, e5]
    obtain ⟨c, hc, rfl⟩ := z_in1 (by omega) hw
    obtain ⟨A2, B2, p2, t, r2, hp2, ht, t1, t2, hd⟩ := pR_num (lo := 0) (hi := 20) (by decide) hz hLx hLm r'
    rcases hd with ⟨w2, x2, m2, e6, hw2, hw3⟩ | ⟨x2, m2⟩
    · rw [x2, m2, kx_bd_ok, kx_bd_ok, if_pos rfl, if_neg hw3, e6, z_ck (show c < 24 by omega) (by decide), nI_clamp (by omega)]
      obtain ⟨k, hk, rfl⟩ := z_in (n := 20) (by omega) hw2
      obtain ⟨M', g1, g2, g3, g4⟩ := kv_X_shy hok r2.2.2.2.1 (show c < 24 by omega) hk
      rw [g1, Option.bind_some]
      exact ⟨M', _, true, rfl, rfl, Or.inl ⟨rfl, kv_put V 0 c k, p2, pR_upd r2 (kv_ok_shy hok hk) (Nat.le_refl _) g2 (kv_M_shy r2.2.2.2.2.1) (fun r hr => g3 r (by omega)) g4 (fun r hr => kx_u1_ne (by omega)) (fun c hc => by rw [kx_u1_ne (by omega)]) rfl, by omega⟩⟩
    · rw [x2, m2, kx_bd_ok, kx_bd_ok, if_neg (show ¬ false = true by decide), if_pos rfl]
      exact pS_no r2 ht t1 t2
  · rw [x1, m1, kx_bd_ok, kx_bd_ok, if_neg (show ¬ false = true by decide), if_pos rfl, if_pos rfl]
    exact pS_no r' hs s1 s2
theorem pS_thing {Mx B0 A B : kx_M} {L : Nat → Int32} {z v0 p : Nat} {V : kv_V} (hz : z ≤ 250) (hLx : ∀ k, k < z → Mx.1 43 k = L k) (hLm : ∀ k, k < z → B0.1 8 k = L k) (h : pR Mx B0 z v0 V p A B) : pS Mx B0 z v0 p (f_X3_readThing 17 A) (f_X5_tellsOf 2 (9 : Int32) B) := by
  have hok := h.2.1
  have hn := hok.1
  unfold f_X3_readThing f_X5_tellsOf f_X5_tellsOf_27
  rw [h.2.2.2.1.1.1, h.2.2.2.2.1.1.1]
  obtain ⟨A', B', p', s, r', hpp, hs, s1, s2, hc⟩ := pR_num (lo := 0) (hi := nI (V.1 5 0) - 1) (by decide) hz hLx hLm h
  rcases hc with ⟨w, x1, m1, e5, hw, hw1⟩ | ⟨x1, m1⟩
  · rw [x1, m1, kx_bd_ok, kx_bd_ok, if_pos rfl, if_neg hw1, e5]
    obtain ⟨c, hc, rfl⟩ := z_in1 (by omega) hw
    obtain ⟨A2, B2, p2, t, r2, hp2, ht, t1, t2, hd⟩ := pR_num (lo := 0) (hi := 9) (by decide) hz hLx hLm r'
    rcases hd with ⟨w2, x2, m2, e6, hw2, hw3⟩ | ⟨x2, m2⟩
    · rw [x2, m2, kx_bd_ok, kx_bd_ok, if_pos rfl, if_neg hw3, e6, z_ck (show c < 24 by omega) (by decide), z_ck (show c < 24 by omega) (by decide), nI_clamp (by omega)]
      obtain ⟨k, hk, rfl⟩ := z_in (n := 9) (by omega) hw2
      exact ⟨_, _, true, rfl, rfl, Or.inl ⟨rfl, kv_put V 1 c k, p2, pR_upd r2 (kv_ok_thing hok hk) (Nat.le_refl _) (kv_X_thing r2.2.2.2.1) (kv_M_thing r2.2.2.2.2.1) (fun r hr => kx_u1_ne (by omega)) rfl (fun r hr => kx_u1_ne (by omega)) (fun c hc => by rw [kx_u1_ne (by omega)]) rfl, by omega⟩⟩
    · rw [x2, m2, kx_bd_ok, kx_bd_ok, if_neg (show ¬ false = true by decide), if_pos rfl]
      exact pS_no r2 ht t1 t2
  · rw [x1, m1, kx_bd_ok, kx_bd_ok, if_neg (show ¬ false = true by decide), if_pos rfl, if_pos rfl]
    exact pS_no r' hs s1 s2
theorem pS_saw {Mx B0 A B : kx_M} {L : Nat → Int32} {z v0 p : Nat} {V : kv_V} (hz : z ≤ 250) (hLx : ∀ k, k < z → Mx.1 43 k = L k) (hLm : ∀ k, k < z → B0.1 8 k = L k) (h : pR Mx B0 z v0 V p A B) : pS Mx B0 z v0 p (f_X3_readSaw 17 A) (kx_bd (f_X5_number (0 : Int32) ((B.1 0 4) - (1 : Int32)) B) fun v22 M24 => (if v22 = (-1 : Int32) then f_X5_statement_129 v22 (-1 : Int32) M24 else (kx_bd (f_X5_number (0 : Int32) ((M24.1 0 0) - (1 : Int32)) M24) fun v26 M28 => f_X5_statement_129 v22 v26 M28))) := by
  have hok := h.2.1
  have hn := hok.1
  have hv := hok.2.2.2.1
  unfold f_X3_readSaw f_X5_statement_129
  rw [h.2.2.2.1.1.2.2.2.2, h.2.2.2.2.1.1.2.2.2.2]
  obtain ⟨A', B', p', s, r', hpp, hs, s1, s2, hc⟩ := pR_num (lo := 0) (hi := nI (V.1 5 3) - 1) (by decide) hz hLx hLm h
  rcases hc with ⟨w, x1, m1, e5, hw, hw1⟩ | ⟨x1, m1⟩
  · rw [x1, m1, kx_bd_ok, kx_bd_ok, if_pos rfl, if_neg hw1, e5, r'.2.2.2.1.1.1, r'.2.2.2.2.1.1.1]
    obtain ⟨x, hx, rfl⟩ := z_in1 (by omega) hw
    obtain ⟨A2, B2, p2, t, r2, hp2, ht, t1, t2, hd⟩ := pR_num (lo := 0) (hi := nI (V.1 5 0) - 1) (by decide) hz hLx hLm r'
    rcases hd with ⟨w2, x2, m2, e6, hw2, hw3⟩ | ⟨x2, m2⟩
    · rw [x2, m2, kx_bd_ok, kx_bd_ok, if_pos rfl, if_neg hw3, e6]
      unfold kx_lt
      simp only [z_ck (show x < 8 by omega) (by decide : (8 : Nat) ≤ 4096), nI_clamp (show x < 2 ^ 31 by omega), (r2.2.2.2.1.2.2.1 x (by omega)).2.2.2, (r2.2.2.2.2.1.2.2 x (by omega)).2.2.2]
      exact ⟨_, _, true, rfl, rfl, Or.inl ⟨rfl, kv_see V (upd V.2.1 x (V.2.1 x ||| ((1 : Int32) <<< (w2 &&& 31)))), p2, pR_upd r2 (kv_ok_see hok _) (Nat.le_refl _) (kv_X_seen r2.2.2.2.1) (kv_M_seen r2.2.2.2.2.1) (fun r hr => kx_u1_ne (by omega)) rfl (fun r hr => kx_u1_ne (by omega)) (fun c hc => by rw [kx_u1_ne (by omega)]) rfl, by omega⟩⟩
    · rw [x2, m2, kx_bd_ok, kx_bd_ok, if_neg (show ¬ false = true by decide), if_pos rfl]
      exact pS_no r2 ht t1 t2
  · rw [x1, m1, kx_bd_ok, kx_bd_ok, if_neg (show ¬ false = true by decide), if_pos rfl, if_pos rfl]
    exact pS_no r' hs s1 s2
theorem pS_visitor {Mx B0 A B : kx_M} {L : Nat → Int32} {z v0 p s0 : Nat} {V : kv_V} (hz : z ≤ 250) (hLx : ∀ k, k < z → Mx.1 43 k = L k) (hLm : ∀ k, k < z → B0.1 8 k = L k) (h : pR Mx B0 z v0 V p A B) (hs0 : s0 ≤ z) (p1 : A.1 42 2 = nI s0) (p2 : B.1 0 12 = nI s0) : pS Mx B0 z v0 p (f_X3_readVisitor 17 A) (f_X5_comesOne B) := by
  have hok := h.2.1
  have hv := hok.2.2.2.1
  unfold f_X3_readVisitor f_X5_comesOne f_X0_hasRoom
  rw [h.2.2.2.1.1.2.2.2.2, h.2.2.2.2.1.1.2.2.2.2]
  by_cases e8 : V.1 5 3 = 8
  · rw [if_pos (show (8 : Int32) ≤ nI (V.1 5 3) by rw [e8]; decide), if_neg (show ¬ false = true by decide), if_pos (show nI (V.1 5 3) = (8 : Int32) by rw [e8]; rfl)]
    exact pS_no h hs0 p1 p2
  · rw [if_neg (show ¬ (8 : Int32) ≤ nI (V.1 5 3) from nI_ge (b := 8) (by omega) (by omega)), if_pos rfl, if_neg (show ¬ nI (V.1 5 3) = (8 : Int32) from fun w => e8 ((nI_eq (b := 8) (by omega) (by omega)).mp w))]
    obtain ⟨A1, B1, q1, s1, r1, hp1, hs1, t1, u1, hc1⟩ := pR_num (lo := 0) (hi := 5) (by decide) hz hLx hLm h
    rcases hc1 with ⟨w1, x1, m1, e1, hw1, hn1⟩ | ⟨x1, m1⟩
    · rw [x1, m1, kx_bd_ok, kx_bd_ok, if_pos rfl, if_neg hn1, e1]
      obtain ⟨A2, B2, q2, s2, r2, hp2, hs2, t2, u2, hc2⟩ := pR_num (lo := 0) (hi := 9) (by decide) hz hLx hLm r1
      rcases hc2 with ⟨w2, x2, m2, e2, hw2, hn2⟩ | ⟨x2, m2⟩
      · rw [x2, m2, kx_bd_ok, kx_bd_ok, if_pos rfl, e2]
        unfold f_X5_comesOne_34
        rw [if_neg hn2]
        obtain ⟨A3, B3, q3, s3, r3, hp3, hs3, t3, u3, hc3⟩ := pR_num (lo := 0) (hi := 20) (by decide) hz hLx hLm r2
        rcases hc3 with ⟨w3, x3, m3, e3, hw3, hn3⟩ | ⟨x3, m3⟩
        · rw [x3, m3, kx_bd_ok, kx_bd_ok, if_pos rfl, e3]
          unfold f_X5_comesOne_51
          rw [if_neg hn3]
          obtain ⟨k, hk, rfl⟩ := z_in (n := 5) (by omega) hw1
          obtain ⟨a, ha, rfl⟩ := z_in (n := 9) (by omega) hw2
          obtain ⟨w, hw, rfl⟩ := z_in (n := 20) (by omega) hw3
          obtain ⟨M', g1, g2, g3, g4⟩ := kv_X_let (k := k) (a := a) (w := w) r3.2.2.2.1 (by omega) hk
          obtain ⟨N', j1, j2, j3, j4, j5⟩ := kv_M_let (k := k) (a := a) (w := w) r3.2.2.2.2.1 (by omega)
          rw [g1, j1, Option.bind_some, kx_bd_ok]
          exact ⟨M', N', true, rfl, rfl, Or.inl ⟨rfl, kv_new V k a w, q3, pR_upd r3 (kv_ok_new hok (by omega) hk ha hw) (Nat.le_succ _) g2 j2 (fun r hr => g3 r (by omega)) g4 (fun r hr => j3 r (by omega) (by omega)) (fun c hc => j4 c (by omega)) j5, by omega⟩⟩
        · rw [x3, m3, kx_bd_ok, kx_bd_ok, if_neg (show ¬ false = true by decide)]
          unfold f_X5_comesOne_51
          rw [if_pos rfl]
          exact pS_no r3 hs3 t3 u3
      · rw [x2, m2, kx_bd_ok, kx_bd_ok, if_neg (show ¬ false = true by decide)]
        unfold f_X5_comesOne_34 f_X5_comesOne_51
        rw [if_pos rfl, if_pos rfl]
        exact pS_no r2 hs2 t2 u2
    · rw [x1, m1, kx_bd_ok, kx_bd_ok, if_neg (show ¬ false = true by decide), if_pos rfl]
      unfold f_X5_comesOne_34 f_X5_comesOne_51
      rw [if_pos rfl, if_pos rfl]
      exact pS_no r1 hs1 t1 u1
