/-! split -/
theorem z_any_bt (p : Nat → Bool) (hh : Nat → Int32) (c : Nat) : ∀ m, (bt (kz_up (fun x a => if p x = true then a ||| hh x else a) m 0 0) c = true ↔ ∃ x, x < m ∧ p x = true ∧ bt (hh x) c = true)
  | 0 => by
    show bt 0 c = true ↔ _
    rw [b_0]
    exact ⟨fun q => absurd q (by decide), fun ⟨x, hx, _⟩ => absurd hx (Nat.not_lt_zero x)⟩
  | m + 1 => by
    rw [kz_up_end, Nat.zero_add]
    have ih := z_any_bt p hh c m
    by_cases hg : p m = true
    · rw [if_pos hg, b_or, Bool.or_eq_true, ih]
      refine ⟨?_, fun ⟨x, h1, h2, h3⟩ => ?_⟩
      · rintro (⟨x, h1, h2, h3⟩ | q)
        · exact ⟨x, by omega, h2, h3⟩
        · exact ⟨m, by omega, hg, q⟩
      · by_cases e : x = m
        · rw [e] at h3
          exact Or.inr h3
        · exact Or.inl ⟨x, by omega, h2, h3⟩
    · rw [if_neg hg, ih]
      refine ⟨fun ⟨x, h1, h2, h3⟩ => ⟨x, by omega, h2, h3⟩, fun ⟨x, h1, h2, h3⟩ => ⟨x, ?_, h2, h3⟩⟩
      by_cases e : x = m
      · rw [e] at h2
        exact absurd h2 hg
      · omega
theorem s_all_bt {V : kv_V} (hok : kv_ok V) {i : Nat} (hi : i < 32) : bt (s_all V) i = decide (i < V.1 5 3) := by
  rw [s_all_n hok, bt_nI _ hi, Nat.testBit_two_pow_sub_one]
/-- what all know -/
def s_kn (V : kv_V) : Int32 := s_known V (s_all V)
theorem s_kn_bt {V : kv_V} (hok : kv_ok V) (c : Nat) : bt (s_kn V) c = true ↔ ∃ x, x < V.1 5 3 ∧ bt (V.2.1 x) c = true := by
  have hv := hok.2.2.2.1
  refine (s_known_bt V (s_all V) c (V.1 5 3)).trans ⟨fun ⟨x, h1, _, h3⟩ => ⟨x, h1, h3⟩, fun ⟨x, h1, h3⟩ => ⟨x, h1, ?_, h3⟩⟩
  rw [s_all_bt hok (by omega), decide_eq_true h1]
theorem s_go_v (V : kv_V) (g : Int32) : (s_go V g).1 5 3 = V.1 5 3 := rfl
theorem s_go_see (V : kv_V) (g : Int32) (x : Nat) : (s_go V g).2.1 x = s_gf V g (V.1 5 3) x := rfl
theorem s_go_veil (V : kv_V) (g : Int32) : nI ((s_go V g).1 5 1) = s_behind V g (nI (V.1 5 1)) := by
  obtain ⟨m, hm, e⟩ := s_behind_lv V g (nI (V.1 5 1))
  show nI ((s_behind V g (nI (V.1 5 1))).toNatClampNeg) = _
  rw [e, nI_clamp (by omega)]
theorem s_kn_go {V : kv_V} (hok : kv_ok V) (g : Int32) : s_kn (s_go V g) = s_kn V ||| s_any V g (nI (V.1 5 1)) := by
  apply b_ext
  intro c hc
  rw [Bool.eq_iff_iff, s_kn_bt (kv_ok_go hok g), b_or, Bool.or_eq_true, s_kn_bt hok]
  unfold s_any
  rw [z_any_bt (fun x => bt g x) (fun x => s_shown V x g (nI (V.1 5 1))) c]
  constructor
  · rintro ⟨x, h1, h2⟩
    rw [s_go_v] at h1
    rw [s_go_see] at h2
    unfold s_gf at h2
    by_cases q : x < V.1 5 3 ∧ bt g x = true
    · rw [if_pos q, b_or, Bool.or_eq_true] at h2
      rcases h2 with h2 | h2
      · exact Or.inl ⟨x, h1, h2⟩
      · exact Or.inr ⟨x, h1, q.2, h2⟩
    · rw [if_neg q] at h2
      exact Or.inl ⟨x, h1, h2⟩
  · rintro (⟨x, h1, h2⟩ | ⟨x, h1, h3, h2⟩)
    · refine ⟨x, h1, ?_⟩
      rw [s_go_see]
      unfold s_gf
      split
      · rw [b_or, h2, Bool.true_or]
      · exact h2
    · refine ⟨x, h1, ?_⟩
      rw [s_go_see]
      unfold s_gf
      rw [if_pos ⟨h1, h3⟩, b_or, h2, Bool.or_true]
theorem s_any_0 (V : kv_V) (t : Int32) : s_any V 0 t = 0 := by
  apply b_ext
  intro c hc
  rw [b_0, Bool.eq_iff_iff]
  unfold s_any
  rw [z_any_bt (fun x => bt 0 x) (fun x => s_shown V x 0 t) c]
  refine ⟨fun ⟨x, _, h, _⟩ => ?_, fun q => absurd q (by decide)⟩
  rw [b_0] at h
  exact h
theorem s_behind_0 {V : kv_V} (hok : kv_ok V) : s_behind V 0 (nI (V.1 5 1)) = nI (V.1 5 1) := by
  have z : ∀ p : Nat → Bool, fb_ct (fun y => bt 0 y && p y) (V.1 5 3) = 0 := fun p => fb_ct_zero.mpr (fun k _ => by rw [b_0, Bool.false_and])
  unfold s_behind
  rw [z, z, nI_0, Int32.add_zero, Int32.sub_zero, kv_level_id hok.2.1]
theorem s_shown_put (V : kv_V) (m d : Nat) (x : Nat) (g t : Int32) : s_shown (kv_put (kv_put V 5 1 m) 5 2 d) x g t = s_shown V x g t := rfl
theorem s_shown_go {V : kv_V} {g h t : Int32} {x : Nat} (hx : bt g x = false) : s_shown (s_go V g) x h t = s_shown V x h t := by
  unfold s_go
  rw [s_shown_put]
  exact s_shown_see (if_neg (fun z => by rw [hx] at z; exact absurd z.2 (by decide)))
theorem s_any_go {V : kv_V} {g h t : Int32} (hd : ∀ x, x < V.1 5 3 → bt h x = true → bt g x = false) : s_any (s_go V g) h t = s_any V h t := by
  unfold s_any
  rw [s_go_v]
  refine kz_up_congr _ _ _ (fun j _ hj a => ?_)
  by_cases q : bt h j = true
  · rw [if_pos q, if_pos q, s_shown_go (hd j (by omega) q)]
  · rw [if_neg q, if_neg q]
/-- a visit, if anybody goes -/
def s_goz (V : kv_V) (g : Int32) : kv_V := if g = 0 then V else s_go V g
theorem kv_ok_goz {V : kv_V} (hok : kv_ok V) (g : Int32) : kv_ok (s_goz V g) := by
  unfold s_goz
  split
  · exact hok
  · exact kv_ok_go hok g
theorem s_goz_kn {V : kv_V} (hok : kv_ok V) (g : Int32) : s_kn (s_goz V g) = s_kn V ||| s_any V g (nI (V.1 5 1)) := by
  unfold s_goz
  by_cases q : g = 0
  · rw [if_pos q, q, s_any_0, Int32.or_zero]
  · rw [if_neg q, s_kn_go hok]
theorem s_goz_veil {V : kv_V} (hok : kv_ok V) (g : Int32) : nI ((s_goz V g).1 5 1) = s_behind V g (nI (V.1 5 1)) := by
  unfold s_goz
  by_cases q : g = 0
  · rw [if_pos q, q, s_behind_0 hok]
  · rw [if_neg q, s_go_veil]
theorem s_goz_any {V : kv_V} {g h t : Int32} (hd : ∀ x, x < V.1 5 3 → bt h x = true → bt g x = false) : s_any (s_goz V g) h t = s_any V h t := by
  unfold s_goz
  by_cases q : g = 0
  · rw [if_pos q]
  · rw [if_neg q, s_any_go hd]
theorem s_two {V : kv_V} (hok : kv_ok V) (g h : Int32) (hd : ∀ x, x < V.1 5 3 → bt h x = true → bt g x = false) : s_kn (s_goz (s_goz V g) h) = (s_kn V ||| s_any V g (nI (V.1 5 1))) ||| s_any V h (s_behind V g (nI (V.1 5 1))) := by
  rw [s_goz_kn (kv_ok_goz hok g), s_goz_kn hok, s_goz_veil hok, s_goz_any hd]
theorem kv_s_split {Mx Mm : kx_M} (h : kv_Inv Mx Mm) (a b : Int32) : kv_Sim (f_X4_split a b Mx) (f_X5_split a b Mm) := by
  obtain ⟨V, hok, hX, hM, hR⟩ := id h
  have hv := hok.2.2.2.1
  have hpv := s_pv hok
  unfold f_X4_split f_X5_split
  rw [e_X0_G hX, e_X5_G hM, e_two]
  refine kv_Sim_if (fun h1 => kv_Sim_if (fun h2 => ?_) (fun _ => kv_Sim_no h)) (fun _ => kv_Sim_no h)
  obtain ⟨k, hk, rfl⟩ := g_G_el hok h1
  have ff : ∃ f : Nat → Int32, f = fun i => f_J6_bitCount_0f7a4 (s_kn (s_goz (s_goz V (nI i)) (nI k &&& (nI i ^^^ (-1 : Int32))))) := ⟨_, rfl⟩
  obtain ⟨f, hf⟩ := ff
  have hdis : ∀ i x, x < V.1 5 3 → bt (nI k &&& (nI i ^^^ (-1 : Int32))) x = true → bt (nI i) x = false := by
    intro i x hx q
    rw [b_and, z_not _ (show x < 32 by omega), Bool.and_eq_true] at q
    cases e : bt (nI i) x with
    | false => rfl
    | true =>
      rw [e] at q
      exact absurd q.2 (by decide)
  have st : ∃ st : Nat → Int32 × Int32 → Int32 × Int32, st = fun i b => if (nI i &&& (nI k ^^^ (-1 : Int32))) = 0 then s_pick f i b else b := ⟨_, rfl⟩
  obtain ⟨st, hst⟩ := st
  have hf0 : ¬ f 0 ≤ (-1 : Int32) := by
    rw [hf]
    obtain ⟨m, hm, e⟩ := z_bcR (s_kn (s_goz (s_goz V (nI 0)) (nI k &&& (nI 0 ^^^ (-1 : Int32)))))
    dsimp only
    rw [e]
    exact fun q => (show ¬ (0 : Int32) ≤ -1 by decide) (Int32.le_trans (nI_pos' (by omega)) q)
  have first : ∀ z : Int32, st 0 (z, (-1 : Int32)) = (nI 0, f 0) := by
    intro z
    rw [hst]
    unfold s_pick
    dsimp only
    rw [nI_0, Int32.zero_and, if_pos rfl, if_neg hf0]
  have same : ∀ m z, 0 < m → kz_up st m 0 (z, (-1 : Int32)) = kz_up st (m - 1) 1 (nI 0, f 0) := by
    intro m z hm
    cases m with
    | zero => omega
    | succ m =>
      show kz_up st m 1 (st 0 (z, (-1 : Int32))) = _
      rw [first, Nat.add_sub_cancel]
  have rr : ∃ R : Int32, R = if b = 0 then (kz_up st (k + 1) 0 ((-1 : Int32), (-1 : Int32))).1 else (kz_up st (k + 1) 0 ((-1 : Int32), (-1 : Int32))).2 := ⟨_, rfl⟩
  obtain ⟨R, hRR⟩ := rr
  have hx1 : f_X4_split_33 kx_fuel (nI k) b (-1 : Int32) (-1 : Int32) (nI 0) Mx = some (R, Mx) := by
    have := kz_run0 (F := fun n i c => f_X4_split_33 n (nI k) b c.1 c.2 i Mx) (st := st) (k := fun c => if b = 0 then some (c.1, Mx) else some (c.2, Mx)) (k + 1) ((-1 : Int32), (-1 : Int32)) (by omega)
      (fun n c => by
        rw [f_X4_split_33.eq_2]
        exact if_pos (nI_lt (by omega) (by omega)))
      (fun n i c hi => by
        have ek : f_X4_knownBehindTwo Mx (nI i) (nI k &&& (nI i ^^^ (-1 : Int32))) = some (s_kn (s_goz (s_goz V (nI i)) (nI k &&& (nI i ^^^ (-1 : Int32))))) := by
          unfold f_X4_knownBehindTwo
          rw [s_X0_all hX, s_X0_known hok hX, hX.1.2.1, s_X0_any hok hX, s_X0_behind hok hX, s_X0_any hok hX, s_two hok _ _ (hdis i)]
          rfl
        rw [f_X4_split_33.eq_2, if_neg (nI_nlt (by omega) (by omega)), ek, Option.bind_some, nI_1, hst]
        unfold s_pick
        rw [hf]
        dsimp only
        split
        · split <;> rfl
        · rfl)
    refine Eq.trans this ?_
    rw [hRR]
    split <;> rfl
  have hm1 := kz_rel (F := fun n i (c : (Int32 × Int32) × kx_M) => f_X5_split_32 n (nI k) b c.1.1 c.1.2 i c.2) (N := k + 1) (fun i c => c.1 = kz_up st i 0 ((0 : Int32), (-1 : Int32)) ∧ kv_M c.2 V ∧ frM Mm c.2) (fun z => ∃ N, z = some (R, N) ∧ kv_M N V ∧ frM Mm N)
    (fun n c hP => by
      obtain ⟨p1, p2, p3⟩ := hP
      refine ⟨c.2, ?_, p2, p3⟩
      rw [f_X5_split_32.eq_2, if_pos (nI_lt (by omega) (by omega)), p1, same _ _ (by omega), hRR, same _ _ (by omega)]
      split <;> rfl)
    (fun n i c hi hP => by
      obtain ⟨p1, p2, p3⟩ := hP
      rw [f_X5_split_32.eq_2, if_neg (nI_nlt (by omega) (by omega))]
      have up : kz_up st (i + 1) 0 ((0 : Int32), (-1 : Int32)) = st i c.1 := by rw [kz_up_end, Nat.zero_add, p1]
      by_cases q : (nI i &&& (nI k ^^^ (-1 : Int32))) = 0
      · rw [if_pos q]
        obtain ⟨f', t1, t2⟩ := kv_keep (w := 15) (by omega) p2
        rw [t1, Option.bind_some]
        have key2 : ∀ N : kx_M, N.1 15 = f' → frM Mm N → kv_M N (s_goz (s_goz V (nI i)) (nI k &&& (nI i ^^^ (-1 : Int32)))) → ∃ c' : (Int32 × Int32) × kx_M, (c'.1 = kz_up st (i + 1) 0 ((0 : Int32), (-1 : Int32)) ∧ kv_M c'.2 V ∧ frM Mm c'.2) ∧ f_X5_split_85 (f_X5_split_32 n) (nI k) b c.1.1 c.1.2 (nI i) N = f_X5_split_32 n (nI k) b c'.1.1 c'.1.2 (nI (i + 1)) c'.2 := by
          intro N n1 n2 n3
          obtain ⟨M', u1, u2, u3, _⟩ := kv_M_again t2 n1 n2
          unfold f_X5_split_85
          rw [s_X5_all n3, s_X5_known (kv_ok_goz (kv_ok_goz hok _) _) n3, u1, Option.bind_some, Option.bind_some, z_flip, nI_1, up, hst]
          have efi : f_J6_bitCount_0f7a4 (s_known (s_goz (s_goz V (nI i)) (nI k &&& (nI i ^^^ (-1 : Int32)))) (s_all (s_goz (s_goz V (nI i)) (nI k &&& (nI i ^^^ (-1 : Int32)))))) = f i := by rw [hf]; rfl
          rw [efi]
          dsimp only
          rw [if_pos q]
          unfold s_pick
          by_cases q2 : f i ≤ c.1.2
          · rw [if_pos q2, if_pos q2]
            exact ⟨(c.1, M'), ⟨rfl, u2, u3⟩, rfl⟩
          · rw [if_neg q2, if_neg q2]
            exact ⟨((nI i, f i), M'), ⟨rfl, u2, u3⟩, rfl⟩
        have key : ∀ N : kx_M, N.1 15 = f' → frM Mm N → kv_M N (s_goz V (nI i)) → ∃ c' : (Int32 × Int32) × kx_M, (c'.1 = kz_up st (i + 1) 0 ((0 : Int32), (-1 : Int32)) ∧ kv_M c'.2 V ∧ frM Mm c'.2) ∧ f_X5_split_69 (f_X5_split_32 n) (nI k) b c.1.1 c.1.2 (nI i) N = f_X5_split_32 n (nI k) b c'.1.1 c'.1.2 (nI (i + 1)) c'.2 := by
          intro N n1 n2 n3
          unfold f_X5_split_69
          by_cases ei : nI i = nI k
          · rw [if_pos ei]
            refine key2 N n1 n2 ?_
            have e0 : nI k &&& (nI i ^^^ (-1 : Int32)) = 0 := by
              rw [ei]
              apply b_ext
              intro j hj
              rw [b_and, z_not _ hj, b_0]
              cases bt (nI k) j <;> rfl
            rw [e0]
            unfold s_goz
            rw [if_pos rfl]
            exact n3
          · rw [if_neg ei]
            obtain ⟨N', u1, u2, u3, u4⟩ := s_X5_go (kv_ok_goz hok (nI i)) n3 (nI k &&& (nI i ^^^ (-1 : Int32)))
            rw [u1, Option.bind_some]
            refine key2 N' (by rw [u3 15 (by omega) (by omega) (by omega)]; exact n1) (frM_trans n2 (frM_go u3 u4)) ?_
            have e0 : ¬ nI k &&& (nI i ^^^ (-1 : Int32)) = 0 := fun z => ei (by
              apply b_ext
              intro j hj
              have z1 : bt (nI k &&& (nI i ^^^ (-1 : Int32))) j = false := by rw [z, b_0]
              have z2 : bt (nI i &&& (nI k ^^^ (-1 : Int32))) j = false := by rw [q, b_0]
              rw [b_and, z_not _ hj] at z1 z2
              cases e1 : bt (nI i) j <;> cases e2 : bt (nI k) j <;> rw [e1, e2] at z1 z2 <;> first | rfl | exact absurd z1 (by decide) | exact absurd z2 (by decide))
            have e1 : s_goz (s_goz V (nI i)) (nI k &&& (nI i ^^^ (-1 : Int32))) = s_go (s_goz V (nI i)) (nI k &&& (nI i ^^^ (-1 : Int32))) := if_neg e0
            rw [e1]
            exact u2
        by_cases h0 : i = 0
        · rw [if_pos (show nI i ≤ (0 : Int32) by rw [h0]; decide)]
          refine Or.inr (key _ kz_set_same (frM_trans p3 (frM_set (by omega))) ?_)
          have e1 : s_goz V (nI i) = V := if_pos (by rw [h0]; rfl)
          rw [e1]
          exact kv_M_set (by omega) p2
        · rw [if_neg (show ¬ nI i ≤ (0 : Int32) from nI_nle (by omega) (by omega))]
          obtain ⟨N', u1, u2, u3, u4⟩ := s_X5_go hok (kv_M_set (w := 15) (f := f') (by omega) p2) (nI i)
          rw [u1, Option.bind_some]
          refine Or.inr (key N' (by rw [u3 15 (by omega) (by omega) (by omega)]; exact kz_set_same) (frM_trans (frM_trans p3 (frM_set (by omega))) (frM_go u3 u4)) ?_)
          have e1 : s_goz V (nI i) = s_go V (nI i) := if_neg (nI_ne0 (by omega) (by omega))
          rw [e1]
          exact u2
      · rw [if_neg q]
        refine Or.inr ⟨c, ⟨?_, p2, p3⟩, by rw [nI_1]⟩
        rw [up, hst]
        exact (if_neg q).symm) (k + 1) 0 kx_fuel (((0 : Int32), (-1 : Int32)), Mm) (by omega) (kz_f _ (by omega)) ⟨rfl, hM, frM_refl Mm⟩
  obtain ⟨N, b1, b2, b3⟩ := hm1
  exact kv_Sim_eq hx1 b1 (kv_Inv_same hok hX b2 hR (frX_refl Mx) (fun _ _ _ => rfl) b3)
/-! what would be if: another want, veil, kind, shyness; all put back -/
theorem s_M_want {M : kx_M} {V : kv_V} {x w : Nat} (hok : kv_ok V) (hM : kv_M M V) (hx : x < V.1 5 3) (hw : w ≤ 20) : f_X5_shownAlone (kx_u1 M 6 x (nI w)) (nI x) = some (s_if V x (nI (V.1 2 x)) (nI w) (nI (V.1 5 1))) := by
  have hv := hok.2.2.2.1
  have := s_X5_alone (kv_ok_want (x := x) hok hw) (kv_M_want (x := x) hM) hx
  rw [this, s_alone_if _ (by omega) _ (show (kv_put V 4 x w).1 5 3 ≤ 32 from by show V.1 5 3 ≤ 32; omega), kv_put_at]
  rfl
theorem s_M_kind {M : kx_M} {V : kv_V} {x w : Nat} (hok : kv_ok V) (hM : kv_M M V) (hx : x < V.1 5 3) (hw : w ≤ 5) : f_X5_shownAlone (kx_u1 M 4 x (nI w)) (nI x) = some (s_if V x (nI w) (nI (V.1 4 x)) (nI (V.1 5 1))) := by
  have hv := hok.2.2.2.1
  have := s_X5_alone (kv_ok_kind (x := x) hok hw) (kv_M_kind (x := x) hM) hx
  rw [this, s_alone_if _ (by omega) _ (show (kv_put V 2 x w).1 5 3 ≤ 32 from by show V.1 5 3 ≤ 32; omega), kv_put_at]
  rfl
theorem s_shown_veil (V : kv_V) (m : Nat) (x : Nat) (g t : Int32) : s_shown (kv_put V 5 1 m) x g t = s_shown V x g t := rfl
theorem s_M_veil {M : kx_M} {V : kv_V} {x t : Nat} (hok : kv_ok V) (hM : kv_M M V) (hx : x < V.1 5 3) (ht : t ≤ 20) : f_X5_shownAlone (kx_u1 M 3 0 (nI t)) (nI x) = some (s_shown V x ((1 : Int32) <<< (nI x &&& 31)) (nI t)) := by
  have := s_X5_alone (kv_ok_veil hok ht) (kv_M_veil hM) hx
  rw [this, s_shown_veil, kv_put_at]
theorem kz_firstG {β : Type} {F : Nat → Int32 → Option β} {N : Nat} {p : Nat → Bool} (y : Int32 → Option β) (hx : ∀ n, F (n + 1) (nI N) = y (-1)) (hs : ∀ n i, i < N → F (n + 1) (nI i) = if p i = true then y (nI i) else F n (nI (i + 1))) : ∀ (m i n : Nat), i + m = N → m < n → F n (nI i) = y (s_fst p m i)
  | 0, i, 0, _, h => absurd h (Nat.not_lt_zero _)
  | m + 1, i, 0, _, h => absurd h (Nat.not_lt_zero _)
  | 0, i, n + 1, h, _ => by
    have : i = N := by omega
    subst this
    exact hx n
  | m + 1, i, n + 1, h, hn => by
    rw [hs n i (by omega)]
    show _ = y (if p i = true then nI i else s_fst p m (i + 1))
    by_cases q : p i = true
    · rw [if_pos q, if_pos q]
    · rw [if_neg q, if_neg q]
      exact kz_firstG y hx hs m (i + 1) n (by omega) (by omega)
theorem z_down {j : Nat} (h : j ≤ 20) : nI 20 - nI j = nI (20 - j) := nI_sub h
theorem z_down1 (a b : Int32) : (a - b) + (-1) = a - (b + 1) := by grind
theorem z_downs (j : Nat) : (nI 20 - nI j) + (-1) = nI 20 - nI (j + 1) := (z_down1 _ _).trans (congrArg (fun z => nI 20 - z) (nI_1 j))
theorem s_fst_down (p : Nat → Bool) {j : Nat} (h : j ≤ 20) : s_fst p (j + 1) (21 - (j + 1)) = if p (20 - j) = true then nI (20 - j) else s_fst p j (21 - j) := by
  show (if p (21 - (j + 1)) = true then nI (21 - (j + 1)) else s_fst p j (21 - (j + 1) + 1)) = _
  rw [show 21 - (j + 1) = 20 - j by omega, show 20 - j + 1 = 21 - j by omega]
theorem kv_s_how {Mx Mm : kx_M} (h : kv_Inv Mx Mm) (a b : Int32) : kv_Sim (f_X4_how a b Mx) (f_X5_how a b Mm) := by
  obtain ⟨V, hok, hX, hM, hR⟩ := id h
  have hv := hok.2.2.2.1
  have hn := hok.1.2
  unfold f_X4_how f_X5_how
  rw [e_X0_V hX, e_X5_V hM, e_X0_C hX, e_X5_C hM]
  refine kv_Sim_if (fun h1 => kv_Sim_if (fun h2 => ?_) (fun _ => kv_Sim_no h)) (fun _ => kv_Sim_no h)
  obtain ⟨x, hx, rfl⟩ := g_V_el hok h1
  obtain ⟨c, hc, rfl⟩ := g_C_el hok h2
  have pp : ∃ p : Nat → Bool, p = fun w => bt (s_if V x (nI (V.1 2 x)) (nI w) (nI (V.1 5 1))) c := ⟨_, rfl⟩
  obtain ⟨p, hp⟩ := pp
  have hpw : ∀ w, bt (s_if V x (nI (V.1 2 x)) (nI w) (nI (V.1 5 1))) c = p w := fun w => by rw [hp]
  rw [z_ck (show x < 8 by omega) (by decide), nI_clamp (by omega)]
  have hw := (hM.2.2 x (by omega)).2.2.1
  refine kv_Sim_eq (r := s_fst p 21 0) ?_ ?_ h
  · refine kz_firstG (F := fun n i => f_X4_how_31 n (nI x) (nI c) i Mx) (N := 21) (fun r => some (r, Mx)) ?_ ?_ 21 0 kx_fuel (by omega) (kz_f _ (by omega))
    · intro n
      rw [f_X4_how_31.eq_2]
      exact if_pos (by decide)
    · intro n i hi
      rw [f_X4_how_31.eq_2, if_neg (show ¬ (20 : Int32) < nI i from nI_nlt (a := 20) (by omega) (by omega)), s_X0_ifw hok hX hx, Option.bind_some, z_isIn _ (show c < 32 by omega), hpw, nI_1]
  · have := kz_rel (F := fun n j (s : Int32 × kx_M) => f_X5_how_37 n (nI x) (nI c) (Mm.1 6 x) s.1 (nI 20 - j) s.2) (N := 21) (fun j s => s.1 = s_fst p j (21 - j) ∧ ∃ w, s.2 = kx_u1 Mm 6 x w) (fun z => z = some (s_fst p 21 0, Mm))
      (fun n s hP => by
        obtain ⟨p1, w, p2⟩ := hP
        rw [f_X5_how_37.eq_2, if_pos (show nI 20 - nI 21 < (0 : Int32) by decide), z_ck (show x < 8 by omega) (by decide), nI_clamp (by omega), p2, kx_u1_twice, kx_u1_self, p1])
      (fun n j s hj hP => by
        obtain ⟨p1, w, p2⟩ := hP
        rw [f_X5_how_37.eq_2, z_downs, z_down (show j ≤ 20 by omega), if_neg (nI_pos (by omega)), z_ck (show x < 8 by omega) (by decide), nI_clamp (by omega), p2, kx_u1_twice, s_M_want hok hM hx (by omega), Option.bind_some, z_has _ (show c < 32 by omega), hpw]
        refine Or.inr ⟨(s_fst p (j + 1) (21 - (j + 1)), kx_u1 Mm 6 x (nI (20 - j))), ⟨rfl, _, rfl⟩, ?_⟩
        rw [s_fst_down p (by omega)]
        by_cases q : p (20 - j) = true
        · rw [if_pos q, if_pos q]
        · rw [if_neg q, if_neg q, p1]) 21 0 kx_fuel ((-1 : Int32), Mm) (by omega) (kz_f _ (by omega)) ⟨rfl, _, kx_u1_self.symm⟩
    exact this
theorem s_fst_end (p : Nat → Bool) : ∀ m i, i + m < 2 ^ 31 → s_fst p (m + 1) i = if s_fst p m i = -1 then (if p (i + m) = true then nI (i + m) else -1) else s_fst p m i
  | 0, i, _ => by
    show (if p i = true then nI i else -1) = if (-1 : Int32) = -1 then (if p (i + 0) = true then nI (i + 0) else -1) else -1
    rw [if_pos rfl, Nat.add_zero]
  | m + 1, i, h => by
    show (if p i = true then nI i else s_fst p (m + 1) (i + 1)) = if (if p i = true then nI i else s_fst p m (i + 1)) = -1 then _ else (if p i = true then nI i else s_fst p m (i + 1))
    by_cases q : p i = true
    · have ne : ¬ nI i = -1 := fun z => (show ¬ (0 : Int32) ≤ -1 by decide) (z ▸ nI_pos' (by omega))
      rw [if_pos q, if_pos q, if_neg ne]
    · rw [if_neg q, if_neg q, s_fst_end p m (i + 1) (by omega), show i + 1 + m = i + (m + 1) by omega]
theorem kv_s_lifted {Mx Mm : kx_M} (h : kv_Inv Mx Mm) (a b d : Int32) : kv_Sim (f_X4_lifted a b d Mx) (f_X5_lifted a b d Mm) := by
  obtain ⟨V, hok, hX, hM, hR⟩ := id h
  have hv := hok.2.2.2.1
  have hn := hok.1.2
  unfold f_X4_lifted f_X5_lifted
  rw [e_X0_V hX, e_X5_V hM, e_X0_C hX, e_X5_C hM, e_two]
  refine kv_Sim_if (fun h1 => kv_Sim_if (fun h2 => kv_Sim_if (fun h3 => ?_) (fun _ => kv_Sim_no h)) (fun _ => kv_Sim_no h)) (fun _ => kv_Sim_no h)
  obtain ⟨x, hx, rfl⟩ := g_V_el hok h1
  obtain ⟨c, hc, rfl⟩ := g_C_el hok h2
  have pp : ∃ p : Nat → Bool, p = fun t => bt (s_shown V x ((1 : Int32) <<< (nI x &&& 31)) (nI t)) c := ⟨_, rfl⟩
  obtain ⟨p, hp⟩ := pp
  have hpw : ∀ t, bt (s_shown V x ((1 : Int32) <<< (nI x &&& 31)) (nI t)) c = p t := fun w => by rw [hp]
  rw [z_ck2a, z_c0]
  have mx : ∀ (e : Int32) (R : Int32) (st : Nat → Int32 → Int32), (∀ i s, i < 21 → st i s = if (s = -1 ∨ e = 1) ∧ p i = true then nI i else s) → kz_up st 21 0 (-1) = R → f_X4_lifted_42 kx_fuel (nI x) (nI c) e (-1 : Int32) (nI 0) Mx = some (R, Mx) := by
    intro e R st hst hR
    have := kz_run0 (F := fun n i s => f_X4_lifted_42 n (nI x) (nI c) e s i Mx) (st := st) (k := fun s => some (s, Mx)) 21 (-1 : Int32) (by omega)
      (fun n s => by
        rw [f_X4_lifted_42.eq_2]
        exact if_pos (by decide))
      (fun n i s hi => by
        rw [f_X4_lifted_42.eq_2, if_neg (show ¬ (20 : Int32) < nI i from nI_nlt (a := 20) (by omega) (by omega))]
        unfold f_X4_lifted_65
        rw [s_X0_alone hok hX hx, Option.bind_some, z_isIn _ (show c < 32 by omega), hpw, nI_1, hst i s hi]
        by_cases q1 : s = -1
        · rw [if_pos q1, if_pos rfl]
          by_cases q2 : p i = true
          · rw [if_pos q2, if_pos ⟨Or.inl q1, q2⟩]
          · rw [if_neg q2, if_neg (fun z => q2 z.2)]
        · rw [if_neg q1]
          by_cases q3 : e = 1
          · rw [if_pos q3, if_pos rfl]
            by_cases q2 : p i = true
            · rw [if_pos q2, if_pos ⟨Or.inr q3, q2⟩]
            · rw [if_neg q2, if_neg (fun z => q2 z.2)]
          · rw [if_neg q3, if_neg (show ¬ false = true by decide), if_neg (fun z => z.1.elim q1 q3)])
    rw [hR] at this
    exact this
  have mm : ∀ (e : Int32) (R : Nat → Int32) (ix : Nat → Nat), (∀ j, j < 21 → ix j ≤ 20) → (∀ j, j < 21 → (if e = 0 then nI 20 - nI j else nI j) = nI (ix j)) → R 0 = -1 → (∀ j, j < 21 → R (j + 1) = if p (ix j) = true then nI (ix j) else R j) → f_X5_lifted_46 kx_fuel (nI x) (nI c) e (Mm.1 3 0) (-1 : Int32) (nI 0) Mm = some (R 21, Mm) := by
    intro e R ix hix hixe hR0 hRs
    exact kz_rel (F := fun n j (s : Int32 × kx_M) => f_X5_lifted_46 n (nI x) (nI c) e (Mm.1 3 0) s.1 j s.2) (N := 21) (fun j s => s.1 = R j ∧ ∃ w, s.2 = kx_u1 Mm 3 0 w) (fun z => z = some (R 21, Mm))
      (fun n s hP => by
        obtain ⟨p1, w, p2⟩ := hP
        rw [f_X5_lifted_46.eq_2, if_pos (show (20 : Int32) < nI 21 by decide), z_ck2a, z_c0, p2, kx_u1_twice, kx_u1_self, p1])
      (fun n j s hj hP => by
        obtain ⟨p1, w, p2⟩ := hP
        have e1 := hixe j hj
        have step : ∀ v : Int32, v = nI (ix j) → f_X5_lifted_72 (f_X5_lifted_46 n) (nI x) (nI c) e (Mm.1 3 0) s.1 (nI j) v (0 : Int32) s.2 = f_X5_lifted_46 n (nI x) (nI c) e (Mm.1 3 0) (R (j + 1)) (nI (j + 1)) (kx_u1 Mm 3 0 (nI (ix j))) := by
          intro v hvv
          unfold f_X5_lifted_72
          rw [hvv, z_ck2a, z_c0, p2, kx_u1_twice, s_M_veil hok hM hx (hix j hj), Option.bind_some, z_has _ (show c < 32 by omega), hpw, z_ck2a, kv_u1_at, nI_1, hRs j hj]
          by_cases q : p (ix j) = true
          · rw [if_pos q, if_pos q]
          · rw [if_neg q, if_neg q, p1]
        rw [f_X5_lifted_46.eq_2, if_neg (show ¬ (20 : Int32) < nI j from nI_nlt (a := 20) (by omega) (by omega))]
        refine Or.inr ⟨(R (j + 1), kx_u1 Mm 3 0 (nI (ix j))), ⟨rfl, _, rfl⟩, ?_⟩
        by_cases q : e = 0
        · rw [if_pos q] at e1
          rw [if_pos q]
          exact step _ e1
        · rw [if_neg q] at e1
          rw [if_neg q]
          exact step _ e1) 21 0 kx_fuel ((-1 : Int32), Mm) (by omega) (kz_f _ (by omega)) ⟨hR0.symm, _, kx_u1_self.symm⟩
  rcases e_two_el h3 with rfl | rfl
  · refine kv_Sim_eq (mx 0 (s_fst p 21 0) (fun i s => if (s = -1 ∨ (0 : Int32) = 1) ∧ p i = true then nI i else s) (fun _ _ _ => rfl) ?_) (mm 0 (fun j => s_fst p j (21 - j)) (fun j => 20 - j) (fun j hj => by omega) (fun j hj => by rw [if_pos rfl, z_down (by omega)]) rfl (fun j hj => s_fst_down p (by omega))) h
    have : ∀ m, m ≤ 21 → kz_up (fun i s => if (s = -1 ∨ (0 : Int32) = 1) ∧ p i = true then nI i else s) m 0 (-1) = s_fst p m 0 := by
      intro m
      induction m with
      | zero => intro _; rfl
      | succ m ih =>
        intro hm
        rw [kz_up_end, Nat.zero_add, ih (by omega), s_fst_end p m 0 (by omega), Nat.zero_add]
        by_cases q : s_fst p m 0 = -1
        · rw [if_pos q]
          by_cases q2 : p m = true
          · rw [if_pos ⟨Or.inl q, q2⟩, if_pos q2]
          · rw [if_neg (fun z => q2 z.2), if_neg q2, q]
        · rw [if_neg q, if_neg (fun z => z.1.elim q (by decide))]
    exact this 21 (by omega)
  · refine kv_Sim_eq (mx 1 (kz_up (fun i s => if p i = true then nI i else s) 21 0 (-1)) (fun i s => if p i = true then nI i else s) (fun i s _ => ?_) rfl) (mm 1 (fun j => kz_up (fun i s => if p i = true then nI i else s) j 0 (-1)) (fun j => j) (fun j hj => by omega) (fun j hj => if_neg (by decide)) rfl (fun j hj => by rw [kz_up_end, Nat.zero_add])) h
    by_cases q2 : p i = true
    · rw [if_pos q2, if_pos ⟨Or.inr rfl, q2⟩]
    · rw [if_neg q2, if_neg (fun z => q2 z.2)]
theorem kv_s_chance {Mx Mm : kx_M} (h : kv_Inv Mx Mm) (a b : Int32) : kv_Sim (f_X4_chance a b Mx) (f_X5_chance a b Mm) := by
  obtain ⟨V, hok, hX, hM, hR⟩ := id h
  have hv := hok.2.2.2.1
  have hn := hok.1.2
  unfold f_X4_chance f_X5_chance
  rw [e_X0_V hX, e_X5_V hM, e_X0_C hX, e_X5_C hM]
  refine kv_Sim_if (fun h1 => kv_Sim_if (fun h2 => ?_) (fun _ => kv_Sim_no h)) (fun _ => kv_Sim_no h)
  obtain ⟨x, hx, rfl⟩ := g_V_el hok h1
  obtain ⟨c, hc, rfl⟩ := g_C_el hok h2
  have ss : ∃ st : Nat → Int32 → Int32, st = fun w s => if bt (s_if V x (nI (V.1 2 x)) (nI w) (nI (V.1 5 1))) c = true then s + 1 else s := ⟨_, rfl⟩
  obtain ⟨st, hst⟩ := ss
  rw [z_ck (show x < 8 by omega) (by decide), nI_clamp (by omega)]
  refine kv_Sim_eq (r := ((1000000 : Int32) * kz_up st 21 0 0) / (21 : Int32)) ?_ ?_ h
  · exact kz_run0 (F := fun n i s => f_X4_chance_34 n (nI x) (nI c) s i Mx) (st := st) (k := fun s => some (((1000000 : Int32) * s) / (21 : Int32), Mx)) 21 (0 : Int32) (by omega)
      (fun n s => by
        rw [f_X4_chance_34.eq_2]
        exact if_pos (by decide))
      (fun n i s hi => by
        rw [f_X4_chance_34.eq_2, if_neg (show ¬ (20 : Int32) < nI i from nI_nlt (a := 20) (by omega) (by omega)), s_X0_ifw hok hX hx, Option.bind_some, z_isIn _ (show c < 32 by omega), nI_1, hst]
        dsimp only
        split <;> rfl)
  · exact kz_rel (F := fun n j (s : Int32 × kx_M) => f_X5_chance_36 n (nI x) (nI c) (Mm.1 6 x) s.1 j s.2) (N := 21) (fun j s => s.1 = kz_up st j 0 0 ∧ ∃ w, s.2 = kx_u1 Mm 6 x w) (fun z => z = some (((1000000 : Int32) * kz_up st 21 0 0) / (21 : Int32), Mm))
      (fun n s hP => by
        obtain ⟨p1, w, p2⟩ := hP
        rw [f_X5_chance_36.eq_2, if_pos (show (20 : Int32) < nI 21 by decide), z_ck (show x < 8 by omega) (by decide), nI_clamp (by omega), p2, kx_u1_twice, kx_u1_self, p1])
      (fun n j s hj hP => by
        obtain ⟨p1, w, p2⟩ := hP
        rw [f_X5_chance_36.eq_2, if_neg (show ¬ (20 : Int32) < nI j from nI_nlt (a := 20) (by omega) (by omega)), z_ck (show x < 8 by omega) (by decide), nI_clamp (by omega), p2, kx_u1_twice, s_M_want hok hM hx (by omega), Option.bind_some, z_has _ (show c < 32 by omega), nI_1]
        refine Or.inr ⟨(kz_up st (j + 1) 0 0, kx_u1 Mm 6 x (nI j)), ⟨rfl, _, rfl⟩, ?_⟩
        rw [kz_up_end, Nat.zero_add, ← p1, hst]
        dsimp only
        split <;> rfl) 21 0 kx_fuel ((0 : Int32), Mm) (by omega) (kz_f _ (by omega)) ⟨rfl, _, kx_u1_self.symm⟩
theorem kv_s_mean {Mx Mm : kx_M} (h : kv_Inv Mx Mm) (a : Int32) : kv_Sim (f_X4_mean a Mx) (f_X5_mean a Mm) := by
  obtain ⟨V, hok, hX, hM, hR⟩ := id h
  have hv := hok.2.2.2.1
  unfold f_X4_mean f_X5_mean
  rw [e_X0_V hX, e_X5_V hM]
  refine kv_Sim_if (fun h1 => ?_) (fun _ => kv_Sim_no h)
  obtain ⟨x, hx, rfl⟩ := g_V_el hok h1
  have ss : ∃ st : Nat → Int32 → Int32, st = fun w s => s + f_J6_bitCount_0f7a4 (s_if V x (nI (V.1 2 x)) (nI w) (nI (V.1 5 1))) := ⟨_, rfl⟩
  obtain ⟨st, hst⟩ := ss
  rw [z_ck (show x < 8 by omega) (by decide), nI_clamp (by omega)]
  refine kv_Sim_eq (r := ((1000 : Int32) * kz_up st 21 0 0) / (21 : Int32)) ?_ ?_ h
  · exact kz_run0 (F := fun n i s => f_X4_mean_22 n (nI x) s i Mx) (st := st) (k := fun s => some (((1000 : Int32) * s) / (21 : Int32), Mx)) 21 (0 : Int32) (by omega)
      (fun n s => by
        rw [f_X4_mean_22.eq_2]
        exact if_pos (by decide))
      (fun n i s hi => by
        rw [f_X4_mean_22.eq_2, if_neg (show ¬ (20 : Int32) < nI i from nI_nlt (a := 20) (by omega) (by omega)), s_X0_ifw hok hX hx, Option.bind_some, nI_1, hst])
  · exact kz_rel (F := fun n j (s : Int32 × kx_M) => f_X5_mean_27 n (nI x) (Mm.1 6 x) s.1 j s.2) (N := 21) (fun j s => s.1 = kz_up st j 0 0 ∧ ∃ w, s.2 = kx_u1 Mm 6 x w) (fun z => z = some (((1000 : Int32) * kz_up st 21 0 0) / (21 : Int32), Mm))
      (fun n s hP => by
        obtain ⟨p1, w, p2⟩ := hP
        rw [f_X5_mean_27.eq_2, if_pos (show (20 : Int32) < nI 21 by decide), z_ck (show x < 8 by omega) (by decide), nI_clamp (by omega), p2, kx_u1_twice, kx_u1_self, p1])
      (fun n j s hj hP => by
        obtain ⟨p1, w, p2⟩ := hP
        rw [f_X5_mean_27.eq_2, if_neg (show ¬ (20 : Int32) < nI j from nI_nlt (a := 20) (by omega) (by omega)), z_ck (show x < 8 by omega) (by decide), nI_clamp (by omega), p2, kx_u1_twice, s_M_want hok hM hx (by omega), Option.bind_some, nI_1]
        refine Or.inr ⟨(kz_up st (j + 1) 0 0, kx_u1 Mm 6 x (nI j)), ⟨rfl, _, rfl⟩, ?_⟩
        rw [kz_up_end, Nat.zero_add, ← p1, hst]) 21 0 kx_fuel ((0 : Int32), Mm) (by omega) (kz_f _ (by omega)) ⟨rfl, _, kx_u1_self.symm⟩
theorem kv_s_blind {Mx Mm : kx_M} (h : kv_Inv Mx Mm) (a : Int32) : kv_Sim (f_X4_blind a Mx) (f_X5_blind a Mm) := by
  obtain ⟨V, hok, hX, hM, hR⟩ := id h
  have hv := hok.2.2.2.1
  unfold f_X4_blind f_X5_blind f_X4_isLevel
  rw [kv_within]
  refine kv_Sim_if (fun h1 => ?_) (fun _ => kv_Sim_no h)
  obtain ⟨t, ht, rfl⟩ := z_in (n := 20) (by omega) h1
  rw [z_ck2a, z_ck2a, z_c0]
  have ss : ∃ st : Nat → Int32 → Int32, st = fun x s => if s_shown V x ((1 : Int32) <<< (nI x &&& 31)) (nI t) = 0 then s + 1 else s := ⟨_, rfl⟩
  obtain ⟨st, hst⟩ := ss
  refine kv_Sim_eq (r := kz_up st (V.1 5 3) 0 0) ?_ ?_ h
  · exact kz_run0 (F := fun n i s => f_X4_blind_18 n (nI t) s i Mx) (st := st) (k := fun s => some (s, Mx)) (V.1 5 3) (0 : Int32) (by omega)
      (fun n s => by
        rw [f_X4_blind_18.eq_2, hX.1.2.2.2.2]
        exact if_pos (Int32.le_refl _))
      (fun n i s hi => by
        rw [f_X4_blind_18.eq_2, hX.1.2.2.2.2, if_neg (nI_ge hi (by omega)), s_X0_alone hok hX hi, Option.bind_some, nI_1, hst]
        dsimp only
        split <;> rfl)
  · have hv' : (kx_u1 Mm 3 0 (nI t)).1 0 4 = nI (V.1 5 3) := (kv_u1_no (by omega)).trans hM.1.2.2.2.2
    exact kz_run0 (F := fun n i s => f_X5_blind_36 n (Mm.1 3 0) s i (kx_u1 Mm 3 0 (nI t))) (st := st) (k := fun s => some (s, Mm)) (V.1 5 3) (0 : Int32) (by omega)
      (fun n s => by
        rw [f_X5_blind_36.eq_2, hv', if_pos (Int32.le_refl _), z_ck2a, z_c0, kx_u1_twice, kx_u1_self])
      (fun n i s hi => by
        rw [f_X5_blind_36.eq_2, hv', if_neg (nI_ge hi (by omega)), s_M_veil hok hM hi ht, Option.bind_some, nI_1, hst]
        dsimp only
        split <;> rfl)
