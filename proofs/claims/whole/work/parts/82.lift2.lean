/-! lift: the reference's sets, and both together -/
def xm (o : Option Nat) : Int32 := match o with
  | none => -1
  | some m => nI m
theorem xm_step {l : Bool} {o : Option Nat} {v : Nat} (h : o20 o) (hv : v ≤ 20) : (if xm o = -1 then nI v else if l = true then (if xm o ≤ nI v then xm o else nI v) else (if nI v ≤ xm o then xm o else nI v)) = xm (oc l o v) := by
  cases o with
  | none => exact if_pos rfl
  | some m =>
    have hm := h m rfl
    show (if nI m = -1 then nI v else _) = nI (if l = true then (if v < m then v else m) else (if m < v then v else m))
    rw [if_neg (show ¬ nI m = (-1 : Int32) from fun z => (show ¬ (0 : Int32) ≤ -1 by decide) (z ▸ nI_pos' (by omega)))]
    cases l with
    | true =>
      rw [if_pos rfl, if_pos rfl]
      show (if nI m ≤ nI v then nI m else nI v) = _
      by_cases q : v < m
      · rw [if_pos q, if_neg (nI_ge q (by omega))]
      · rw [if_neg q, if_pos (nI_le (by omega) (by omega))]
    | false =>
      rw [if_neg (show ¬ false = true by decide), if_neg (show ¬ false = true by decide)]
      show (if nI v ≤ nI m then nI m else nI v) = _
      by_cases q : m < v
      · rw [if_pos q, if_neg (nI_ge q (by omega))]
      · rw [if_neg q, if_pos (nI_le (by omega) (by omega))]
theorem kv_put_twice (V : kv_V) (r i a b : Nat) : kv_put (kv_put V r i a) r i b = kv_put V r i b := by
  unfold kv_put
  refine Prod.ext ?_ rfl
  funext x y
  dsimp only
  by_cases h : x = r
  · simp only [if_pos h]
    by_cases h2 : y = i
    · simp only [if_pos h2]
    · simp only [if_neg h2]
  · simp only [if_neg h]
theorem s_all_mask {V : kv_V} (hok : kv_ok V) (q : Nat → Bool) : z_mask q (V.1 5 3) = s_all V ↔ ∀ x, x < V.1 5 3 → q x = true := by
  have hv := hok.2.2.2.1
  constructor
  · intro h x hx
    have e : bt (z_mask q (V.1 5 3)) x = bt (s_all V) x := by rw [h]
    rw [z_mask_bt q _ (by omega) _ (by omega), s_all_bt hok (by omega), decide_eq_true hx, Bool.true_and] at e
    exact e
  · intro h
    apply b_ext
    intro i hi
    rw [z_mask_bt q _ (by omega) _ hi, s_all_bt hok hi]
    by_cases e : i < V.1 5 3
    · rw [decide_eq_true e, h i e]
      rfl
    · rw [decide_eq_false e]
      rfl
theorem s_wx_mask {q : Nat → Bool} {x v : Nat} (hx : x < v) (hv : v ≤ 32) : z_mask q v ||| ((1 : Int32) <<< (nI x &&& 31)) = z_mask (s_wx q x) v := by
  apply b_ext
  intro i hi
  rw [b_or, z_mask_bt q v hv i hi, z_mask_bt _ v hv i hi, bt_one (by omega) hi]
  unfold s_wx
  by_cases e : i = x
  · rw [decide_eq_true e, Bool.or_true, Bool.or_true, e, decide_eq_true hx]
    rfl
  · rw [decide_eq_false e, Bool.or_false, Bool.or_false]
theorem s_X5_lift {V : kv_V} (hok : kv_ok V) (k : Nat) : ∀ (n i turns t : Nat) (q : Nat → Bool) (N : kx_M), i + k = turns → k < n → turns ≤ 8 → t ≤ 20 → kv_M N (kv_put V 5 1 t) → f_X5_liftFrom n (nI i) (nI turns) (z_mask q (V.1 5 3)) N = some (nI (s_val k t (s_cA V q) (s_cD V q) (s_cS V q) (decide (i % 2 = 0))), N) := by
  have hv := hok.2.2.2.1
  induction k with
  | zero =>
    intro n i turns t q N h1 h2 h3 h4 hN
    cases n with
    | zero => exact absurd h2 (Nat.not_lt_zero _)
    | succ n =>
      have y3 : N.1 3 0 = nI t := hN.1.2.1.trans (by rw [kv_put_at])
      rw [f_X5_liftFrom.eq_2]
      unfold f_X5_liftFrom_b
      rw [if_pos (show nI i = nI turns by rw [show i = turns by omega]), z_ck2a, z_c0, y3]
      rfl
  | succ k ih =>
    intro n i turns t q N h1 h2 h3 h4 hN
    cases n with
    | zero => exact absurd h2 (Nat.not_lt_zero _)
    | succ n =>
      have hokt : kv_ok (kv_put V 5 1 t) := kv_ok_veil hok h4
      have y3 : N.1 3 0 = nI t := hN.1.2.1.trans (by rw [kv_put_at])
      have y4 : N.1 0 4 = nI (V.1 5 3) := hN.1.2.2.2.2
      have ya : f_X5_all N = s_all V := by
        have := s_X5_all hN
        exact this
      have ev : s_val (k + 1) t (s_cA V q) (s_cD V q) (s_cS V q) (decide (i % 2 = 0)) = if s_cA V q + s_cD V q + s_cS V q = 0 then t else (s_o2 (decide (i % 2 = 0)) (s_o2 (decide (i % 2 = 0)) (s_o1 (decide (i % 2 = 0)) (s_cA V q) (s_val k (s_up t) (s_cA V q - 1) (s_cD V q) (s_cS V q) (!decide (i % 2 = 0)))) (s_cD V q) (s_val k (t - 1) (s_cA V q) (s_cD V q - 1) (s_cS V q) (!decide (i % 2 = 0)))) (s_cS V q) (s_val k t (s_cA V q) (s_cD V q) (s_cS V q - 1) (!decide (i % 2 = 0)))).getD 0 := rfl
      rw [f_X5_liftFrom.eq_2]
      unfold f_X5_liftFrom_b
      rw [if_neg (show ¬ nI i = nI turns from fun z => by have := (nI_eq (by omega) (by omega)).mp z; omega), z_ck2a, z_ck2a, z_c0, y3, ya]
      by_cases hall : ∀ x, x < V.1 5 3 → q x = true
      · rw [if_pos ((s_all_mask hok q).mpr hall), ev, if_pos (Classical.byContradiction (fun z => by
          obtain ⟨x, hx, e⟩ := (s_left V q).mp (by omega)
          rw [hall x hx] at e
          cases e))]
      · rw [if_neg (fun z => hall ((s_all_mask hok q).mp z)), ev, if_neg (fun z => hall (fun x hx => by
          cases e : q x with
          | true => rfl
          | false => exact absurd ((s_left V q).mpr ⟨x, hx, e⟩) (by omega)))]
        have bA := s_best_all V k t q (decide (i % 2 = 0))
        generalize s_o2 (decide (i % 2 = 0)) (s_o2 (decide (i % 2 = 0)) (s_o1 (decide (i % 2 = 0)) (s_cA V q) (s_val k (s_up t) (s_cA V q - 1) (s_cD V q) (s_cS V q) (!decide (i % 2 = 0)))) (s_cD V q) (s_val k (t - 1) (s_cA V q) (s_cD V q - 1) (s_cS V q) (!decide (i % 2 = 0)))) (s_cS V q) (s_val k t (s_cA V q) (s_cD V q) (s_cS V q - 1) (!decide (i % 2 = 0))) = o3 at bA
        have ho0 : o20 none := fun m hm => by cases hm
        have hB0 : oB (decide (i % 2 = 0)) none (fun y => ∃ z, z < 0 ∧ q z = false ∧ y = s_ch V k t q (decide (i % 2 = 0)) z) := fun y z => by
          obtain ⟨w, hw, _⟩ := z
          exact absurd hw (Nat.not_lt_zero w)
        refine kz_rel (F := fun m x f => f_X5_liftFrom_34 (f_X5_liftFrom n) m (nI i) (nI turns) (z_mask q (V.1 5 3)) f (nI t) x N) (N := V.1 5 3) (fun x f => ∃ o, f = xm o ∧ o20 o ∧ oB (decide (i % 2 = 0)) o (fun y => ∃ z, z < x ∧ q z = false ∧ y = s_ch V k t q (decide (i % 2 = 0)) z)) (fun z => z = some (nI (o3.getD 0), N)) ?_ ?_ (V.1 5 3) 0 kx_fuel (-1 : Int32) (by omega) (kz_f _ (by omega)) ⟨none, rfl, ho0, hB0⟩
        · intro m f hP
          obtain ⟨o, rfl, _, hB⟩ := hP
          have eo := oB_one hB bA (fun y => Iff.rfl)
          rw [f_X5_liftFrom_34.eq_2, y4, if_pos (Int32.le_refl _), eo]
          cases o3 with
          | none =>
            refine absurd ?_ hall
            intro x hx
            cases e : q x with
            | true => rfl
            | false => exact absurd ⟨x, hx, e, rfl⟩ (bA _)
          | some w => rfl
        · intro m x f hx hP
          obtain ⟨o, rfl, ho, hB⟩ := hP
          rw [f_X5_liftFrom_34.eq_2, y4, if_neg (nI_ge hx (by omega)), z_has _ (show x < 32 by omega), z_mask_bt q _ (by omega) _ (by omega), decide_eq_true hx, Bool.true_and, nI_1]
          cases hq : q x with
          | true =>
            rw [if_pos rfl]
            refine Or.inr ⟨xm o, ⟨o, rfl, ho, oB_congr hB (fun y => ⟨fun ⟨z, z1, z2, z3⟩ => ⟨z, by omega, z2, z3⟩, fun ⟨z, z1, z2, z3⟩ => ⟨z, ?_, z2, z3⟩⟩)⟩, rfl⟩
            by_cases e : z = x
            · rw [e, hq] at z2
              cases z2
            · omega
          | false =>
            have yb : f_X5_veilBehind N ((1 : Int32) <<< (nI x &&& 31)) = some (nI (s_tv V t x)) := by
              rw [s_X5_behind hokt hN, kv_put_at]
              exact congrArg some (s_behind_one hv hx h4)
            have ht' := s_tv_20 V x h4
            have hN' : kv_M (kx_u1 N 3 0 (nI (s_tv V t x))) (kv_put V 5 1 (s_tv V t x)) := by
              have := kv_M_veil (w := s_tv V t x) hN
              rw [kv_put_twice] at this
              exact this
            have hrec := ih n (i + 1) turns (s_tv V t x) (s_wx q x) (kx_u1 N 3 0 (nI (s_tv V t x))) (by omega) (by omega) h3 ht' hN'
            have el : decide ((i + 1) % 2 = 0) = !decide (i % 2 = 0) := by
              by_cases e : i % 2 = 0
              · rw [decide_eq_true e, decide_eq_false (by omega)]
                rfl
              · rw [decide_eq_false e, decide_eq_true (by omega)]
                rfl
            rw [el] at hrec
            have ech : s_val k (s_tv V t x) (s_cA V (s_wx q x)) (s_cD V (s_wx q x)) (s_cS V (s_wx q x)) (!decide (i % 2 = 0)) = s_ch V k t q (decide (i % 2 = 0)) x := rfl
            rw [ech] at hrec
            have hch : s_ch V k t q (decide (i % 2 = 0)) x ≤ 20 := s_val_20 _ _ _ _ _ _ ht'
            have em : (nI i - nI i / (2 : Int32) * (2 : Int32) = 0) = (decide (i % 2 = 0) = true) := by
              have e := pk_rem (a := i) (d := 2) (by omega) (by omega) (by omega)
              have e2 : nI i - nI i / (2 : Int32) * (2 : Int32) = nI (i % 2) := e
              rw [e2, decide_eq_true_eq]
              exact propext (nI_eq (b := 0) (by omega) (by omega))
            rw [if_neg (show ¬ false = true by decide), yb, Option.bind_some, z_ck2a, z_c0, s_wx_mask hx (by omega), nI_1, hrec, kx_bd_ok, z_ck2a, kx_u1_twice, kx_u1_same y3]
            simp only [em]
            refine Or.inr ⟨xm (oc (decide (i % 2 = 0)) o (s_ch V k t q (decide (i % 2 = 0)) x)), ⟨_, rfl, oc_20 ho hch, oB_congr (oc_B hB) (fun y => ⟨fun z => ?_, fun z => ?_⟩)⟩, ?_⟩
            · rcases z with ⟨w, w1, w2, w3⟩ | z
              · exact ⟨w, by omega, w2, w3⟩
              · exact ⟨x, by omega, hq, z⟩
            · obtain ⟨w, w1, w2, w3⟩ := z
              by_cases e : w = x
              · exact Or.inr (by rw [← e]; exact w3)
              · exact Or.inl ⟨w, by omega, w2, w3⟩
            · rw [← xm_step ho hch]
              by_cases q1 : xm o = -1
              · rw [if_pos q1, if_pos q1]
              · rw [if_neg q1, if_neg q1]
                by_cases q2 : decide (i % 2 = 0) = true
                · rw [if_pos q2, if_pos q2]
                  split <;> rfl
                · rw [if_neg q2, if_neg q2]
                  split <;> rfl
theorem s_sum_left (V : kv_V) (q : Nat → Bool) : ∀ n, fb_ct (fun y => !q y && kv_asks V y) n + fb_ct (fun y => !q y && kv_kid V y) n + fb_ct (fun y => !q y && !(kv_asks V y || kv_kid V y)) n = fb_ct (fun y => !q y && true) n
  | 0 => rfl
  | n + 1 => by
    have ih := s_sum_left V q n
    rw [fb_ct_succ, fb_ct_succ, fb_ct_succ, fb_ct_succ]
    cases q n with
    | true =>
      simp only [Bool.not_true, Bool.false_and, Bool.false_eq_true, if_false, Nat.add_zero]
      exact ih
    | false =>
      simp only [Bool.not_false, Bool.true_and]
      cases ha : kv_asks V n with
      | true =>
        rw [s_excl ha]
        simp only [Bool.true_or, Bool.not_true, Bool.false_eq_true, if_false, if_true]
        omega
      | false =>
        cases kv_kid V n with
        | true =>
          simp only [Bool.false_or, Bool.not_true, Bool.false_eq_true, if_false, if_true]
          omega
        | false =>
          simp only [Bool.false_or, Bool.not_false, Bool.false_eq_true, if_false, if_true]
          omega
def q_0 : Nat → Bool := fun _ => false
theorem fb_ct_true : ∀ n, fb_ct (fun y => !q_0 y && true) n = n
  | 0 => rfl
  | n + 1 => by
    rw [fb_ct_succ, fb_ct_true n]
    rfl
theorem s_X4_first {Mx : kx_M} {V : kv_V} (hok : kv_ok V) (hX : kv_X Mx 1 V) {x n : Nat} (hx : x < V.1 5 3) (hn0 : 0 < n) (hn : n ≤ 4) : f_X4_veilIfFirst Mx (nI x) (nI n) = some (nI (s_ch V (n - 1) (V.1 5 1) q_0 true x)) := by
  have hv := hok.2.2.2.1
  have cnt : ∀ p : Nat → Bool, f_J6_bitCount_0f7a4 (z_mask p (V.1 5 3) &&& (((1 : Int32) <<< (nI x &&& 31)) ^^^ (-1 : Int32))) = nI (fb_ct (fun y => !s_wx q_0 x y && p y) (V.1 5 3)) := by
    intro p
    rw [Int32.and_comm, z_and_mask _ p (by omega), z_bcm _ _ hv]
    refine congrArg nI (fb_ct_cong (fun k hk => ?_))
    rw [z_not _ (show k < 32 by omega), bt_one (by omega) (by omega)]
    rfl
  have e1 := s_ct_wx V q_0 (fun _ => true) hx rfl
  rw [fb_ct_true, if_pos rfl] at e1
  have e2 := s_sum_left V (s_wx q_0 x) (V.1 5 3)
  have e3 : s_cA V (s_wx q_0 x) + s_cD V (s_wx q_0 x) + s_cS V (s_wx q_0 x) + 1 = V.1 5 3 := by
    unfold s_cA s_cD s_cS
    omega
  unfold f_X4_veilIfFirst kx_lt
  rw [hX.2.2.2.1, hX.2.2.2.2.1, hX.1.2.2.2.2, hX.1.2.1, cnt, cnt, s_X0_behind hok hX, s_behind_one hv hx hok.2.1]
  have a1 : fb_ct (fun y => !s_wx q_0 x y && kv_asks V y) (V.1 5 3) = s_cA V (s_wx q_0 x) := rfl
  have d1 : fb_ct (fun y => !s_wx q_0 x y && kv_kid V y) (V.1 5 3) = s_cD V (s_wx q_0 x) := rfl
  rw [a1, d1, nI_p1 hn0, nI_p1 (show 0 < V.1 5 3 by omega), nI_sub (by omega), nI_sub (by omega), show V.1 5 3 - 1 - s_cA V (s_wx q_0 x) - s_cD V (s_wx q_0 x) = s_cS V (s_wx q_0 x) by omega]
  dsimp only
  rw [s_X4_turns (n - 1) 8 _ _ _ _ _ (by omega) (s_tv_20 V x hok.2.1) (by omega) (by omega) (by omega) (by omega)]
  rfl
theorem kv_s_lift {Mx Mm : kx_M} (h : kv_Inv Mx Mm) (a b : Int32) : kv_Sim (f_X4_lift a b Mx) (f_X5_lift a b Mm) := by
  obtain ⟨V, hok, hX, hM, hR⟩ := id h
  have hv := hok.2.2.2.1
  have hMp : kv_M Mm (kv_put V 5 1 (V.1 5 1)) := by rw [kv_put_same]; exact hM
  have hz0 : z_mask q_0 (V.1 5 3) = 0 := by
    apply b_ext
    intro i hi
    rw [z_mask_bt _ _ (by omega) _ hi, b_0]
    exact Bool.and_false _
  unfold f_X4_lift f_X5_lift
  rw [kv_within, e_two]
  refine kv_Sim_if (fun h1 => kv_Sim_if (fun h2 => ?_) (fun _ => kv_Sim_no h)) (fun _ => kv_Sim_no h)
  obtain ⟨n, hn, rfl⟩ := z_in (n := 4) (by omega) h1
  have hbest := s_X5_lift hok n 8 0 n (V.1 5 1) q_0 Mm (by omega) (by omega) (by omega) hok.2.1 hMp
  rw [hz0, nI_0] at hbest
  rw [hbest, kx_bd_ok]
  have el : decide (0 % 2 = 0) = true := rfl
  rw [el]
  have hw := e_two_el h2
  by_cases hvn : n = 0 ∨ V.1 5 3 = 0
  · have ev : s_val n (V.1 5 1) (s_cA V q_0) (s_cD V q_0) (s_cS V q_0) true = V.1 5 1 := by
      cases n with
      | zero => rfl
      | succ k =>
        have v0 : V.1 5 3 = 0 := by omega
        show (if s_cA V q_0 + s_cD V q_0 + s_cS V q_0 = 0 then V.1 5 1 else _) = V.1 5 1
        refine if_pos ?_
        unfold s_cA s_cD s_cS
        rw [v0]
        rfl
    rw [ev]
    have hx1 : ∀ m, f_X4_lift_32 (m + 1) (nI n) b (-1 : Int32) (21 : Int32) (0 : Int32) Mx = some (if b = 0 then nI (V.1 5 1) else -1, Mx) := by
      intro m
      have e7 : f_X4_lift_77 b (-1 : Int32) (21 : Int32) Mx = some (if b = 0 then nI (V.1 5 1) else -1, Mx) := by
        unfold f_X4_lift_77
        rcases hw with rfl | rfl
        · rw [if_neg (show ¬ (0 : Int32) = 1 by decide), if_pos rfl, hX.1.2.1, if_pos rfl]
        · rw [if_pos rfl, if_neg (show ¬ (1 : Int32) = 0 by decide)]
      rw [f_X4_lift_32.eq_2, hX.1.2.2.2.2, e7]
      rcases hvn with e | e
      · rw [if_pos (show nI n ≤ (0 : Int32) by rw [e]; decide)]
        split <;> rfl
      · rw [if_pos (show nI (V.1 5 3) ≤ (0 : Int32) by rw [e]; decide)]
    have hm1 : ∀ m, f_X5_lift_50 (m + 1) (nI n) (nI (V.1 5 1)) (Mm.1 3 0) (0 : Int32) Mm = some (-1, Mm) := by
      intro m
      rw [f_X5_lift_50.eq_2, hM.1.2.2.2.2]
      rcases hvn with e | e
      · rw [if_pos (show nI n ≤ (0 : Int32) by rw [e]; decide)]
        split <;> rfl
      · rw [if_pos (show nI (V.1 5 3) ≤ (0 : Int32) by rw [e]; decide)]
    have q1 : f_X4_lift_32 kx_fuel (nI n) b (-1 : Int32) (21 : Int32) (0 : Int32) Mx = some (if b = 0 then nI (V.1 5 1) else -1, Mx) := hx1 4095
    have q2 : f_X5_lift_50 kx_fuel (nI n) (nI (V.1 5 1)) (Mm.1 3 0) (0 : Int32) Mm = some (-1, Mm) := hm1 4095
    rw [q1, z_ck2a, z_c0, q2]
    by_cases hb : b = 0
    · rw [if_pos hb, if_pos hb]
      exact kv_Sim_ret h _
    · rw [if_neg hb, if_neg hb]
      exact kv_Sim_ret h _
  · have hn0 : 0 < n := by omega
    have hv0 : 0 < V.1 5 3 := by omega
    have cc : ∃ c : Nat → Nat, c = s_ch V (n - 1) (V.1 5 1) q_0 true := ⟨_, rfl⟩
    obtain ⟨c, hc⟩ := cc
    have hc20 : ∀ x, c x ≤ 20 := fun x => by rw [hc]; exact s_val_20 _ _ _ _ _ _ (s_tv_20 V x hok.2.1)
    -- the least of all
    have hm : ∃ m, s_val n (V.1 5 1) (s_cA V q_0) (s_cD V q_0) (s_cS V q_0) true = m ∧ (∃ x, x < V.1 5 3 ∧ m = c x) ∧ ∀ x, x < V.1 5 3 → m ≤ c x := by
      have bA := s_best_all V (n - 1) (V.1 5 1) q_0 true
      rw [← hc] at bA
      have ev : s_val n (V.1 5 1) (s_cA V q_0) (s_cD V q_0) (s_cS V q_0) true = s_val (n - 1 + 1) (V.1 5 1) (s_cA V q_0) (s_cD V q_0) (s_cS V q_0) true := by rw [show n - 1 + 1 = n by omega]
      have ev2 : s_val (n - 1 + 1) (V.1 5 1) (s_cA V q_0) (s_cD V q_0) (s_cS V q_0) true = if s_cA V q_0 + s_cD V q_0 + s_cS V q_0 = 0 then V.1 5 1 else (s_o2 true (s_o2 true (s_o1 true (s_cA V q_0) (s_val (n - 1) (s_up (V.1 5 1)) (s_cA V q_0 - 1) (s_cD V q_0) (s_cS V q_0) (!true))) (s_cD V q_0) (s_val (n - 1) (V.1 5 1 - 1) (s_cA V q_0) (s_cD V q_0 - 1) (s_cS V q_0) (!true))) (s_cS V q_0) (s_val (n - 1) (V.1 5 1) (s_cA V q_0) (s_cD V q_0) (s_cS V q_0 - 1) (!true))).getD 0 := rfl
      have hl : ¬ s_cA V q_0 + s_cD V q_0 + s_cS V q_0 = 0 := by
        have := (s_left V q_0).mpr ⟨0, hv0, rfl⟩
        omega
      rw [ev, ev2, if_neg hl]
      generalize s_o2 true (s_o2 true (s_o1 true (s_cA V q_0) (s_val (n - 1) (s_up (V.1 5 1)) (s_cA V q_0 - 1) (s_cD V q_0) (s_cS V q_0) (!true))) (s_cD V q_0) (s_val (n - 1) (V.1 5 1 - 1) (s_cA V q_0) (s_cD V q_0 - 1) (s_cS V q_0) (!true))) (s_cS V q_0) (s_val (n - 1) (V.1 5 1) (s_cA V q_0) (s_cD V q_0) (s_cS V q_0 - 1) (!true)) = o3 at bA
      cases o3 with
      | none => exact absurd ⟨0, hv0, rfl, rfl⟩ (bA (c 0))
      | some m =>
        obtain ⟨⟨x, hx, _, e⟩, b2⟩ := bA
        refine ⟨m, rfl, ⟨x, hx, e⟩, fun z hz => ?_⟩
        have := b2 (c z) ⟨z, hz, rfl, rfl⟩
        rw [if_pos rfl] at this
        exact this
    obtain ⟨m, em, ⟨x0, hx0, e0⟩, hmin⟩ := hm
    rw [em]
    have hm20 : m ≤ 20 := by rw [e0]; exact hc20 x0
    -- the first of the least
    have hfirst : ∃ x, x < V.1 5 3 ∧ c x = m ∧ ∀ y, y < x → ¬ c y = m := by
      have : ∀ z, z < V.1 5 3 → c z = m → ∃ x, x < V.1 5 3 ∧ c x = m ∧ ∀ y, y < x → ¬ c y = m := by
        intro z
        induction z using Nat.strongRecOn with
        | ind z ih =>
          intro hz ez
          by_cases q : ∃ y, y < z ∧ c y = m
          · obtain ⟨y, hy, ey⟩ := q
            exact ih y hy (by omega) ey
          · exact ⟨z, hz, ez, fun y hy ey => q ⟨y, hy, ey⟩⟩
      exact this x0 hx0 e0.symm
    obtain ⟨xs, hxs, exs, hxf⟩ := hfirst
    have hx1 := kz_rel (F := fun k i (s : Int32 × Int32) => f_X4_lift_32 k (nI n) b s.1 s.2 i Mx) (N := V.1 5 3) (fun i s => (i = 0 ∧ s = ((-1 : Int32), (21 : Int32))) ∨ ∃ x, x < i ∧ x < V.1 5 3 ∧ s = (nI x, nI (c x)) ∧ (∀ y, y < i → c x ≤ c y) ∧ ∀ y, y < x → c x < c y) (fun z => z = some (if b = 0 then nI m else nI xs, Mx))
      (fun k s hP => by
        rcases hP with ⟨e, _⟩ | ⟨x, hx, hxv, rfl, p1, p2⟩
        · omega
        · have ex : x = xs := by
            have a1 := p1 xs hxs
            have a2 := hmin x hxv
            rcases Nat.lt_trichotomy x xs with q | q | q
            · exact absurd (show c x = m by omega) (hxf x q)
            · exact q
            · have := p2 xs q
              omega
          rw [f_X4_lift_32.eq_2, hX.1.2.2.2.2, if_pos (Int32.le_refl _)]
          unfold f_X4_lift_77
          dsimp only
          rw [ex, exs]
          rcases hw with rfl | rfl
          · rw [if_neg (show ¬ (0 : Int32) = 1 by decide), if_neg (show ¬ nI xs = (-1 : Int32) from fun z => (show ¬ (0 : Int32) ≤ -1 by decide) (z ▸ nI_pos' (by omega))), if_pos rfl]
          · rw [if_pos rfl, if_neg (show ¬ (1 : Int32) = 0 by decide)])
      (fun k i s hi hP => by
        have ef := s_X4_first hok hX hi hn0 hn
        rw [← hc] at ef
        have hci := hc20 i
        rw [f_X4_lift_32.eq_2, hX.1.2.2.2.2, if_neg (nI_ge hi (by omega)), if_neg (nI_nle hn0 (by omega)), ef, Option.bind_some, nI_1]
        rcases hP with ⟨e, rfl⟩ | ⟨x, hx, hxv, rfl, p1, p2⟩
        · rw [if_neg (show ¬ (21 : Int32) ≤ nI (c i) from nI_ge (b := 21) (by omega) (by omega))]
          exact Or.inr ⟨(nI i, nI (c i)), Or.inr ⟨i, by omega, hi, rfl, fun y hy => by rw [show y = i by omega]; exact Nat.le_refl _, fun y hy => absurd hy (by omega)⟩, rfl⟩
        · have hcx := hc20 x
          dsimp only
          by_cases q : c x ≤ c i
          · rw [if_pos (nI_le q (by omega))]
            refine Or.inr ⟨(nI x, nI (c x)), Or.inr ⟨x, by omega, hxv, rfl, fun y hy => ?_, p2⟩, rfl⟩
            by_cases ey : y = i
            · rw [ey]
              exact q
            · exact p1 y (by omega)
          · rw [if_neg (nI_ge (by omega) (by omega))]
            refine Or.inr ⟨(nI i, nI (c i)), Or.inr ⟨i, by omega, hi, rfl, fun y hy => ?_, fun y hy => ?_⟩, rfl⟩
            · by_cases ey : y = i
              · rw [ey]
                exact Nat.le_refl _
              · have := p1 y (by omega)
                omega
            · have := p1 y hy
              omega) (V.1 5 3) 0 kx_fuel ((-1 : Int32), (21 : Int32)) (by omega) (kz_f _ (by omega)) (Or.inl ⟨rfl, rfl⟩)
    refine kv_Sim_eq hx1 ?_ h
    by_cases hb : b = 0
    · rw [if_pos hb, if_pos hb]
    · rw [if_neg hb, if_neg hb, z_ck2a, z_c0]
      have := kz_firstG (F := fun k x => f_X5_lift_50 k (nI n) (nI m) (Mm.1 3 0) x Mm) (N := V.1 5 3) (p := fun x => decide (c x = m)) (fun r => some (r, Mm))
        (fun k => by
          rw [f_X5_lift_50.eq_2, hM.1.2.2.2.2]
          exact if_pos (Int32.le_refl _))
        (fun k x hx => by
          have hM' : kv_M (kx_u1 Mm 3 0 (nI (s_tv V (V.1 5 1) x))) (kv_put V 5 1 (s_tv V (V.1 5 1) x)) := kv_M_veil hM
          have e1 : (1 : Int32) <<< (nI x &&& 31) = z_mask (s_wx q_0 x) (V.1 5 3) := by
            have := s_wx_mask (q := q_0) hx (show V.1 5 3 ≤ 32 by omega)
            rw [hz0, Int32.zero_or] at this
            exact this
          have hr := s_X5_lift hok (n - 1) 8 1 n (s_tv V (V.1 5 1) x) (s_wx q_0 x) (kx_u1 Mm 3 0 (nI (s_tv V (V.1 5 1) x))) (by omega) (by omega) (by omega) (s_tv_20 V x hok.2.1) hM'
          rw [← e1] at hr
          have ec : s_val (n - 1) (s_tv V (V.1 5 1) x) (s_cA V (s_wx q_0 x)) (s_cD V (s_wx q_0 x)) (s_cS V (s_wx q_0 x)) (decide (1 % 2 = 0)) = c x := by rw [hc]; rfl
          rw [ec] at hr
          have hr2 : f_X5_liftFrom 8 (1 : Int32) (nI n) ((1 : Int32) <<< (nI x &&& 31)) (kx_u1 Mm 3 0 (nI (s_tv V (V.1 5 1) x))) = some (nI (c x), kx_u1 Mm 3 0 (nI (s_tv V (V.1 5 1) x))) := hr
          have hcx := hc20 x
          rw [f_X5_lift_50.eq_2, hM.1.2.2.2.2, if_neg (nI_ge hx (by omega)), if_neg (nI_nle hn0 (by omega)), s_X5_behind hok hM, s_behind_one hv hx hok.2.1, Option.bind_some, z_ck2a, z_c0, hr2, kx_bd_ok, z_ck2a, kx_u1_twice, kx_u1_self, nI_1]
          by_cases q : c x = m
          · rw [if_pos (congrArg nI q), if_pos (decide_eq_true q)]
          · rw [if_neg (fun z => q ((nI_eq (by omega) (by omega)).mp z)), if_neg (fun z => q (of_decide_eq_true z))]) (V.1 5 3) 0 kx_fuel (by omega) (kz_f _ (by omega))
      rw [s_fst_hit _ (V.1 5 3) 0 xs (by omega) (by omega) (fun j _ hj => decide_eq_false (hxf j hj)) (decide_eq_true exs)] at this
      exact this
