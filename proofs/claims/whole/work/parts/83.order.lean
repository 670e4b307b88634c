/-! order: both try all orders, one behind the other -/
theorem kz_rel2 {α β γ δ : Type} {F : Nat → Int32 → α → Option γ} {G : Nat → Int32 → β → Option δ} {N : Nat} (P : Nat → α → β → Prop) (Q : Option γ → Option δ → Prop) (hx : ∀ n m a b, P N a b → Q (F (n + 1) (nI N) a) (G (m + 1) (nI N) b)) (hs : ∀ n m i a b, i < N → P i a b → ∃ a' b', P (i + 1) a' b' ∧ F (n + 1) (nI i) a = F n (nI (i + 1)) a' ∧ G (m + 1) (nI i) b = G m (nI (i + 1)) b') : ∀ (k i n m : Nat) (a : α) (b : β), i + k = N → k < n → k < m → P i a b → Q (F n (nI i) a) (G m (nI i) b)
  | 0, i, 0, m, a, b, _, h, _, _ => absurd h (Nat.not_lt_zero _)
  | k + 1, i, 0, m, a, b, _, h, _, _ => absurd h (Nat.not_lt_zero _)
  | 0, i, n + 1, 0, a, b, _, _, h, _ => absurd h (Nat.not_lt_zero _)
  | k + 1, i, n + 1, 0, a, b, _, _, h, _ => absurd h (Nat.not_lt_zero _)
  | 0, i, n + 1, m + 1, a, b, h, _, _, hp => by
    have : i = N := by omega
    subst this
    exact hx n m a b hp
  | k + 1, i, n + 1, m + 1, a, b, h, hn, hm, hp => by
    obtain ⟨a', b', h1, h2, h3⟩ := hs n m i a b (by omega) hp
    rw [h2, h3]
    exact kz_rel2 P Q hx hs k (i + 1) n m a' b' (by omega) (by omega) (by omega) h1
/-- the same view but for veil, day and what was seen -/
def s_like (W V : kv_V) : Prop := ∀ a b, ¬ (a = 5 ∧ (b = 1 ∨ b = 2)) → W.1 a b = V.1 a b
theorem s_like_shown {W V : kv_V} (h : s_like W V) {x : Nat} (hx : W.2.1 x = V.2.1 x) (g t : Int32) : s_shown W x g t = s_shown V x g t := by
  have ea : kv_asks W = kv_asks V := by
    funext y
    unfold kv_asks
    rw [h 2 y (by omega)]
  have ek : kv_kid W = kv_kid V := by
    funext y
    unfold kv_kid
    rw [h 2 y (by omega)]
  have es : ∀ a, s_mask W a = s_mask V a := fun a => by
    unfold s_mask
    rw [h 5 0 (by omega)]
    exact z_mask_congr (fun i _ => by rw [h 0 i (by omega)])
  unfold s_shown
  rw [es]
  unfold s_open
  rw [ea, ek, hx, h 3 x (by omega), h 2 x (by omega), h 4 x (by omega), h 5 3 (by omega)]
theorem s_like_behind {W V : kv_V} (h : s_like W V) (g t : Int32) : s_behind W g t = s_behind V g t := by
  have ea : kv_asks W = kv_asks V := by
    funext y
    unfold kv_asks
    rw [h 2 y (by omega)]
  have ek : kv_kid W = kv_kid V := by
    funext y
    unfold kv_kid
    rw [h 2 y (by omega)]
  unfold s_behind
  rw [ea, ek, h 5 3 (by omega)]
theorem s_like_go {W V : kv_V} (h : s_like W V) (g : Int32) : s_like (s_go W g) V := by
  intro a b hab
  rw [← h a b hab]
  unfold s_go
  by_cases ha : a = 5
  · have hb : ¬ (b = 1 ∨ b = 2) := fun z => hab ⟨ha, z⟩
    rw [kv_put_ni (by omega), kv_put_ni (by omega)]
    rfl
  · rw [kv_put_nr ha, kv_put_nr ha]
    rfl
theorem s_like_lg (V : kv_V) (e : Nat → Int32) : ∀ i, s_like (s_lg V e i) V
  | 0 => fun _ _ _ => rfl
  | i + 1 => s_like_go (s_like_lg V e i) (e i)
theorem s_lg_congr {V : kv_V} {e e' : Nat → Int32} : ∀ {i : Nat}, (∀ k, k < i → e k = e' k) → s_lg V e i = s_lg V e' i
  | 0, _ => rfl
  | i + 1, h => by
    show s_go (s_lg V e i) (e i) = s_go (s_lg V e' i) (e' i)
    rw [s_lg_congr (fun k hk => h k (by omega)), h i (by omega)]
def s_ec (tr : Nat → Nat) : Nat → Int32 := fun k => (1 : Int32) <<< (nI (tr k) &&& 31)
theorem s_any_one {V : kv_V} {x : Nat} (hx : x < V.1 5 3) (hv : V.1 5 3 ≤ 8) (t : Int32) : s_any V ((1 : Int32) <<< (nI x &&& 31)) t = s_shown V x ((1 : Int32) <<< (nI x &&& 31)) t := by
  apply b_ext
  intro c hc
  unfold s_any
  rw [Bool.eq_iff_iff, z_any_bt (fun y => bt ((1 : Int32) <<< (nI x &&& 31)) y) (fun y => s_shown V y ((1 : Int32) <<< (nI x &&& 31)) t) c]
  constructor
  · rintro ⟨y, h1, h2, h3⟩
    rw [bt_one (by omega) (by omega), decide_eq_true_eq] at h2
    rw [h2] at h3
    exact h3
  · intro h
    exact ⟨x, hx, by rw [bt_one (by omega) (by omega), decide_eq_true rfl], h⟩
/-- both at the same place -/
def oR (V : kv_V) (Mx Mm : kx_M) (c i : Nat) (tr : Nat → Nat) (A B : kx_M) : Prop := (∀ r, ¬ (44 ≤ r ∧ r ≤ 46) → A.1 r = Mx.1 r) ∧ A.2 = Mx.2 ∧ kv_M B V ∧ frM Mm B ∧ A.1 44 1 = B.1 0 27 ∧ (∀ k, k < i → A.1 46 k = nI (tr k) ∧ B.1 17 k = nI (tr k)) ∧ (A.1 44 1 = -1 ∨ ∀ k, k < c → A.1 45 k = B.1 18 k)
theorem z_cg6 {α : Type} {k : Option α} : kx_cg 6 6 (0 : Int32) (0 : Int32) (6 : Int32) k = k := if_pos (by decide)
theorem z_bcn (x : Int32) : ¬ f_J6_bitCount_0f7a4 x = -1 := by
  obtain ⟨m, hm, e⟩ := z_bcR x
  rw [e]
  exact fun z => (show ¬ (0 : Int32) ≤ -1 by decide) (z ▸ nI_pos' (by omega))
theorem s_order_leaf {V : kv_V} {Mx Mm A B : kx_M} {c : Nat} {tr : Nat → Nat} {rec : Int32 → Int32 → kx_M → Option kx_M} (hok : kv_ok V) (hc : c ≤ 6) (htr : ∀ k, k < c → tr k < V.1 5 3) (h : oR V Mx Mm c c tr A B) : ∃ A' B', f_X1_compare (f_J6_bitCount_0f7a4 (s_kn (s_lg V (s_ec tr) c))) A = some A' ∧ ((f_X5_keep 15 B).bind fun M4 => f_X5_orders_14 rec kx_fuel (nI c) (0 : Int32) M4) = some B' ∧ oR V Mx Mm c c tr A' B' ∧ ¬ A'.1 44 1 = -1 := by
  obtain ⟨a1, a2, b1, b2, e1, e2, e3⟩ := h
  obtain ⟨f, t1, t2⟩ := kv_keep (w := 15) (by omega) b1
  rw [t1, Option.bind_some]
  have cmp : ∃ w : Int32, w = f_J6_bitCount_0f7a4 (s_kn (s_lg V (s_ec tr) c)) := ⟨_, rfl⟩
  obtain ⟨w, hw⟩ := cmp
  have hw1 : ¬ w = -1 := by rw [hw]; exact z_bcn _
  have hw0 : (0 : Int32) ≤ w := by
    rw [hw]
    obtain ⟨m, hm, e⟩ := z_bcR (s_kn (s_lg V (s_ec tr) c))
    rw [e]
    exact nI_pos' (by omega)
  rw [← hw]
  have hB : ∃ B', f_X5_orders_14 rec kx_fuel (nI c) (nI 0) (kz_set B 15 f) = some B' ∧ kv_M B' V ∧ frM Mm B' ∧ B'.1 17 = B.1 17 ∧ B'.1 0 27 = (if w ≤ B.1 0 27 then B.1 0 27 else w) ∧ (∀ k, B'.1 18 k = if w ≤ B.1 0 27 then B.1 18 k else if k < c then B.1 17 k else B.1 18 k) := by
    refine kz_rel (F := fun m k N => f_X5_orders_14 rec m (nI c) k N) (N := c) (fun k N => N.1 15 = f ∧ frM Mm N ∧ kv_M N (s_lg V (s_ec tr) k) ∧ (∀ r, ¬ r = 3 → ¬ r = 7 → ¬ r = 15 → ¬ r = 16 → N.1 r = B.1 r)) (fun z => ∃ B', z = some B' ∧ kv_M B' V ∧ frM Mm B' ∧ B'.1 17 = B.1 17 ∧ B'.1 0 27 = (if w ≤ B.1 0 27 then B.1 0 27 else w) ∧ (∀ k, B'.1 18 k = if w ≤ B.1 0 27 then B.1 18 k else if k < c then B.1 17 k else B.1 18 k)) ?_ ?_ c 0 kx_fuel (kz_set B 15 f) (by omega) (kz_f _ (by omega)) ⟨kz_set_same, frM_trans b2 (frM_set (by omega)), kv_M_set (by omega) b1, fun r h1 h2 h3 h4 => kz_set_ne h3⟩
    · intro m N hP
      obtain ⟨p1, p2, p3, p4⟩ := hP
      obtain ⟨M', u1, u2, u3, u4, u5⟩ := kv_M_again t2 p1 p2
      have y27 : M'.1 0 27 = B.1 0 27 := by rw [u5 27 (by omega) (by omega) (by omega), p4 0 (by omega) (by omega) (by omega) (by omega)]
      have y17 : M'.1 17 = B.1 17 := by rw [u4 17 (by omega), p4 17 (by omega) (by omega) (by omega) (by omega)]
      have y18 : M'.1 18 = B.1 18 := by rw [u4 18 (by omega), p4 18 (by omega) (by omega) (by omega) (by omega)]
      have ekn : f_J6_bitCount_0f7a4 (s_known (s_lg V (s_ec tr) c) (s_all (s_lg V (s_ec tr) c))) = w := hw.symm
      rw [f_X5_orders_14.eq_2, if_pos (Int32.le_refl _), s_X5_all p3, s_X5_known (kv_ok_lg hok _ c) p3, u1, Option.bind_some, Option.bind_some, ekn, y27, z_flip]
      by_cases q : w ≤ B.1 0 27
      · rw [if_pos q, if_pos q]
        exact ⟨M', rfl, u2, u3, y17, y27, fun k => by rw [if_pos q, y18]⟩
      · rw [if_neg q, if_neg q]
        have cp := kz_loop (F := fun m k N => f_X5_orders_74 rec m (nI c) k N) (N := c) (st := fun k N => kx_u1 N 18 k (B.1 17 k)) (k := fun N => some N) (fun k N => (∀ r, ¬ r = 18 → N.1 r = (kx_u1 M' 0 27 w).1 r) ∧ (∀ j, N.1 18 j = if j < k then B.1 17 j else B.1 18 j) ∧ N.2 = M'.2)
          (fun m N _ => by
            rw [f_X5_orders_74.eq_2]
            exact if_pos (Int32.le_refl _))
          (fun m k N hk hP => by
            have yy : N.1 17 k = B.1 17 k := by rw [hP.1 17 (by omega), kx_u1_ne (by omega), y17]
            rw [f_X5_orders_74.eq_2, if_neg (nI_ge hk (by omega)), z_ck (show k < 6 by omega) (by decide), z_ck (show k < 6 by omega) (by decide), nI_clamp (by omega), yy, nI_1])
          (fun k N hk hP => by
            obtain ⟨q1, q2, q3⟩ := hP
            refine ⟨fun r hr => by rw [kx_u1_ne hr]; exact q1 r hr, fun j => ?_, q3⟩
            show (if 18 = 18 ∧ j = k then B.1 17 k else N.1 18 j) = _
            by_cases ej : j = k
            · rw [if_pos ⟨rfl, ej⟩, if_pos (by omega), ej]
            · rw [if_neg (fun z => ej z.2), q2 j]
              by_cases e5 : j < k
              · rw [if_pos e5, if_pos (by omega)]
              · rw [if_neg e5, if_neg (by omega)]) c 0 (kx_u1 M' 0 27 w) kx_fuel (by omega) (kz_f _ (by omega)) ⟨fun _ _ => rfl, fun j => by rw [if_neg (Nat.not_lt_zero j), kx_u1_ne (by omega), y18], rfl⟩
        obtain ⟨c1, c2, c3, c4⟩ := cp
        have c1' : f_X5_orders_74 rec kx_fuel (nI c) (0 : Int32) (kx_u1 M' 0 27 w) = _ := c1
        rw [c1']
        have fr1 : frM Mm (kx_u1 M' 0 27 w) := frM_trans u3 (frM_0 (by omega))
        refine ⟨_, rfl, ?_, ?_, ?_, ?_, fun k => ?_⟩
        · refine kv_M_of ?_ ?_ ?_ (fun j h1 h2 => ?_) u2
          · rw [c2 0 (by omega)]; exact kv_u1_no (by omega)
          · rw [c2 0 (by omega)]; exact kv_u1_no (by omega)
          · rw [c2 0 (by omega)]; exact kv_u1_no (by omega)
          · rw [c2 j (by omega)]; exact kx_u1_ne (by omega)
        · exact frM_trans fr1 ⟨fun r h1 h2 => c2 r (by omega), by rw [c2 0 (by omega)], by rw [c2 0 (by omega)], c4⟩
        · rw [c2 17 (by omega), kx_u1_ne (by omega), y17]
        · rw [c2 0 (by omega), kv_u1_at]
        · rw [c3 k, if_neg q]
    · intro m k N hk hP
      obtain ⟨p1, p2, p3, p4⟩ := hP
      have y17 : N.1 17 k = nI (tr k) := by rw [p4 17 (by omega) (by omega) (by omega) (by omega)]; exact (e2 k hk).2
      obtain ⟨N', u1, u2, u3, u4⟩ := s_X5_go (kv_ok_lg hok (s_ec tr) k) p3 (s_ec tr k)
      have u1' : f_X5_goes ((1 : Int32) <<< (nI (tr k) &&& 31)) N = some N' := u1
      refine Or.inr ⟨N', ⟨by rw [u3 15 (by omega) (by omega) (by omega)]; exact p1, frM_trans p2 (frM_go u3 u4), u2, fun r h1 h2 h3 h4 => by rw [u3 r h1 h2 h4]; exact p4 r h1 h2 h3 h4⟩, ?_⟩
      rw [f_X5_orders_14.eq_2, if_neg (nI_ge hk (by omega)), z_ck (show k < 6 by omega) (by decide), nI_clamp (by omega), y17, u1', Option.bind_some, nI_1]
  obtain ⟨B', h1, h2, h3, h4, h5, h6⟩ := hB
  have h1' : f_X5_orders_14 rec kx_fuel (nI c) (0 : Int32) (kz_set B 15 f) = some B' := h1
  rw [h1']
  unfold f_X1_compare
  rw [e1]
  by_cases q : w ≤ B.1 0 27
  · rw [if_pos q]
    rw [if_pos q] at h5
    refine ⟨A, B', rfl, rfl, ⟨a1, a2, h2, h3, by rw [h5]; exact e1, fun k hk => by rw [h4]; exact e2 k hk, ?_⟩, ?_⟩
    · rcases e3 with e3 | e3
      · exact Or.inl e3
      · exact Or.inr (fun k hk => by rw [h6, if_pos q]; exact e3 k hk)
    · intro z
      rw [e1] at z
      rw [z] at q
      exact (show ¬ (0 : Int32) ≤ -1 by decide) (Int32.le_trans hw0 q)
  · rw [if_neg q, z_cg6]
    rw [if_neg q] at h5
    unfold kx_lt
    have cz : ∀ k, k < 6 → (kx_c1 (kx_u1 A 44 1 w) 46 45 (0 : Int32).toNatClampNeg (0 : Int32).toNatClampNeg (6 : Int32).toNatClampNeg).1 45 k = A.1 46 k := fun k hk => by
      rw [z_c1at rfl hk, kx_u1_ne (by omega)]
    have y44 : (kx_c1 (kx_u1 A 44 1 w) 46 45 (0 : Int32).toNatClampNeg (0 : Int32).toNatClampNeg (6 : Int32).toNatClampNeg).1 44 1 = w := by
      rw [z_c1ne (by omega), kv_u1_at]
    refine ⟨_, B', rfl, rfl, ⟨fun r hr => ?_, ?_, h2, h3, by rw [y44, h5], fun k hk => ?_, Or.inr (fun k hk => ?_)⟩, by rw [y44]; exact hw1⟩
    · rw [z_c1ne (by omega), kx_u1_ne (by omega)]
      exact a1 r hr
    · exact a2
    · rw [z_c1ne (by omega), kx_u1_ne (by omega), h4]
      exact e2 k hk
    · rw [cz k (by omega), h6, if_neg q, if_pos hk, (e2 k hk).1, (e2 k hk).2]
theorem s_order {V : kv_V} {Mx Mm : kx_M} {c : Nat} (hok : kv_ok V) (hX : kv_X Mx 1 V) (hc : c ≤ 6) (d : Nat) : ∀ (n i : Nat) (left : Int32) (tr : Nat → Nat) (A B : kx_M), d < n → fb_ct (fun y => bt left y) (V.1 5 3) = d → (∀ y, V.1 5 3 ≤ y → y < 32 → bt left y = false) → i + d = c → (∀ k, k < i → tr k < V.1 5 3) → oR V Mx Mm c i tr A B → (∀ y, y < V.1 5 3 → bt left y = true → (s_lg V (s_ec tr) i).2.1 y = V.2.1 y) → ∃ A' B', f_X1_goOn 1 n left (s_kn (s_lg V (s_ec tr) i)) (nI ((s_lg V (s_ec tr) i).1 5 1)) (nI i) A = some A' ∧ f_X5_orders n (nI i) left B = some B' ∧ oR V Mx Mm c i tr A' B' ∧ ¬ A'.1 44 1 = -1 := by
  have hv := hok.2.2.2.1
  induction d with
  | zero =>
    intro n i left tr A B hn hct hhi hic htr hR hun
    cases n with
    | zero => exact absurd hn (Nat.not_lt_zero _)
    | succ n =>
      have el : left = 0 := by
        apply b_ext
        intro y hy
        rw [b_0]
        by_cases e : y < V.1 5 3
        · exact (fb_ct_zero.mp hct) y e
        · exact hhi y (by omega) hy
      have hi : i = c := by omega
      subst hi
      rw [f_X1_goOn.eq_2, f_X5_orders.eq_2]
      unfold f_X1_goOn_b f_X5_orders_b
      rw [if_pos el, if_pos el]
      obtain ⟨A', B', g1, g2, g3, g4⟩ := s_order_leaf (rec := f_X5_orders n) hok hc htr hR
      rw [g1, g2]
      exact ⟨A', B', rfl, rfl, g3, g4⟩
  | succ d ih =>
    intro n i left tr A B hn hct hhi hic htr hR hun
    cases n with
    | zero => exact absurd hn (Nat.not_lt_zero _)
    | succ n =>
      have hne : ¬ left = 0 := by
        intro z
        have : 0 < fb_ct (fun y => bt left y) (V.1 5 3) := by omega
        obtain ⟨y, _, e⟩ := fb_ct_pos.mp this
        rw [z, b_0] at e
        cases e
      obtain ⟨y0, hy0, ey0⟩ := fb_ct_pos.mp (show 0 < fb_ct (fun y => bt left y) (V.1 5 3) by omega)
      rw [f_X1_goOn.eq_2, f_X5_orders.eq_2]
      unfold f_X1_goOn_b f_X5_orders_b
      rw [if_neg hne, if_neg hne, if_pos (show nI i < (6 : Int32) from nI_lt (b := 6) (by omega) (by omega))]
      have WW : ∃ W : kv_V, W = s_lg V (s_ec tr) i := ⟨_, rfl⟩
      obtain ⟨W, hW⟩ := WW
      rw [← hW] at hun ⊢
      have hokW : kv_ok W := by rw [hW]; exact kv_ok_lg hok _ i
      have hlike : s_like W V := by rw [hW]; exact s_like_lg V _ i
      refine kz_rel2 (F := fun m x N => f_X1_goOn_23 1 (f_X1_goOn 1 n) m left (s_kn W) (nI (W.1 5 1)) (nI i) x N) (G := fun m x N => f_X5_orders_103 (f_X5_orders n) m (nI i) left x N) (N := V.1 5 3) (fun x A B => oR V Mx Mm c i tr A B ∧ ((∃ y, y < x ∧ bt left y = true) → ¬ A.1 44 1 = -1)) (fun z1 z2 => ∃ A' B', z1 = some A' ∧ z2 = some B' ∧ oR V Mx Mm c i tr A' B' ∧ ¬ A'.1 44 1 = -1) ?_ ?_ (V.1 5 3) 0 kx_fuel kx_fuel A B (by omega) (kz_f _ (by omega)) (kz_f _ (by omega)) ⟨hR, fun z => by obtain ⟨y, hy, _⟩ := z; exact absurd hy (Nat.not_lt_zero y)⟩
      · intro m k A B hP
        obtain ⟨hR, hl⟩ := hP
        have y11 : A.1 1 11 = nI (V.1 5 3) := by rw [hR.1 1 (by omega)]; exact hX.1.2.2.2.2
        have y4 : B.1 0 4 = nI (V.1 5 3) := hR.2.2.1.1.2.2.2.2
        refine ⟨A, B, ?_, ?_, hR, hl ⟨y0, hy0, ey0⟩⟩
        · rw [f_X1_goOn_23.eq_2, y11]
          exact if_pos (Int32.le_refl _)
        · rw [f_X5_orders_103.eq_2, y4]
          exact if_pos (Int32.le_refl _)
      · intro m k x A B hx hP
        obtain ⟨hR, hl⟩ := hP
        have y11 : A.1 1 11 = nI (V.1 5 3) := by rw [hR.1 1 (by omega)]; exact hX.1.2.2.2.2
        have y4 : B.1 0 4 = nI (V.1 5 3) := hR.2.2.1.1.2.2.2.2
        rw [f_X1_goOn_23.eq_2, f_X5_orders_103.eq_2, y11, y4, if_neg (nI_ge hx (by omega)), if_neg (nI_ge hx (by omega)), z_isIn left (by omega), z_has left (by omega), nI_1, nI_1]
        by_cases hb : bt left x = true
        · rw [if_pos hb, if_pos hb]
          have TT : ∃ tr' : Nat → Nat, tr' = fun k => if k = i then x else tr k := ⟨_, rfl⟩
          obtain ⟨tr', htr'⟩ := TT
          have tri : tr' i = x := by rw [htr']; exact if_pos rfl
          have trk : ∀ k, k < i → tr' k = tr k := fun k hk => by rw [htr']; exact if_neg (by omega)
          have eW : s_lg V (s_ec tr') (i + 1) = s_go W ((1 : Int32) <<< (nI x &&& 31)) := by
            show s_go (s_lg V (s_ec tr') i) (s_ec tr' i) = _
            have e1 : s_lg V (s_ec tr') i = W := by
              rw [hW]
              exact s_lg_congr (fun k hk => by unfold s_ec; rw [trk k hk])
            have e2 : s_ec tr' i = (1 : Int32) <<< (nI x &&& 31) := by unfold s_ec; rw [tri]
            rw [e1, e2]
          have kx1 : kv_X (kx_u1 A 46 i (nI x)) 1 V := kv_X_of (fun j hj => by rw [kx_u1_ne (by omega), hR.1 _ (by omega)]) hX
          have sh := s_X0_alone hok kx1 hx (nI (W.1 5 1))
          have bh := s_X0_behind hok kx1 ((1 : Int32) <<< (nI x &&& 31)) (nI (W.1 5 1))
          have wv3 : W.1 5 3 = V.1 5 3 := hlike 5 3 (by omega)
          have ekn : s_kn W ||| s_shown V x ((1 : Int32) <<< (nI x &&& 31)) (nI (W.1 5 1)) = s_kn (s_lg V (s_ec tr') (i + 1)) := by
            rw [eW, s_kn_go hokW, s_any_one (by omega) (by omega), s_like_shown hlike (hun x hx hb)]
          have evl : s_behind V ((1 : Int32) <<< (nI x &&& 31)) (nI (W.1 5 1)) = nI ((s_lg V (s_ec tr') (i + 1)).1 5 1) := by
            rw [eW, s_go_veil, s_like_behind hlike]
          have ctl : fb_ct (fun y => bt (left &&& (((1 : Int32) <<< (nI x &&& 31)) ^^^ (-1 : Int32))) y) (V.1 5 3) = d := by
            have h1 := fb_ct_upd (fun y => bt left y) false hx
            have h2 : fb_ct (fun y => bt (left &&& (((1 : Int32) <<< (nI x &&& 31)) ^^^ (-1 : Int32))) y) (V.1 5 3) = fb_ct (fun k => if k = x then false else bt left k) (V.1 5 3) := fb_ct_cong (fun k hk => by
              rw [z_rest left (by omega) (by omega)]
              by_cases e : k = x
              · rw [if_pos e, decide_eq_true e]
                exact Bool.and_false _
              · rw [if_neg e, decide_eq_false e]
                exact Bool.and_true _)
            rw [if_pos hb] at h1
            simp only [Bool.false_eq_true, if_false, Nat.add_zero] at h1
            omega
          have hR1 : oR V Mx Mm c (i + 1) tr' (kx_u1 A 46 i (nI x)) (kx_u1 B 17 i (nI x)) := by
            obtain ⟨a1, a2, b1, b2, e1, e2, e3⟩ := hR
            refine ⟨fun r hr => by rw [kx_u1_ne (by omega)]; exact a1 r hr, a2, kv_M_of (by rw [kx_u1_ne (by omega)]) (by rw [kx_u1_ne (by omega)]) (by rw [kx_u1_ne (by omega)]) (fun j h1 h2 => kx_u1_ne (by omega)) b1, frM_trans b2 (frM_u1 (by omega)), ?_, fun k hk => ?_, ?_⟩
            · rw [kx_u1_ne (by omega), kx_u1_ne (by omega)]
              exact e1
            · by_cases e : k = i
              · rw [e, kv_u1_at, kv_u1_at, tri]
                exact ⟨rfl, rfl⟩
              · rw [kv_u1_no (fun z => e z.2), kv_u1_no (fun z => e z.2), trk k (by omega)]
                exact e2 k (by omega)
            · rw [kx_u1_ne (show ¬ 44 = 46 by omega), kx_u1_ne (show ¬ 45 = 46 by omega), kx_u1_ne (show ¬ 18 = 17 by omega)]
              exact e3
          obtain ⟨A', B', g1, g2, g3, g4⟩ := ih n (i + 1) (left &&& (((1 : Int32) <<< (nI x &&& 31)) ^^^ (-1 : Int32))) tr' (kx_u1 A 46 i (nI x)) (kx_u1 B 17 i (nI x)) (by omega) ctl (fun y h1 h2 => by rw [z_rest left (by omega) h2, hhi y h1 h2]; rfl) (by omega) (fun k hk => by
            by_cases e : k = i
            · rw [e, tri]
              exact hx
            · rw [trk k (by omega)]
              exact htr k (by omega)) hR1 (fun y hy h1 => by
            rw [z_rest left (by omega) (by omega), Bool.and_eq_true] at h1
            rw [eW, s_go_see]
            unfold s_gf
            rw [if_neg (fun z => by
              rw [bt_one (by omega) (by omega)] at z
              rw [z.2] at h1
              exact absurd h1.2 (by decide))]
            exact hun y hy h1.1)
          refine ⟨A', B', ⟨?_, fun _ => g4⟩, ?_, ?_⟩
          · obtain ⟨a1, a2, b1, b2, e1, e2, e3⟩ := g3
            exact ⟨a1, a2, b1, b2, e1, fun k hk => by rw [← trk k hk]; exact e2 k (by omega), e3⟩
          · rw [z_ck (show i < 6 by omega) (by decide), nI_clamp (by omega), sh, Option.bind_some, bh, ekn, evl, g1, Option.bind_some]
          · rw [z_ck (show i < 6 by omega) (by decide), nI_clamp (by omega), g2, Option.bind_some]
        · rw [if_neg hb, if_neg hb]
          refine ⟨A, B, ⟨hR, fun z => ?_⟩, rfl, rfl⟩
          obtain ⟨y, h1, h2⟩ := z
          refine hl ⟨y, ?_, h2⟩
          by_cases e : y = x
          · rw [e] at h2
            exact absurd h2 hb
          · omega
theorem kv_s_order {Mx Mm : kx_M} (h : kv_Inv Mx Mm) (a b : Int32) : kv_Sim (f_X4_order a b Mx) (f_X5_order a b Mm) := by
  obtain ⟨V, hok, hX, hM, hR⟩ := id h
  have hv := hok.2.2.2.1
  unfold f_X4_order f_X5_order
  rw [e_X0_G hX, e_X5_G hM]
  refine kv_Sim_if (fun h1 => ?_) (fun _ => kv_Sim_no h)
  obtain ⟨g, hg, rfl⟩ := g_G_el hok h1
  have ec : f_J6_bitCount_0f7a4 (nI g) = nI (fb_ct (fun x => bt (nI g) x) (V.1 5 3)) := by
    have := z_bcm (fun x => bt (nI g) x) (V.1 5 3) hv
    rw [z_group hg (by omega)] at this
    exact this
  have hcl := fb_ct_le (fun x => bt (nI g) x) (V.1 5 3)
  have cc : ∃ c, c = fb_ct (fun x => bt (nI g) x) (V.1 5 3) := ⟨_, rfl⟩
  obtain ⟨c, hcc⟩ := cc
  rw [ec, ← hcc]
  refine kv_Sim_if (fun _ => kv_Sim_no h) (fun h6 => kv_Sim_if (fun hm1 => kv_Sim_if (fun hlt => ?_) (fun _ => kv_Sim_stuck h)) (fun _ => kv_Sim_no h))
  have hc6 : c ≤ 6 := (nI_leI (b := 6) (by omega) (by omega)).mp (Int32.not_lt.mp h6)
  have hhi : ∀ y, V.1 5 3 ≤ y → y < 32 → bt (nI g) y = false := fun y h1 h2 => by
    rw [bt_nI g h2, Nat.testBit_lt_two_pow (Nat.lt_of_lt_of_le hg (Nat.pow_le_pow_right (by omega) h1))]
  have y8 : (kx_u1 Mx 44 1 (-1)).1 1 8 = nI (V.1 5 1) := by rw [kx_u1_ne (by omega)]; exact hX.1.2.1
  have X1 : kv_X (kx_u1 Mx 44 1 (-1)) 1 V := kv_X_of (fun j hj => kx_u1_ne (by omega)) hX
  have hR0 : oR V Mx Mm c 0 (fun _ => 0) (kx_u1 Mx 44 1 (-1)) (kx_u1 Mm 0 27 (-1)) := by
    refine ⟨fun r hr => kx_u1_ne (by omega), rfl, kv_M_of (kv_u1_no (by omega)) (kv_u1_no (by omega)) (kv_u1_no (by omega)) (fun j h1 h2 => kx_u1_ne (by omega)) hM, frM_0 (by omega), by rw [kv_u1_at, kv_u1_at], fun k hk => absurd hk (Nat.not_lt_zero k), Or.inl kv_u1_at⟩
  obtain ⟨A', B', g1, g2, g3, g4⟩ := s_order hok hX hc6 c 8 0 (nI g) (fun _ => 0) (kx_u1 Mx 44 1 (-1)) (kx_u1 Mm 0 27 (-1)) (by omega) hcc.symm hhi (by omega) (fun k hk => absurd hk (Nat.not_lt_zero k)) hR0 (fun _ _ _ => rfl)
  have g1' : f_X1_goOn 1 8 (nI g) (s_known V (s_all V)) (nI (V.1 5 1)) (0 : Int32) (kx_u1 Mx 44 1 (-1)) = some A' := g1
  have g2' : f_X5_orders 8 (0 : Int32) (nI g) (kx_u1 Mm 0 27 (-1)) = some B' := g2
  have sk : f_X1_seek 1 (nI g) Mx = some A' := by
    unfold f_X1_seek
    rw [s_X0_all X1, s_X0_known hok X1, y8, Option.bind_some, g1']
    rfl
  rw [sk, g2', Option.bind_some, Option.bind_some]
  obtain ⟨a1, a2, b1, b2, e1, e2, e3⟩ := g3
  have inv : kv_Inv A' B' := kv_Inv_same hok hX b1 hR ⟨fun r h1 h2 h3 => a1 r h3, a2⟩ (fun r h1 h2 => a1 r (by omega)) b2
  by_cases hb : b = -1
  · rw [if_pos hb, if_pos hb, e1]
    exact kv_Sim_ret inv _
  · rw [if_neg hb, if_neg hb]
    have hb0 : ¬ b < 0 := fun z => by
      have z1 := Int32.lt_iff_toInt_lt.mp z
      have z2 := Int32.le_iff_toInt_le.mp hm1
      have e0 : (0 : Int32).toInt = 0 := by decide
      have em : (-1 : Int32).toInt = -1 := by decide
      exact hb (Int32.toInt_inj.mp (by omega))
    obtain ⟨j, hj, rfl⟩ := nI_of hb0
    have hjc : j < c := (nI_ltI hj (by omega)).mp hlt
    rw [z_ck (show j < 6 by omega) (by decide), z_ck (show j < 6 by omega) (by decide), nI_clamp hj]
    rcases e3 with e3 | e3
    · exact absurd e3 g4
    · rw [e3 j hjc]
      exact kv_Sim_ret inv _
