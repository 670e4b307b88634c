/-! rank; told together -/
/-- of those that p holds of there is one at most: the first is the last -/
theorem z_uniq {β : Type} {F : Nat → Int32 → Option β} {N : Nat} {p : Nat → Bool} {yes : Int32 → Option β} (hx : ∀ n, F (n + 1) (nI N) = yes (-1 : Int32)) (hs : ∀ n i, i < N → F (n + 1) (nI i) = if p i = true then yes (nI i) else F n (nI (i + 1))) (hu : ∀ i j, i < N → j < N → p i = true → p j = true → i = j) : ∀ (m i n : Nat), i + m = N → m < n → F n (nI i) = yes (kz_up (fun i b => if p i = true then nI i else b) m i (-1 : Int32))
  | 0, i, 0, _, h => absurd h (Nat.not_lt_zero _)
  | m + 1, i, 0, _, h => absurd h (Nat.not_lt_zero _)
  | 0, i, n + 1, h, _ => by
    have : i = N := by omega
    subst this
    exact hx n
  | m + 1, i, n + 1, h, hn => by
    rw [hs n i (by omega)]
    cases hp : p i with
    | true =>
      rw [if_pos rfl]
      show _ = yes (kz_up (fun i b => if p i = true then nI i else b) m (i + 1) (if p i = true then nI i else (-1 : Int32)))
      rw [hp, if_pos rfl]
      have := kz_ind (P := fun _ b => b = nI i) (st := fun i b => if p i = true then nI i else b) m (i + 1) (nI i) rfl (fun j b h1 h2 e => by
        cases hj : p j with
        | false =>
          rw [if_neg (by decide)]
          exact e
        | true => exact absurd (hu i j (by omega) (by omega) hp hj) (by omega))
      rw [this]
    | false =>
      rw [if_neg (by decide)]
      show _ = yes (kz_up (fun i b => if p i = true then nI i else b) m (i + 1) (if p i = true then nI i else (-1 : Int32)))
      rw [hp, if_neg (by decide)]
      exact z_uniq hx hs hu m (i + 1) n (by omega) (by omega)
/-- who goes ahead of whom -/
def s_bef (c : Nat → Int32) (x y : Nat) : Bool := decide (c x < c y) || (decide (c y = c x) && decide (y < x))
def s_plst (c : Nat → Int32) (x y : Nat) (a : Int32) : Int32 := if c x < c y then a + 1 else if c y = c x then (if nI x ≤ nI y then a else a + 1) else a
theorem s_plst_sum (c : Nat → Int32) {x : Nat} (hx : x < 4096) : ∀ m, m < 4096 → kz_up (s_plst c x) m 0 0 = nI (fb_ct (s_bef c x) m)
  | 0, _ => rfl
  | m + 1, hm => by
    rw [kz_up_end, s_plst_sum c hx m (by omega), Nat.zero_add, fb_ct_succ]
    unfold s_plst
    have e : s_bef c x m = (decide (c x < c m) || (decide (c m = c x) && decide (m < x))) := rfl
    rw [e]
    by_cases h1 : c x < c m
    · rw [if_pos h1, decide_eq_true h1, nI_1]
      rfl
    · rw [if_neg h1, decide_eq_false h1, Bool.false_or]
      by_cases h2 : c m = c x
      · rw [if_pos h2, decide_eq_true h2, Bool.true_and]
        by_cases h3 : m < x
        · rw [if_neg (nI_ge h3 (by omega)), decide_eq_true h3, nI_1]
          rfl
        · rw [if_pos (nI_le (by omega) (by omega)), decide_eq_false h3]
          rfl
      · rw [if_neg h2, decide_eq_false h2]
        rfl
theorem fb_ct_one {x n : Nat} (h : x < n) : 0 < fb_ct (fun k => decide (k = x)) n := fb_ct_pos.mpr ⟨x, h, decide_eq_true rfl⟩
theorem fb_ct_more {p q : Nat → Bool} {n x : Nat} (hx : x < n) (h : ∀ k, k < n → p k = true → q k = true) (hp : p x = false) (hq : q x = true) : fb_ct p n < fb_ct q n := by
  have h1 := fb_ct_or (p := p) (q := fun k => decide (k = x)) (n := n) (fun k _ z => by
    have := of_decide_eq_true z.2
    rw [this, hp] at z
    exact absurd z.1 (by decide))
  have h2 := fb_ct_sub (p := fun k => p k || decide (k = x)) (q := q) (n := n) (fun k hk z => by
    rcases Bool.or_eq_true_iff.mp z with z | z
    · exact h k hk z
    · rw [of_decide_eq_true z]
      exact hq)
  have h3 := fb_ct_one hx
  omega
theorem s_bef_one (c : Nat → Int32) {n x y : Nat} (hx : x < n) (hy : y < n) (e : fb_ct (s_bef c x) n = fb_ct (s_bef c y) n) : x = y := by
  have key : ∀ x y, x < n → y < n → s_bef c y x = true → fb_ct (s_bef c x) n < fb_ct (s_bef c y) n := by
    intro x y hx hy hb
    refine fb_ct_more hx (fun k hk hk2 => ?_) ?_ hb
    · unfold s_bef at hb hk2 ⊢
      simp only [Bool.or_eq_true, Bool.and_eq_true, decide_eq_true_eq] at hb hk2 ⊢
      rcases hb with hb | ⟨hb, hb2⟩
      · rcases hk2 with hk2 | ⟨hk2, hk3⟩
        · exact Or.inl (Int32.lt_trans hb hk2)
        · exact Or.inl (hk2 ▸ hb)
      · rcases hk2 with hk2 | ⟨hk2, hk3⟩
        · exact Or.inl (hb ▸ hk2)
        · exact Or.inr ⟨hk2.trans hb, by omega⟩
    · unfold s_bef
      rw [decide_eq_false Int32.lt_irrefl, decide_eq_false (Nat.lt_irrefl x), Bool.and_false]
      rfl
  rcases Nat.lt_trichotomy x y with h | h | h
  · by_cases q : c x = c y
    · have := key x y hx hy (by
        unfold s_bef
        rw [decide_eq_true q, decide_eq_true h, Bool.and_self, Bool.or_true])
      omega
    · rcases Int32.lt_or_lt_of_ne q with q | q
      · have := key y x hy hx (by
          unfold s_bef
          rw [decide_eq_true q, Bool.true_or])
        omega
      · have := key x y hx hy (by
          unfold s_bef
          rw [decide_eq_true q, Bool.true_or])
        omega
  · exact h
  · by_cases q : c x = c y
    · have := key y x hy hx (by
        unfold s_bef
        rw [decide_eq_true q.symm, decide_eq_true h, Bool.and_self, Bool.or_true])
      omega
    · rcases Int32.lt_or_lt_of_ne q with q | q
      · have := key y x hy hx (by
          unfold s_bef
          rw [decide_eq_true q, Bool.true_or])
        omega
      · have := key x y hx hy (by
          unfold s_bef
          rw [decide_eq_true q, Bool.true_or])
        omega
theorem kv_s_rank {Mx Mm : kx_M} (h : kv_Inv Mx Mm) (a : Int32) : kv_Sim (f_X4_rank a Mx) (f_X5_rank a Mm) := by
  obtain ⟨V, hok, hX, hM, hR⟩ := id h
  have hv := hok.2.2.2.1
  unfold f_X4_rank f_X5_rank
  rw [e_X0_V hX, e_X5_V hM]
  cases hb : g_V V a with
  | false => exact kv_Sim_no h
  | true =>
    rw [if_pos rfl, if_pos rfl]
    obtain ⟨t, ht, rfl⟩ := g_V_el hok hb
    have ff : ∃ f : Nat → Int32, f = fun x => f_J6_bitCount_0f7a4 (V.2.1 x) := ⟨_, rfl⟩
    obtain ⟨f, hf⟩ := ff
    have pl : ∀ x, x < V.1 5 3 → f_X4_placeOf Mx (nI x) = some (nI (fb_ct (s_bef f x) (V.1 5 3))) := by
      intro x hx
      unfold f_X4_placeOf
      rw [z_ck (show x < 8 by omega) (by decide), nI_clamp (show x < 2 ^ 31 by omega), (x1_k hX (show x < 8 by omega)).2.2.2, ← s_plst_sum f (show x < 4096 by omega) _ (by omega)]
      exact kz_run0 (F := fun n i b => f_X4_placeOf_18 Mx n (nI x) (f_J6_bitCount_0f7a4 (V.2.1 x)) b i) (st := s_plst f x) (k := fun b => some b) (V.1 5 3) 0 (by omega)
        (fun n b => by
          rw [f_X4_placeOf_18.eq_2, hX.1.2.2.2.2]
          exact if_pos (Int32.le_refl _))
        (fun n i b hi => by
          rw [f_X4_placeOf_18.eq_2, hX.1.2.2.2.2, if_neg (nI_ge hi (by omega)), z_ck (show i < 8 by omega) (by decide), nI_clamp (show i < 2 ^ 31 by omega), (x1_k hX (show i < 8 by omega)).2.2.2, nI_1, hf]
          unfold s_plst
          dsimp only
          split
          · rfl
          · split
            · split <;> rfl
            · rfl)
    have hu : ∀ i j, i < V.1 5 3 → j < V.1 5 3 → decide (nI (fb_ct (s_bef f i) (V.1 5 3)) = nI t) = true → decide (nI (fb_ct (s_bef f j) (V.1 5 3)) = nI t) = true → i = j := by
      intro i j hi hj e1 e2
      have l1 := fb_ct_le (s_bef f i) (V.1 5 3)
      have l2 := fb_ct_le (s_bef f j) (V.1 5 3)
      exact s_bef_one f hi hj ((nI_eq (by omega) (by omega)).mp ((of_decide_eq_true e1).trans (of_decide_eq_true e2).symm))
    refine kv_Sim_eq (r := kz_up (fun i b => if decide (nI (fb_ct (s_bef f i) (V.1 5 3)) = nI t) = true then nI i else b) (V.1 5 3) 0 (-1 : Int32)) ?_ ?_ h
    · exact kz_run0 (F := fun n i b => f_X4_rank_22 n (nI t) b i Mx) (k := fun b => some (b, Mx)) (V.1 5 3) (-1 : Int32) (by omega)
        (fun n b => by
          rw [f_X4_rank_22.eq_2, hX.1.2.2.2.2]
          exact if_pos (Int32.le_refl _))
        (fun n i b hi => by
          rw [f_X4_rank_22.eq_2, hX.1.2.2.2.2, if_neg (nI_ge hi (by omega)), pl i hi, nI_1, Option.bind_some]
          simp only [decide_eq_true_eq]
          split <;> rfl)
    · refine z_uniq (F := fun n i => f_X5_rank_17 n (nI t) i Mm) (N := V.1 5 3) (yes := fun b => some (b, Mm)) ?_ ?_ hu (V.1 5 3) 0 kx_fuel (by omega) (kz_f _ (by omega))
      · intro n
        rw [f_X5_rank_17.eq_2, hM.1.2.2.2.2]
        exact if_pos (Int32.le_refl _)
      · intro n i hi
        rw [f_X5_rank_17.eq_2, hM.1.2.2.2.2, if_neg (nI_ge hi (by omega)), ← s_plst_sum f (show i < 4096 by omega) _ (by omega)]
        exact kz_run0 (F := fun m j b => f_X5_rank_30 (f_X5_rank_17 n) m (nI t) (nI i) b j Mm) (st := s_plst f i) (k := fun b => if decide (b = nI t) = true then some (nI i, Mm) else f_X5_rank_17 n (nI t) (nI (i + 1)) Mm) (V.1 5 3) 0 (by omega)
          (fun m b => by
            rw [f_X5_rank_30.eq_2, hM.1.2.2.2.2, if_pos (Int32.le_refl _), nI_1]
            simp only [decide_eq_true_eq])
          (fun m j b hj => by
            rw [f_X5_rank_30.eq_2, hM.1.2.2.2.2, if_neg (nI_ge hj (by omega)), z_ck (show i < 8 by omega) (by decide), z_ck (show j < 8 by omega) (by decide), nI_clamp (show i < 2 ^ 31 by omega), nI_clamp (show j < 2 ^ 31 by omega), (hM.2.2 i (show i < 8 by omega)).2.2.2, (hM.2.2 j (show j < 8 by omega)).2.2.2, nI_1, hf]
            simp only [(z_difb (V.2.1 j) (V.2.1 i)).2.2.1, (z_difb (V.2.1 j) (V.2.1 i)).2.2.2]
            unfold s_plst
            dsimp only
            split
            · rfl
            · split
              · split <;> rfl
              · rfl)
/-- a loop that ends at the first that p does not hold of -/
theorem kz_all {F : Nat → Int32 → Option Bool} {N : Nat} {p : Nat → Bool} (hx : ∀ n, F (n + 1) (nI N) = some true) (hs : ∀ n i, i < N → F (n + 1) (nI i) = if p i = true then F n (nI (i + 1)) else some false) : ∀ (m i n : Nat), i + m = N → m < n → ∃ b, F n (nI i) = some b ∧ (b = true ↔ ∀ j, i ≤ j → j < N → p j = true)
  | 0, i, 0, _, h => absurd h (Nat.not_lt_zero _)
  | m + 1, i, 0, _, h => absurd h (Nat.not_lt_zero _)
  | 0, i, n + 1, h, _ => by
    have : i = N := by omega
    subst this
    exact ⟨true, hx n, fun _ j h1 h2 => absurd h1 (by omega), fun _ => rfl⟩
  | m + 1, i, n + 1, h, hn => by
    rw [hs n i (by omega)]
    cases hp : p i with
    | false =>
      rw [if_neg (by decide)]
      exact ⟨false, rfl, fun q => absurd q (by decide), fun q => by rw [q i (Nat.le_refl _) (by omega)] at hp; cases hp⟩
    | true =>
      rw [if_pos rfl]
      obtain ⟨b, h1, h2⟩ := kz_all hx hs m (i + 1) n (by omega) (by omega)
      refine ⟨b, h1, h2.trans ⟨fun q j h3 h4 => ?_, fun q j h3 h4 => q j (by omega) h4⟩⟩
      by_cases e : j = i
      · rw [e]
        exact hp
      · exact q j (by omega) h4
def s_max (L : Nat → Nat) : Nat → Nat
  | 0 => 0
  | n + 1 => if s_max L n < L n then L n else s_max L n
theorem s_max_ge (L : Nat → Nat) : ∀ n i, i < n → L i ≤ s_max L n
  | 0, i, h => absurd h (Nat.not_lt_zero i)
  | n + 1, i, h => by
    unfold s_max
    by_cases e : i = n
    · subst e
      split <;> omega
    · have := s_max_ge L n i (by omega)
      split <;> omega
theorem s_max_in (L : Nat → Nat) : ∀ n, 0 < n → ∃ i, i < n ∧ L i = s_max L n
  | 0, h => absurd h (Nat.not_lt_zero 0)
  | n + 1, _ => by
    unfold s_max
    by_cases q : s_max L n < L n
    · rw [if_pos q]
      exact ⟨n, by omega, rfl⟩
    · rw [if_neg q]
      by_cases h0 : 0 < n
      · obtain ⟨i, hi, e⟩ := s_max_in L n h0
        exact ⟨i, by omega, e⟩
      · have : n = 0 := by omega
        subst this
        refine ⟨0, by omega, ?_⟩
        have : s_max L 0 = 0 := rfl
        omega
/-- of so many one can take fewer -/
theorem z_sub (p : Nat → Bool) (k : Nat) : ∀ n, fb_ct (fun i => p i && decide (fb_ct p i < k)) n = if fb_ct p n < k then fb_ct p n else k
  | 0 => by
    show 0 = if 0 < k then 0 else k
    split <;> omega
  | n + 1 => by
    rw [fb_ct_succ, z_sub p k n, fb_ct_succ]
    cases p n with
    | false =>
      rw [Bool.false_and, if_neg (show ¬ false = true by decide), Nat.add_zero, Nat.add_zero]
    | true =>
      rw [Bool.true_and, if_pos rfl]
      by_cases q : fb_ct p n < k
      · rw [if_pos q, decide_eq_true q, if_pos rfl]
        split <;> omega
      · rw [if_neg q, decide_eq_false q, if_neg (by decide)]
        split <;> omega
theorem z_group {g v : Nat} (hg : g < 2 ^ v) (hv : v ≤ 32) : z_mask (fun x => bt (nI g) x) v = nI g := by
  apply b_ext
  intro i hi
  rw [z_mask_bt _ v hv i hi]
  by_cases q : i < v
  · rw [decide_eq_true q, Bool.true_and]
  · rw [decide_eq_false q, Bool.false_and, bt_nI g hi, Nat.testBit_lt_two_pow (Nat.lt_of_lt_of_le hg (Nat.pow_le_pow_right (by omega) (by omega)))]
theorem s_known_bt (V : kv_V) (g : Int32) (c : Nat) : ∀ m, (bt (kz_up (fun x a => if bt g x = true then a ||| V.2.1 x else a) m 0 0) c = true ↔ ∃ x, x < m ∧ bt g x = true ∧ bt (V.2.1 x) c = true)
  | 0 => by
    show bt 0 c = true ↔ _
    rw [b_0]
    exact ⟨fun q => absurd q (by decide), fun ⟨x, hx, _⟩ => absurd hx (Nat.not_lt_zero x)⟩
  | m + 1 => by
    rw [kz_up_end, Nat.zero_add]
    have ih := s_known_bt V g c m
    cases hg : bt g m with
    | false =>
      rw [if_neg (by decide), ih]
      refine ⟨fun ⟨x, h1, h2, h3⟩ => ⟨x, by omega, h2, h3⟩, fun ⟨x, h1, h2, h3⟩ => ⟨x, ?_, h2, h3⟩⟩
      by_cases e : x = m
      · rw [e, hg] at h2
        cases h2
      · omega
    | true =>
      rw [if_pos rfl, b_or, Bool.or_eq_true, ih]
      refine ⟨?_, fun ⟨x, h1, h2, h3⟩ => ?_⟩
      · rintro (⟨x, h1, h2, h3⟩ | q)
        · exact ⟨x, by omega, h2, h3⟩
        · exact ⟨m, by omega, hg, q⟩
      · by_cases e : x = m
        · rw [e] at h3
          exact Or.inr h3
        · exact Or.inl ⟨x, by omega, h2, h3⟩
theorem nI_sub {a b : Nat} (h : b ≤ a) : nI a - nI b = nI (a - b) := by
  rw [Int32.sub_eq_iff_eq_add, nI_add, Nat.sub_add_cancel h]
theorem s_cells_bt {V : kv_V} (hok : kv_ok V) {i : Nat} (hi : i < 32) : bt (s_cells V) i = decide (i < V.1 5 0) := by
  rw [s_cells_n hok, bt_nI _ hi, Nat.testBit_two_pow_sub_one]
theorem kv_s_together {Mx Mm : kx_M} (h : kv_Inv Mx Mm) : kv_SimR (f_X4_together Mx) (f_X5_together Mm) := by
  obtain ⟨V, hok, hX, hM, hR⟩ := id h
  have hv := hok.2.2.2.1
  have hn := hok.1
  have hp := s_pv hok
  have LL : ∃ L : Nat → Nat, L = fun c => fb_ct (fun x => !bt (V.2.1 x) c) (V.1 5 3) := ⟨_, rfl⟩
  obtain ⟨L, hL⟩ := LL
  have hLv : ∀ c, L c ≤ V.1 5 3 := fun c => by rw [hL]; exact fb_ct_le _ _
  obtain ⟨c0, hc0, ec0⟩ := s_max_in L (V.1 5 0) (by omega)
  have hmx : s_max L (V.1 5 0) ≤ V.1 5 3 := by
    rw [← ec0]
    exact hLv c0
  refine ⟨if s_max L (V.1 5 0) < V.1 5 3 then nI (s_max L (V.1 5 0) + 1) else (-1 : Int32), ?_, ?_⟩
  · have lk : ∀ c, nI (V.1 5 3) - f_J6_bitCount_0f7a4 (s_seenBy V c) = nI (L c) := by
      intro c
      have q := fb_ct_not (fun x => bt (V.2.1 x) c) (V.1 5 3)
      unfold s_seenBy
      rw [z_bcm _ _ hv, nI_sub (by omega), hL]
      dsimp only
      congr 1
      omega
    have sm : ∀ m, kz_up (fun c (a : Int32) => if a < nI (L c) then nI (L c) else a) m 0 0 = nI (s_max L m) := by
      intro m
      induction m with
      | zero => rfl
      | succ m ih =>
        rw [kz_up_end, Nat.zero_add, ih]
        have e1 := hLv m
        have e2 : ∀ m, s_max L m ≤ V.1 5 3 := by
          intro m
          induction m with
          | zero => exact Nat.zero_le _
          | succ m ih =>
            have := hLv m
            unfold s_max
            split <;> omega
        have e3 := e2 m
        show (if nI (s_max L m) < nI (L m) then nI (L m) else nI (s_max L m)) = nI (if s_max L m < L m then L m else s_max L m)
        by_cases q : s_max L m < L m
        · rw [if_pos q, if_pos (nI_lt q (by omega))]
        · rw [if_neg q, if_neg (nI_nlt (by omega) (by omega))]
    have := kz_run0 (F := fun n i a => f_X4_together_4 Mx n a i) (st := fun c a => if a < nI (L c) then nI (L c) else a) (k := fun a => if nI (V.1 5 3) ≤ a then some (-1 : Int32) else some (a + 1)) (V.1 5 0) 0 (by omega)
      (fun n a => by
        rw [f_X4_together_4.eq_2, hX.1.1, hX.1.2.2.2.2]
        exact if_pos (Int32.le_refl _))
      (fun n i a hi => by
        rw [f_X4_together_4.eq_2, hX.1.1, hX.1.2.2.2.2, if_neg (nI_ge hi (by omega)), s_X0_seenBy hok hX (show i < 32 by omega), Option.bind_some, lk, nI_1])
    rw [sm] at this
    refine Eq.trans this ?_
    by_cases q : s_max L (V.1 5 0) < V.1 5 3
    · rw [if_pos q, if_neg (nI_ge q (by omega)), nI_1]
    · rw [if_neg q, if_pos (nI_le (by omega) (by omega))]
  · have ka : ∀ k, k ≤ V.1 5 3 → f_X5_knowAll Mm (nI k) = some (decide (s_max L (V.1 5 0) < k)) := by
      intro k hk
      have e0 : ((1 : Int32) <<< (nI (V.1 5 0) &&& 31)) - (1 : Int32) = s_cells V := rfl
      obtain ⟨b, h1, h2⟩ := kz_all (F := fun n i => f_X5_knowAll_2 Mm n (nI k) i) (N := 2 ^ V.1 5 3) (p := fun g => !decide (f_J6_bitCount_0f7a4 (nI g) = nI k) || decide ((s_known V (nI g) &&& s_cells V) = s_cells V))
        (fun n => by
          rw [f_X5_knowAll_2.eq_2, hM.1.2.2.2.2, z_pw _ (by omega)]
          exact if_pos (Int32.le_refl _))
        (fun n i hi => by
          rw [f_X5_knowAll_2.eq_2, hM.1.2.2.2.2, z_pw _ (by omega), if_neg (nI_ge hi (by omega)), s_X5_known hok hM, hM.1.1, e0, nI_1, Option.bind_some]
          by_cases q : f_J6_bitCount_0f7a4 (nI i) = nI k
          · rw [if_pos q, decide_eq_true q]
            by_cases q2 : (s_known V (nI i) &&& s_cells V) = s_cells V
            · rw [if_pos q2, decide_eq_true q2]
              rfl
            · rw [if_neg q2, decide_eq_false q2]
              rfl
          · rw [if_neg q, decide_eq_false q]
            rfl) (2 ^ V.1 5 3) 0 kx_fuel (by omega) (kz_f _ (by omega))
      refine Eq.trans h1 (congrArg some ?_)
      rw [Bool.eq_iff_iff, h2, decide_eq_true_eq]
      have cov : ∀ g, (s_known V (nI g) &&& s_cells V) = s_cells V ↔ ∀ c, c < V.1 5 0 → ∃ x, x < V.1 5 3 ∧ bt (nI g) x = true ∧ bt (V.2.1 x) c = true := by
        intro g
        constructor
        · intro q c hc
          refine (s_known_bt V (nI g) c (V.1 5 3)).mp ?_
          have e1 : bt (s_known V (nI g) &&& s_cells V) c = bt (s_cells V) c := by rw [q]
          rw [b_and, s_cells_bt hok (by omega), decide_eq_true hc, Bool.and_true] at e1
          exact e1
        · intro q
          apply b_ext
          intro i hi
          rw [b_and, s_cells_bt hok hi]
          by_cases e : i < V.1 5 0
          · have := (s_known_bt V (nI g) i (V.1 5 3)).mpr (q i e)
            unfold s_known
            rw [this, Bool.true_and]
          · rw [decide_eq_false e, Bool.and_false]
      constructor
      · intro q
        refine Nat.lt_of_not_le (fun hle => ?_)
        rw [← ec0] at hle
        have z := z_sub (fun x => !bt (V.2.1 x) c0) k (V.1 5 3)
        have eL : fb_ct (fun x => !bt (V.2.1 x) c0) (V.1 5 3) = L c0 := by rw [hL]
        rw [eL] at z
        obtain ⟨g, hg, e1, e2⟩ := z_bc (fun i => !bt (V.2.1 i) c0 && decide (fb_ct (fun x => !bt (V.2.1 x) c0) i < k)) (V.1 5 3) hv
        have z2 : fb_ct (fun i => !bt (V.2.1 i) c0 && decide (fb_ct (fun x => !bt (V.2.1 x) c0) i < k)) (V.1 5 3) = k := by
          rw [z]
          split <;> omega
        rw [z2] at e2
        have q2 := q g (Nat.zero_le _) hg
        rw [decide_eq_true e2, Bool.not_true, Bool.false_or, decide_eq_true_eq] at q2
        obtain ⟨x, hx, h3, h4⟩ := (cov g).mp q2 c0 hc0
        rw [← e1, z_mask_bt _ _ (by omega) _ (by omega), decide_eq_true hx, h4] at h3
        exact absurd h3 (by simp)
      · intro q g _ hg
        by_cases e : f_J6_bitCount_0f7a4 (nI g) = nI k
        · rw [decide_eq_true e, Bool.not_true, Bool.false_or, decide_eq_true_eq]
          refine (cov g).mpr (fun c hc => Classical.byContradiction (fun hno => ?_))
          have e1 := z_bcm (fun x => bt (nI g) x) (V.1 5 3) hv
          rw [z_group hg (by omega), e] at e1
          have l1 := fb_ct_le (fun x => bt (nI g) x) (V.1 5 3)
          have e2 := (nI_eq (by omega) (by omega)).mp e1
          have e3 := fb_ct_sub (p := fun x => bt (nI g) x) (q := fun x => !bt (V.2.1 x) c) (n := V.1 5 3) (fun x hx h3 => by
            cases h4 : bt (V.2.1 x) c with
            | false => rfl
            | true => exact absurd ⟨x, hx, h3, h4⟩ hno)
          have e4 := s_max_ge L (V.1 5 0) c hc
          rw [hL] at e4
          rw [hL] at q
          dsimp only at e4
          omega
        · rw [decide_eq_false e]
          rfl
    have := (kz_loop (F := fun n i (_ : Unit) => f_X5_together_2 Mm n i) (N := s_max L (V.1 5 0) + 1) (st := fun _ a => a) (k := fun _ => some (if s_max L (V.1 5 0) < V.1 5 3 then nI (s_max L (V.1 5 0) + 1) else (-1 : Int32))) (fun _ _ => True)
      (fun n _ _ => by
        rw [f_X5_together_2.eq_2, hM.1.2.2.2.2]
        by_cases q : s_max L (V.1 5 0) < V.1 5 3
        · rw [if_pos q, if_neg (nI_nlt (by omega) (by omega)), ka _ (by omega), decide_eq_true (Nat.lt_succ_self _)]
          rfl
        · rw [if_neg q]
          exact if_pos (nI_lt (by omega) (by omega)))
      (fun n i _ hi _ => by
        rw [f_X5_together_2.eq_2, hM.1.2.2.2.2, if_neg (nI_nlt (by omega) (by omega)), ka _ (by omega), decide_eq_false (by omega), nI_1]
        rfl)
      (fun _ _ _ _ => trivial) (s_max L (V.1 5 0) + 1) 0 () kx_fuel (by omega) (kz_f _ (by omega)) trivial).1
    exact this
