/-! what a view says, as numbers: one picture for both sides -/
def s_pl (w t : Int32) : Int32 := if (0 : Int32) < (((20 : Int32) - w) - t) then (((20 : Int32) - w) - t) else (0 : Int32)
def s_by (sn ow k w t : Int32) (al : Bool) : Int32 := if k = (1 : Int32) then s_pl w t / (2 : Int32) else if k = (2 : Int32) then s_pl w t + ow else if k = (3 : Int32) then (if (0 : Int32) < (s_pl w t / (2 : Int32)) - (f_J6_bitCount_0f7a4 sn) then (s_pl w t / (2 : Int32)) - (f_J6_bitCount_0f7a4 sn) else (0 : Int32)) else if k = (4 : Int32) then (if al = true then (s_pl w t + ow) + (0 : Int32) else (s_pl w t + ow) + (5 : Int32)) else if k = (5 : Int32) then (if (0 : Int32) < ((20 : Int32) - t) then ((20 : Int32) - t) else (0 : Int32)) else s_pl w t
theorem s_X0_by (o : Nat) (M : kx_M) {x : Nat} (hx : x < 8) (k w t : Int32) (al : Bool) : f_X0_openByKind o M (nI x) k w t al = some (s_by (M.1 (o + 7) x) (M.1 (o + 5) x) k w t al) := by
  unfold f_X0_openByKind s_by s_pl
  simp only [z_ck hx (by decide : (8 : Nat) ≤ 4096), nI_clamp (show x < 2 ^ 31 by omega), apply_ite (some : Int32 → Option Int32)]
theorem s_X5_by (M : kx_M) {x : Nat} (hx : x < 8) (al : Bool) : f_X5_openBy M (nI x) al = some (s_by (M.1 7 x) (M.1 5 x) (M.1 4 x) (M.1 6 x) (M.1 3 0) al) := by
  unfold f_X5_openBy s_by s_pl kx_lt
  simp only [z_ck hx (by decide : (8 : Nat) ≤ 4096), z_ck2a, z_c0, nI_clamp (show x < 2 ^ 31 by omega), apply_ite (some : Int32 → Option Int32)]
theorem z_asks5 : ∀ k, k < 6 → (if nI k = (1 : Int32) then some true else if nI k = (3 : Int32) then some true else some false) = some (k == 1 || k == 3) := by decide +kernel
theorem z_kid5 : ∀ k, k < 6 → decide (nI k = (5 : Int32)) = (k == 5) := by decide +kernel
theorem s_X5_asks {M : kx_M} {V : kv_V} (hok : kv_ok V) (hM : kv_M M V) {x : Nat} (hx : x < 8) : f_X5_asks M (nI x) = some (kv_asks V x) := by
  have hk := (hok.2.2.2.2.2 x hx).1
  unfold f_X5_asks kv_asks
  simp only [z_ck hx (by decide : (8 : Nat) ≤ 4096), nI_clamp (show x < 2 ^ 31 by omega), (hM.2.2 x hx).1]
  exact z_asks5 _ (by omega)
theorem s_X5_kid {M : kx_M} {V : kv_V} (hok : kv_ok V) (hM : kv_M M V) {x : Nat} (hx : x < 8) : (M.1 4 x = (5 : Int32)) = (kv_kid V x = true) := by
  have hk := (hok.2.2.2.2.2 x hx).1
  have := z_kid5 (V.1 2 x) (by omega)
  rw [(hM.2.2 x hx).1]
  unfold kv_kid
  rw [← this]
  simp
def s_open (V : kv_V) (x : Nat) (g t : Int32) : Int32 := f_X4_levelOf ((s_by (V.2.1 x) (nI (V.1 3 x)) (nI (V.1 2 x)) (nI (V.1 4 x)) t (decide (g = (1 : Int32) <<< (nI x &&& 31))) - (2 : Int32) * nI (fb_ct (fun y => (bt g y && !decide (y = x)) && kv_asks V y) (V.1 5 3))) + nI (fb_ct (fun y => (bt g y && !decide (y = x)) && kv_kid V y) (V.1 5 3)))
def s_ost (V : kv_V) (x : Nat) (g : Int32) (y : Nat) (a : Int32) : Int32 := if y = x then a else if bt g y = true then (if kv_kid V y = true then (if kv_asks V y = true then a + (-2) else a) + 1 else (if kv_asks V y = true then a + (-2) else a)) else a
theorem z_ring1 (b A C : Int32) : ((b - 2 * A) + C) + (-2) = (b - 2 * (A + 1)) + C := by grind
theorem z_ring2 (b A C : Int32) : ((b - 2 * A) + C) + 1 = (b - 2 * A) + (C + 1) := by grind
theorem z_ring3 (b A C : Int32) : ((b - 2 * A) + C) + (-2) + 1 = (b - 2 * (A + 1)) + (C + 1) := by grind
theorem z_ost1 (b : Int32) (A C : Nat) : ((b - 2 * nI A) + nI C) + (-2) = (b - 2 * nI (A + 1)) + nI C := by
  rw [← nI_1]
  exact z_ring1 _ _ _
theorem z_ost2 (b : Int32) (A C : Nat) : ((b - 2 * nI A) + nI C) + 1 = (b - 2 * nI A) + nI (C + 1) := by
  rw [← nI_1]
  exact z_ring2 _ _ _
theorem z_ost3 (b : Int32) (A C : Nat) : ((b - 2 * nI A) + nI C) + (-2) + 1 = (b - 2 * nI (A + 1)) + nI (C + 1) := by
  rw [← nI_1, ← nI_1]
  exact z_ring3 _ _ _
theorem z_ring4 (b A C : Int32) : ((b + A) - C) + 1 = (b + (A + 1)) - C := by grind
theorem z_ring5 (b A C : Int32) : ((b + A) - C) + (-1) = (b + A) - (C + 1) := by grind
theorem z_bst1 (b : Int32) (A C : Nat) : ((b + nI A) - nI C) + 1 = (b + nI (A + 1)) - nI C := by
  rw [← nI_1]
  exact z_ring4 _ _ _
theorem z_bst2 (b : Int32) (A C : Nat) : ((b + nI A) - nI C) + (-1) = (b + nI A) - nI (C + 1) := by
  rw [← nI_1]
  exact z_ring5 _ _ _
theorem s_ost_sum (V : kv_V) (x : Nat) (g b : Int32) : ∀ m, kz_up (s_ost V x g) m 0 b = (b - (2 : Int32) * nI (fb_ct (fun y => (bt g y && !decide (y = x)) && kv_asks V y) m)) + nI (fb_ct (fun y => (bt g y && !decide (y = x)) && kv_kid V y) m)
  | 0 => by
    show b = (b - 2 * 0) + 0
    rw [Int32.mul_zero, Int32.sub_zero, Int32.add_zero]
  | m + 1 => by
    rw [kz_up_end, s_ost_sum V x g b m, Nat.zero_add, fb_ct_succ, fb_ct_succ]
    unfold s_ost
    by_cases hx : m = x
    · rw [if_pos hx, decide_eq_true hx]
      cases bt g m <;> rfl
    · rw [if_neg hx, decide_eq_false hx]
      generalize hA : fb_ct (fun y => (bt g y && !decide (y = x)) && kv_asks V y) m = A
      generalize hC : fb_ct (fun y => (bt g y && !decide (y = x)) && kv_kid V y) m = C
      cases bt g m with
      | false => rfl
      | true =>
        cases kv_asks V m <;> cases kv_kid V m
        · rfl
        · exact z_ost2 b A C
        · exact z_ost1 b A C
        · exact z_ost3 b A C
set_option maxRecDepth 100000 in
theorem s_X5_open {M : kx_M} {V : kv_V} (hok : kv_ok V) (hM : kv_M M V) {x : Nat} (hx : x < V.1 5 3) (g : Int32) : f_X5_openTo M (nI x) g = some (s_open V x g (nI (V.1 5 1))) := by
  have hv := hok.2.2.2.1
  have hx8 : x < 8 := by omega
  have lp : ∀ a, f_X5_openTo_21 M kx_fuel (nI x) g a (nI 0) = some (f_X4_levelOf (kz_up (s_ost V x g) (V.1 5 3) 0 a)) := fun a =>
    kz_run0 (F := fun n i a => f_X5_openTo_21 M n (nI x) g a i) (st := s_ost V x g) (k := fun a => some (f_X4_levelOf a)) (V.1 5 3) a (by omega)
      (fun n a => by
        rw [f_X5_openTo_21.eq_2, hM.1.2.2.2.2]
        exact if_pos (Int32.le_refl _))
      (fun n i a hi => by
        rw [f_X5_openTo_21.eq_2, hM.1.2.2.2.2, if_neg (nI_ge hi (by omega)), s_X5_asks hok hM (show i < 8 by omega), z_has g (show i < 32 by omega)]
        unfold f_X5_openTo_60 s_ost
        simp only [z_ck (show i < 8 by omega) (by decide : (8 : Nat) ≤ 4096), nI_clamp (show i < 2 ^ 31 by omega), s_X5_kid hok hM (show i < 8 by omega), Option.bind_some, nI_1]
        by_cases hix : i = x
        · rw [if_pos (congrArg nI hix), if_pos hix]
        · rw [if_neg (fun q => hix ((nI_eq (by omega) (by omega)).mp q)), if_neg hix]
          cases bt g i <;> cases kv_asks V i <;> cases kv_kid V i <;> rfl)
  unfold f_X5_openTo s_open
  rw [s_X5_by M hx8, s_X5_by M hx8]
  obtain ⟨q1, q2, q3, q4⟩ := hM.2.2 x hx8
  rw [q1, q2, q3, q4, hM.1.2.1]
  by_cases hg : g = (1 : Int32) <<< (nI x &&& 31)
  · rw [if_pos hg, decide_eq_true hg]
    show f_X5_openTo_21 M kx_fuel (nI x) g _ (nI 0) = _
    rw [lp, s_ost_sum]
  · rw [if_neg hg, decide_eq_false hg]
    show f_X5_openTo_21 M kx_fuel (nI x) g _ (nI 0) = _
    rw [lp, s_ost_sum]
theorem s_X0_open {M : kx_M} {o : Nat} {V : kv_V} (hok : kv_ok V) (hX : kv_X M o V) {x : Nat} (hx : x < V.1 5 3) (g t : Int32) (hg : bt g x = true) : f_X0_openTo o M (nI x) g t = some (s_open V x g t) := by
  have hv := hok.2.2.2.1
  have hx8 : x < 8 := by omega
  obtain ⟨q1, q2, q3, q4⟩ := hX.2.2.1 x hx8
  have cnt : ∀ p : Nat → Bool, f_J6_bitCount_0f7a4 ((g &&& (((1 : Int32) <<< (nI x &&& 31)) ^^^ (-1 : Int32))) &&& z_mask p (V.1 5 3)) = nI (fb_ct (fun y => (bt g y && !decide (y = x)) && p y) (V.1 5 3)) := by
    intro p
    rw [z_and_mask _ p (by omega), z_bcm _ _ hv]
    refine congrArg nI (fb_ct_cong (fun k hk => ?_))
    rw [z_rest g (by omega) (by omega)]
  unfold f_X0_openTo f_X0_openTo_34 s_open
  simp only [z_ck hx8 (by decide : (8 : Nat) ≤ 4096), nI_clamp (show x < 2 ^ 31 by omega), s_X0_by o M hx8, q1, q2, q3, q4, hX.2.2.2.1, hX.2.2.2.2.1, cnt, Option.bind_some, z_alone g (show x < 32 by omega) hg]
  by_cases e : g = (1 : Int32) <<< (nI x &&& 31)
  · rw [if_pos e, decide_eq_true e]
  · rw [if_neg e, decide_eq_false e]
/-- the cells that are shy so far at most -/
def s_mask (V : kv_V) (a : Int32) : Int32 := z_mask (fun c => decide (nI (V.1 0 c) ≤ a)) (V.1 5 0)
def s_shown (V : kv_V) (x : Nat) (g t : Int32) : Int32 := s_mask V (s_open V x g t)
theorem s_mask_at {V : kv_V} (hok : kv_ok V) {m : Nat} (hm : m ≤ 20) : s_mask V (nI m) = z_mask (fun c => decide (V.1 0 c ≤ m)) (V.1 5 0) := by
  have hn := hok.1.2
  refine z_mask_congr (fun i hi => decide_eq_decide.mpr (nI_leI ?_ ?_))
  · have := (hok.2.2.2.2.1 i (by omega)).1
    omega
  · omega
theorem s_X0_at {M : kx_M} {o : Nat} {V : kv_V} (hok : kv_ok V) (hX : kv_X M o V) (a : Int32) : kx_ck 21 (f_X4_levelOf a) (some (M.1 (o + 3) (f_X4_levelOf a).toNatClampNeg)) = some (s_mask V (f_X4_levelOf a)) := by
  obtain ⟨m, hm, e⟩ := kv_level a
  rw [e, z_ck (by omega) (by omega), nI_clamp (by omega), hX.2.2.2.2.2 m hm, s_mask_at hok hm]
theorem s_X0_shown {M : kx_M} {o : Nat} {V : kv_V} (hok : kv_ok V) (hX : kv_X M o V) {x : Nat} (hx : x < V.1 5 3) (g t : Int32) (hg : bt g x = true) : f_X0_shownTo o M (nI x) g t = some (s_shown V x g t) := by
  unfold f_X0_shownTo
  rw [s_X0_open hok hX hx g t hg]
  exact s_X0_at hok hX _
theorem s_X5_shown {M : kx_M} {V : kv_V} (hok : kv_ok V) (hM : kv_M M V) {x : Nat} (hx : x < V.1 5 3) (g : Int32) : f_X5_shownTo M (nI x) g = some (s_shown V x g (nI (V.1 5 1))) := by
  have hn := hok.1.2
  unfold f_X5_shownTo
  rw [s_X5_open hok hM hx g, Option.bind_some]
  unfold s_shown s_mask z_mask
  exact kz_run0 (F := fun n i a => f_X5_shownTo_13 M n (s_open V x g (nI (V.1 5 1))) a i) (k := fun a => some a) (V.1 5 0) 0 (by omega)
    (fun n a => by
      rw [f_X5_shownTo_13.eq_2, hM.1.1]
      exact if_pos (Int32.le_refl _))
    (fun n i a hi => by
      rw [f_X5_shownTo_13.eq_2, hM.1.1, if_neg (nI_ge hi (by omega)), z_ck (show i < 24 by omega) (by decide), nI_clamp (show i < 2 ^ 31 by omega), (hM.2.1 i (by omega)).1, nI_1]
      dsimp only
      by_cases q : s_open V x g (nI (V.1 5 1)) < nI (V.1 0 i)
      · rw [if_pos q, if_neg (fun z => absurd (of_decide_eq_true z) (Int32.not_le.mpr q))]
      · rw [if_neg q, if_pos (decide_eq_true (Int32.not_lt.mp q))])
theorem s_X0_alone {M : kx_M} {o : Nat} {V : kv_V} (hok : kv_ok V) (hX : kv_X M o V) {x : Nat} (hx : x < V.1 5 3) (t : Int32) : f_X0_shownAlone o M (nI x) t = some (s_shown V x ((1 : Int32) <<< (nI x &&& 31)) t) := by
  have hv := hok.2.2.2.1
  unfold f_X0_shownAlone
  rw [s_X0_shown hok hX hx _ t (by rw [bt_one (by omega) (by omega), decide_eq_true rfl])]
  rfl
theorem s_X5_alone {M : kx_M} {V : kv_V} (hok : kv_ok V) (hM : kv_M M V) {x : Nat} (hx : x < V.1 5 3) : f_X5_shownAlone M (nI x) = some (s_shown V x ((1 : Int32) <<< (nI x &&& 31)) (nI (V.1 5 1))) := by
  unfold f_X5_shownAlone
  rw [s_X5_shown hok hM hx]
  rfl
/-- to one alone, taken for another kind, with another want -/
def s_if (V : kv_V) (x : Nat) (k w t : Int32) : Int32 := s_mask V (f_X4_levelOf (s_by (V.2.1 x) (nI (V.1 3 x)) k w t true))
theorem s_alone_if (V : kv_V) {x : Nat} (hx : x < 32) (t : Int32) (hv : V.1 5 3 ≤ 32) : s_shown V x ((1 : Int32) <<< (nI x &&& 31)) t = s_if V x (nI (V.1 2 x)) (nI (V.1 4 x)) t := by
  have z : ∀ p : Nat → Bool, fb_ct (fun y => (bt ((1 : Int32) <<< (nI x &&& 31)) y && !decide (y = x)) && p y) (V.1 5 3) = 0 := by
    intro p
    refine fb_ct_zero.mpr (fun k hk => ?_)
    rw [bt_one hx (by omega)]
    cases decide (k = x) <;> rfl
  unfold s_shown s_open s_if
  rw [z, z, decide_eq_true rfl, nI_0, Int32.mul_zero, Int32.sub_zero, Int32.add_zero]
theorem s_X0_if {M : kx_M} {o : Nat} {V : kv_V} (hok : kv_ok V) (hX : kv_X M o V) {x : Nat} (hx : x < V.1 5 3) (k w t : Int32) : f_X0_shownIf o M (nI x) k w t = some (s_if V x k w t) := by
  have hv := hok.2.2.2.1
  have hx8 : x < 8 := by omega
  obtain ⟨q1, q2, q3, q4⟩ := hX.2.2.1 x hx8
  unfold f_X0_shownIf
  rw [s_X0_by o M hx8, q2, q4]
  exact s_X0_at hok hX _
theorem s_X0_ifw {M : kx_M} {o : Nat} {V : kv_V} (hok : kv_ok V) (hX : kv_X M o V) {x : Nat} (hx : x < V.1 5 3) (w : Int32) : f_X0_shownIfWanting o M (nI x) w = some (s_if V x (nI (V.1 2 x)) w (nI (V.1 5 1))) := by
  have hv := hok.2.2.2.1
  have hx8 : x < 8 := by omega
  unfold f_X0_shownIfWanting
  rw [z_ck hx8 (by decide), nI_clamp (by omega), (hX.2.2.1 x hx8).1, hX.1.2.1, s_X0_if hok hX hx]
  rfl
def s_any (V : kv_V) (g t : Int32) : Int32 := kz_up (fun x a => if bt g x = true then a ||| s_shown V x g t else a) (V.1 5 3) 0 0
theorem s_X0_any {M : kx_M} {o : Nat} {V : kv_V} (hok : kv_ok V) (hX : kv_X M o V) (g t : Int32) : f_X0_shownToAny o M g t = some (s_any V g t) := by
  have hv := hok.2.2.2.1
  unfold f_X0_shownToAny
  exact kz_run0 (F := fun n i a => f_X0_shownToAny_5 o M n g t a i) (k := fun a => some a) (V.1 5 3) 0 (by omega)
    (fun n a => by
      rw [f_X0_shownToAny_5.eq_2, hX.1.2.2.2.2]
      exact if_pos (Int32.le_refl _))
    (fun n i a hi => by
      rw [f_X0_shownToAny_5.eq_2, hX.1.2.2.2.2, if_neg (nI_ge hi (by omega)), z_isIn g (by omega), nI_1]
      cases hb : bt g i with
      | false => rfl
      | true =>
        rw [s_X0_shown hok hX hi g t hb]
        rfl)
theorem s_X5_any {M : kx_M} {V : kv_V} (hok : kv_ok V) (hM : kv_M M V) (g : Int32) : f_X5_shownToAll M g = some (s_any V g (nI (V.1 5 1))) := by
  have hv := hok.2.2.2.1
  unfold f_X5_shownToAll
  exact kz_run0 (F := fun n i a => f_X5_shownToAll_4 M n g a i) (k := fun a => some a) (V.1 5 3) 0 (by omega)
    (fun n a => by
      rw [f_X5_shownToAll_4.eq_2, hM.1.2.2.2.2]
      exact if_pos (Int32.le_refl _))
    (fun n i a hi => by
      rw [f_X5_shownToAll_4.eq_2, hM.1.2.2.2.2, if_neg (nI_ge hi (by omega)), z_has g (by omega), nI_1, s_X5_shown hok hM hi g]
      cases bt g i <;> rfl)
def s_known (V : kv_V) (g : Int32) : Int32 := kz_up (fun x a => if bt g x = true then a ||| V.2.1 x else a) (V.1 5 3) 0 0
theorem s_X0_known {M : kx_M} {o : Nat} {V : kv_V} (hok : kv_ok V) (hX : kv_X M o V) (g : Int32) : f_X0_knownBy o M g = some (s_known V g) := by
  have hv := hok.2.2.2.1
  unfold f_X0_knownBy
  exact kz_run0 (F := fun n i a => f_X0_knownBy_4 o M n g a i) (k := fun a => some a) (V.1 5 3) 0 (by omega)
    (fun n a => by
      rw [f_X0_knownBy_4.eq_2, hX.1.2.2.2.2]
      exact if_pos (Int32.le_refl _))
    (fun n i a hi => by
      rw [f_X0_knownBy_4.eq_2, hX.1.2.2.2.2, if_neg (nI_ge hi (by omega)), z_isIn g (by omega), nI_1, z_ck (show i < 8 by omega) (by decide), nI_clamp (show i < 2 ^ 31 by omega), (hX.2.2.1 i (by omega)).2.2.2]
      cases bt g i <;> rfl)
theorem s_X5_known {M : kx_M} {V : kv_V} (hok : kv_ok V) (hM : kv_M M V) (g : Int32) : f_X5_knownBy M g = some (s_known V g) := by
  have hv := hok.2.2.2.1
  unfold f_X5_knownBy
  exact kz_run0 (F := fun n i a => f_X5_knownBy_4 M n g a i) (k := fun a => some a) (V.1 5 3) 0 (by omega)
    (fun n a => by
      rw [f_X5_knownBy_4.eq_2, hM.1.2.2.2.2]
      exact if_pos (Int32.le_refl _))
    (fun n i a hi => by
      rw [f_X5_knownBy_4.eq_2, hM.1.2.2.2.2, if_neg (nI_ge hi (by omega)), z_has g (by omega), nI_1, z_ck (show i < 8 by omega) (by decide), nI_clamp (show i < 2 ^ 31 by omega), (hM.2.2 i (by omega)).2.2.2]
      cases bt g i <;> rfl)
def s_seenBy (V : kv_V) (c : Nat) : Int32 := z_mask (fun x => bt (V.2.1 x) c) (V.1 5 3)
theorem s_X0_seenBy {M : kx_M} {o : Nat} {V : kv_V} (hok : kv_ok V) (hX : kv_X M o V) {c : Nat} (hc : c < 32) : f_X0_seenBy o M (nI c) = some (s_seenBy V c) := by
  have hv := hok.2.2.2.1
  unfold f_X0_seenBy
  exact kz_run0 (F := fun n i a => f_X0_seenBy_4 o M n (nI c) a i) (k := fun a => some a) (V.1 5 3) 0 (by omega)
    (fun n a => by
      rw [f_X0_seenBy_4.eq_2, hX.1.2.2.2.2]
      exact if_pos (Int32.le_refl _))
    (fun n i a hi => by
      rw [f_X0_seenBy_4.eq_2, hX.1.2.2.2.2, if_neg (nI_ge hi (by omega)), z_ck (show i < 8 by omega) (by decide), nI_clamp (show i < 2 ^ 31 by omega), (hX.2.2.1 i (by omega)).2.2.2, z_isIn _ hc, nI_1]
      dsimp only
      by_cases hb : bt (V.2.1 i) c = true
      · rw [if_pos hb, if_pos hb]
      · rw [if_neg hb, if_neg hb])
theorem s_X5_seenBy {M : kx_M} {V : kv_V} (hok : kv_ok V) (hM : kv_M M V) {c : Nat} (hc : c < 32) : f_X5_seenBy M (nI c) = some (s_seenBy V c) := by
  have hv := hok.2.2.2.1
  unfold f_X5_seenBy
  exact kz_run0 (F := fun n i a => f_X5_seenBy_4 M n (nI c) a i) (k := fun a => some a) (V.1 5 3) 0 (by omega)
    (fun n a => by
      rw [f_X5_seenBy_4.eq_2, hM.1.2.2.2.2]
      exact if_pos (Int32.le_refl _))
    (fun n i a hi => by
      rw [f_X5_seenBy_4.eq_2, hM.1.2.2.2.2, if_neg (nI_ge hi (by omega)), z_ck (show i < 8 by omega) (by decide), nI_clamp (show i < 2 ^ 31 by omega), (hM.2.2 i (by omega)).2.2.2, z_has _ hc, nI_1]
      dsimp only
      by_cases hb : bt (V.2.1 i) c = true
      · rw [if_pos hb, if_pos hb]
      · rw [if_neg hb, if_neg hb])
def s_all (V : kv_V) : Int32 := ((1 : Int32) <<< (nI (V.1 5 3) &&& 31)) - (1 : Int32)
theorem s_X0_all {M : kx_M} {o : Nat} {V : kv_V} (hX : kv_X M o V) : f_X0_all o M = s_all V := by
  unfold f_X0_all s_all
  rw [hX.1.2.2.2.2]
theorem s_X5_all {M : kx_M} {V : kv_V} (hM : kv_M M V) : f_X5_all M = s_all V := by
  unfold f_X5_all s_all
  rw [hM.1.2.2.2.2]
def s_new (V : kv_V) (g : Int32) : Int32 := s_any V g (nI (V.1 5 1)) &&& (s_known V (s_all V) ^^^ (-1 : Int32))
theorem s_X0_new {M : kx_M} {o : Nat} {V : kv_V} (hok : kv_ok V) (hX : kv_X M o V) (g : Int32) : f_X0_newBy o M g = some (s_new V g) := by
  unfold f_X0_newBy
  rw [hX.1.2.1, s_X0_any hok hX, s_X0_all hX, s_X0_known hok hX]
  rfl
theorem s_X5_new {M : kx_M} {V : kv_V} (hok : kv_ok V) (hM : kv_M M V) (g : Int32) : f_X5_newOf M g = some (s_new V g) := by
  unfold f_X5_newOf
  rw [s_X5_any hok hM, s_X5_all hM, s_X5_known hok hM]
  rfl
/-- where VEIL stands behind a visit -/
def s_behind (V : kv_V) (g t : Int32) : Int32 := f_X4_levelOf ((t + nI (fb_ct (fun y => bt g y && kv_asks V y) (V.1 5 3))) - nI (fb_ct (fun y => bt g y && kv_kid V y) (V.1 5 3)))
theorem s_X0_behind {M : kx_M} {o : Nat} {V : kv_V} (hok : kv_ok V) (hX : kv_X M o V) (g t : Int32) : f_X0_veilBehind o M g t = s_behind V g t := by
  have hv := hok.2.2.2.1
  unfold f_X0_veilBehind s_behind
  rw [hX.2.2.2.1, hX.2.2.2.2.1, z_and_mask _ _ (by omega), z_and_mask _ _ (by omega), z_bcm _ _ hv, z_bcm _ _ hv]
def s_bst (V : kv_V) (g : Int32) (y : Nat) (a : Int32) : Int32 := if bt g y = true then (if kv_asks V y = true then a + 1 else if kv_kid V y = true then a + (-1) else a + 0) else a
theorem s_excl {V : kv_V} {y : Nat} (h : kv_asks V y = true) : kv_kid V y = false := by
  unfold kv_asks at h
  unfold kv_kid
  rw [Bool.or_eq_true, beq_iff_eq, beq_iff_eq] at h
  rcases h with h | h <;> rw [h] <;> rfl
theorem s_bst_sum (V : kv_V) (g b : Int32) : ∀ m, kz_up (s_bst V g) m 0 b = (b + nI (fb_ct (fun y => bt g y && kv_asks V y) m)) - nI (fb_ct (fun y => bt g y && kv_kid V y) m)
  | 0 => by
    show b = (b + 0) - 0
    rw [Int32.add_zero, Int32.sub_zero]
  | m + 1 => by
    rw [kz_up_end, s_bst_sum V g b m, Nat.zero_add, fb_ct_succ, fb_ct_succ]
    unfold s_bst
    generalize hA : fb_ct (fun y => bt g y && kv_asks V y) m = A
    generalize hC : fb_ct (fun y => bt g y && kv_kid V y) m = C
    cases bt g m with
    | false => rfl
    | true =>
      cases ha : kv_asks V m with
      | true =>
        rw [s_excl ha]
        exact z_bst1 b A C
      | false =>
        cases kv_kid V m with
        | false => exact Int32.add_zero _
        | true => exact z_bst2 b A C
theorem s_X5_behind {M : kx_M} {V : kv_V} (hok : kv_ok V) (hM : kv_M M V) (g : Int32) : f_X5_veilBehind M g = some (s_behind V g (nI (V.1 5 1))) := by
  have hv := hok.2.2.2.1
  unfold f_X5_veilBehind
  rw [z_ck2a, z_c0, hM.1.2.1]
  have lp : f_X5_veilBehind_9 M kx_fuel g (nI (V.1 5 1)) (nI 0) = some (f_X4_levelOf (kz_up (s_bst V g) (V.1 5 3) 0 (nI (V.1 5 1)))) :=
    kz_run0 (F := fun n i a => f_X5_veilBehind_9 M n g a i) (st := s_bst V g) (k := fun a => some (f_X4_levelOf a)) (V.1 5 3) _ (by omega)
    (fun n a => by
      rw [f_X5_veilBehind_9.eq_2, hM.1.2.2.2.2]
      exact if_pos (Int32.le_refl _))
    (fun n i a hi => by
      rw [f_X5_veilBehind_9.eq_2, hM.1.2.2.2.2, if_neg (nI_ge hi (by omega)), z_has g (by omega), s_X5_asks hok hM (show i < 8 by omega)]
      unfold s_bst
      simp only [z_ck (show i < 8 by omega) (by decide : (8 : Nat) ≤ 4096), nI_clamp (show i < 2 ^ 31 by omega), s_X5_kid hok hM (show i < 8 by omega), Option.bind_some, nI_1]
      cases bt g i <;> cases kv_asks V i <;> cases kv_kid V i <;> rfl)
  exact lp.trans (by rw [s_bst_sum]; rfl)
