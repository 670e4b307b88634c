/-! lift: a game by counts and by sets -/
def oc (l : Bool) (o : Option Nat) (v : Nat) : Option Nat :=
  match o with
  | none => some v
  | some m => some (if l = true then (if v < m then v else m) else (if m < v then v else m))
def oB (l : Bool) (o : Option Nat) (T : Nat → Prop) : Prop :=
  match o with
  | none => ∀ y, ¬ T y
  | some m => T m ∧ ∀ y, T y → (if l = true then m ≤ y else y ≤ m)
theorem oc_B {l : Bool} {o : Option Nat} {T : Nat → Prop} {v : Nat} (h : oB l o T) : oB l (oc l o v) (fun y => T y ∨ y = v) := by
  cases o with
  | none =>
    refine ⟨Or.inr rfl, fun y hy => ?_⟩
    rcases hy with hy | hy
    · exact absurd hy (h y)
    · rw [hy]
      split <;> exact Nat.le_refl _
  | some m =>
    obtain ⟨h1, h2⟩ := h
    cases l with
    | true =>
      show oB true (some (if v < m then v else m)) _
      refine ⟨?_, fun y hy => ?_⟩
      · split
        · exact Or.inr rfl
        · exact Or.inl h1
      · rw [if_pos rfl]
        rcases hy with hy | hy
        · have := h2 y hy
          rw [if_pos rfl] at this
          split <;> omega
        · split <;> omega
    | false =>
      show oB false (some (if m < v then v else m)) _
      refine ⟨?_, fun y hy => ?_⟩
      · split
        · exact Or.inr rfl
        · exact Or.inl h1
      · rw [if_neg (show ¬ false = true by decide)]
        rcases hy with hy | hy
        · have := h2 y hy
          rw [if_neg (show ¬ false = true by decide)] at this
          split <;> omega
        · split <;> omega
theorem oB_congr {l : Bool} {o : Option Nat} {T T' : Nat → Prop} (h : oB l o T) (e : ∀ y, T y ↔ T' y) : oB l o T' := by
  cases o with
  | none => exact fun y hy => h y ((e y).mpr hy)
  | some m => exact ⟨(e m).mp h.1, fun y hy => h.2 y ((e y).mpr hy)⟩
theorem oB_one {l : Bool} {o o' : Option Nat} {T T' : Nat → Prop} (h : oB l o T) (h' : oB l o' T') (e : ∀ y, T y ↔ T' y) : o = o' := by
  have h2 := oB_congr h e
  cases o with
  | none =>
    cases o' with
    | none => rfl
    | some m => exact absurd h'.1 (h2 m)
  | some m =>
    cases o' with
    | none => exact absurd h2.1 (h' m)
    | some k =>
      have a := h2.2 k h'.1
      have b := h'.2 m h2.1
      cases l with
      | true =>
        rw [if_pos rfl] at a b
        exact congrArg some (by omega)
      | false =>
        rw [if_neg (show ¬ false = true by decide)] at a b
        exact congrArg some (by omega)
def s_up (t : Nat) : Nat := if t < 20 then t + 1 else 20
theorem z_up1 : ∀ t, t < 21 → f_X4_levelOf (nI t + (1 : Int32)) = nI (s_up t) := by decide +kernel
theorem z_dn1 : ∀ t, t < 21 → f_X4_levelOf (nI t - (1 : Int32)) = nI (t - 1) := by decide +kernel
def s_o1 (l : Bool) (A va : Nat) : Option Nat := if 0 < A then oc l none va else none
def s_o2 (l : Bool) (o : Option Nat) (D vd : Nat) : Option Nat := if 0 < D then oc l o vd else o
def s_val : Nat → Nat → Nat → Nat → Nat → Bool → Nat
  | 0, t, _, _, _, _ => t
  | k + 1, t, A, D, S, l => if A + D + S = 0 then t else (s_o2 l (s_o2 l (s_o1 l A (s_val k (s_up t) (A - 1) D S (!l))) D (s_val k (t - 1) A (D - 1) S (!l))) S (s_val k t A D (S - 1) (!l))).getD 0
/-- an answer within 20 -/
def o20 (o : Option Nat) : Prop := ∀ m, o = some m → m ≤ 20
theorem oc_20 {l : Bool} {o : Option Nat} {v : Nat} (h : o20 o) (hv : v ≤ 20) : o20 (oc l o v) := by
  intro m hm
  cases o with
  | none =>
    have : v = m := Option.some.inj hm
    omega
  | some k =>
    have hk := h k rfl
    have : (if l = true then (if v < k then v else k) else (if k < v then v else k)) = m := Option.some.inj hm
    rw [← this]
    split <;> split <;> omega
theorem s_o1_20 {l : Bool} {A v : Nat} (hv : v ≤ 20) : o20 (s_o1 l A v) := by
  unfold s_o1
  split
  · exact oc_20 (fun m hm => by cases hm) hv
  · exact fun m hm => by cases hm
theorem s_o2_20 {l : Bool} {o : Option Nat} {D v : Nat} (h : o20 o) (hv : v ≤ 20) : o20 (s_o2 l o D v) := by
  unfold s_o2
  split
  · exact oc_20 h hv
  · exact h
theorem s_val_20 : ∀ k t A D S l, t ≤ 20 → s_val k t A D S l ≤ 20
  | 0, t, _, _, _, _, h => h
  | k + 1, t, A, D, S, l, h => by
    unfold s_val
    split
    · exact h
    · have e := s_o2_20 (l := l) (D := S) (v := s_val k t A D (S - 1) (!l)) (s_o2_20 (l := l) (D := D) (v := s_val k (t - 1) A (D - 1) S (!l)) (s_o1_20 (l := l) (A := A) (v := s_val k (s_up t) (A - 1) D S (!l)) (s_val_20 k _ _ _ _ _ (by unfold s_up; split <;> omega))) (s_val_20 k _ _ _ _ _ (by omega))) (s_val_20 k _ _ _ _ _ h)
      generalize s_o2 l (s_o2 l (s_o1 l A (s_val k (s_up t) (A - 1) D S (!l))) D (s_val k (t - 1) A (D - 1) S (!l))) S (s_val k t A D (S - 1) (!l)) = o at e
      cases o with
      | none => exact Nat.zero_le _
      | some m => exact e m rfl
/-- the best so far, as the class writes it -/
def xr (l : Bool) (o : Option Nat) : Int32 := match o with
  | none => if l = true then 21 else -1
  | some m => nI m
theorem xr_step {l : Bool} {o : Option Nat} {v : Nat} (h : o20 o) (hv : v ≤ 20) : (if l = true then (if nI v < xr l o then nI v else xr l o) else (if xr l o < nI v then nI v else xr l o)) = xr l (oc l o v) := by
  cases o with
  | none =>
    cases l with
    | true =>
      show (if true = true then (if nI v < 21 then nI v else 21) else _) = nI v
      rw [if_pos rfl, if_pos (show nI v < (21 : Int32) from nI_lt (b := 21) (by omega) (by omega))]
    | false =>
      show (if false = true then _ else (if (-1 : Int32) < nI v then nI v else -1)) = nI v
      rw [if_neg (show ¬ false = true by decide), if_pos (Int32.lt_of_lt_of_le (show (-1 : Int32) < 0 by decide) (nI_pos' (by omega)))]
  | some m =>
    have hm := h m rfl
    cases l with
    | true =>
      show (if true = true then (if nI v < nI m then nI v else nI m) else _) = nI (if v < m then v else m)
      rw [if_pos rfl]
      by_cases q : v < m
      · rw [if_pos q, if_pos (nI_lt q (by omega))]
      · rw [if_neg q, if_neg (nI_nlt (by omega) (by omega))]
    | false =>
      show (if false = true then _ else (if nI m < nI v then nI v else nI m)) = nI (if m < v then v else m)
      rw [if_neg (show ¬ false = true by decide)]
      by_cases q : m < v
      · rw [if_pos q, if_pos (nI_lt q (by omega))]
      · rw [if_neg q, if_neg (nI_nlt (by omega) (by omega))]
theorem nI_p1 {a : Nat} (h : 0 < a) : nI a - (1 : Int32) = nI (a - 1) := by
  have := nI_pred (a - 1)
  rw [show a - 1 + 1 = a by omega] at this
  exact this
theorem s_X4_t3 {rec : Int32 → Int32 → Int32 → Int32 → Int32 → Bool → Option Int32} {k t A D S : Nat} {l : Bool} (ih : ∀ t A D S l, t ≤ 20 → A ≤ 8 → D ≤ 8 → S ≤ 8 → rec (nI t) (nI A) (nI D) (nI S) (nI k) l = some (nI (s_val k t A D S l))) (ht : t ≤ 20) (hA : A ≤ 8) (hD : D ≤ 8) (hS : S ≤ 8) : ∀ o, o20 o → f_X4_veilByTurns_144 rec (nI t) (nI A) (nI D) (nI S) (nI (k + 1)) l (xr l o) = some (xr l (s_o2 l o S (s_val k t A D (S - 1) (!l)))) := by
  intro o ho
  unfold f_X4_veilByTurns_144 f_X4_veilByTurns_168 s_o2
  by_cases q : 0 < S
  · rw [if_neg (nI_nle q (by omega)), if_pos q, nI_p1 q, nI_pred, ← xr_step ho (s_val_20 k t A D (S - 1) (!l) ht)]
    cases l with
    | true =>
      rw [if_pos rfl, if_pos rfl, ih _ _ _ _ _ ht hA hD (by omega)]
      rfl
    | false =>
      rw [if_neg (show ¬ false = true by decide), if_neg (show ¬ false = true by decide), ih _ _ _ _ _ ht hA hD (by omega)]
      rfl
  · rw [if_neg q, if_pos (show nI S ≤ (0 : Int32) by rw [show S = 0 by omega]; decide)]
theorem s_X4_t2 {rec : Int32 → Int32 → Int32 → Int32 → Int32 → Bool → Option Int32} {k t A D S : Nat} {l : Bool} (ih : ∀ t A D S l, t ≤ 20 → A ≤ 8 → D ≤ 8 → S ≤ 8 → rec (nI t) (nI A) (nI D) (nI S) (nI k) l = some (nI (s_val k t A D S l))) (ht : t ≤ 20) (hA : A ≤ 8) (hD : D ≤ 8) (hS : S ≤ 8) : ∀ o, o20 o → f_X4_veilByTurns_86 rec (nI t) (nI A) (nI D) (nI S) (nI (k + 1)) l (xr l o) = some (xr l (s_o2 l (s_o2 l o D (s_val k (t - 1) A (D - 1) S (!l))) S (s_val k t A D (S - 1) (!l)))) := by
  have st3 := s_X4_t3 (l := l) ih ht hA hD hS
  intro o ho
  have e1 : s_o2 l o D (s_val k (t - 1) A (D - 1) S (!l)) = if 0 < D then oc l o (s_val k (t - 1) A (D - 1) S (!l)) else o := rfl
  unfold f_X4_veilByTurns_86 f_X4_veilByTurns_115
  by_cases q : 0 < D
  · rw [e1, if_pos q, if_neg (nI_nle q (by omega)), nI_p1 q, nI_pred, z_dn1 t (by omega), ← st3 _ (oc_20 ho (s_val_20 k (t - 1) A (D - 1) S (!l) (by omega))), ← xr_step ho (s_val_20 k (t - 1) A (D - 1) S (!l) (by omega))]
    cases l with
    | true =>
      rw [if_pos rfl, if_pos rfl, ih _ _ _ _ _ (by omega) hA (by omega) hS]
      rfl
    | false =>
      rw [if_neg (show ¬ false = true by decide), if_neg (show ¬ false = true by decide), ih _ _ _ _ _ (by omega) hA (by omega) hS]
      rfl
  · rw [e1, if_neg q, if_pos (show nI D ≤ (0 : Int32) by rw [show D = 0 by omega]; decide)]
    exact st3 o ho
theorem s_X4_t1 {rec : Int32 → Int32 → Int32 → Int32 → Int32 → Bool → Option Int32} {k t A D S : Nat} {l : Bool} (ih : ∀ t A D S l, t ≤ 20 → A ≤ 8 → D ≤ 8 → S ≤ 8 → rec (nI t) (nI A) (nI D) (nI S) (nI k) l = some (nI (s_val k t A D S l))) (ht : t ≤ 20) (hA : A ≤ 8) (hD : D ≤ 8) (hS : S ≤ 8) : f_X4_veilByTurns_26 rec (nI t) (nI A) (nI D) (nI S) (nI (k + 1)) l (xr l none) = some (xr l (s_o2 l (s_o2 l (s_o1 l A (s_val k (s_up t) (A - 1) D S (!l))) D (s_val k (t - 1) A (D - 1) S (!l))) S (s_val k t A D (S - 1) (!l)))) := by
  have ut : s_up t ≤ 20 := by unfold s_up; split <;> omega
  have st2 := s_X4_t2 (l := l) ih ht hA hD hS
  have e1 : s_o1 l A (s_val k (s_up t) (A - 1) D S (!l)) = if 0 < A then oc l none (s_val k (s_up t) (A - 1) D S (!l)) else none := rfl
  have ho : o20 none := fun m hm => by cases hm
  unfold f_X4_veilByTurns_26 f_X4_veilByTurns_57
  by_cases q : 0 < A
  · rw [e1, if_pos q, if_neg (nI_nle q (by omega)), nI_p1 q, nI_pred, z_up1 t (by omega), ← st2 _ (oc_20 ho (s_val_20 k (s_up t) (A - 1) D S (!l) ut)), ← xr_step ho (s_val_20 k (s_up t) (A - 1) D S (!l) ut)]
    cases l with
    | true =>
      rw [if_pos rfl, if_pos rfl, ih _ _ _ _ _ ut (by omega) hD hS]
      rfl
    | false =>
      rw [if_neg (show ¬ false = true by decide), if_neg (show ¬ false = true by decide), ih _ _ _ _ _ ut (by omega) hD hS]
      rfl
  · rw [e1, if_neg q, if_pos (show nI A ≤ (0 : Int32) by rw [show A = 0 by omega]; decide)]
    exact st2 none ho
theorem s_X4_turns (k : Nat) : ∀ (n t A D S : Nat) (l : Bool), k < n → t ≤ 20 → A ≤ 8 → D ≤ 8 → S ≤ 8 → k ≤ 8 → f_X4_veilByTurns n (nI t) (nI A) (nI D) (nI S) (nI k) l = some (nI (s_val k t A D S l)) := by
  induction k with
  | zero =>
    intro n t A D S l h ht hA hD hS hk
    cases n with
    | zero => exact absurd h (Nat.not_lt_zero _)
    | succ n =>
      rw [f_X4_veilByTurns.eq_2]
      unfold f_X4_veilByTurns_b
      rw [if_pos (show nI 0 ≤ (0 : Int32) by decide)]
      rfl
  | succ k ihk =>
    intro n t A D S l h ht hA hD hS hk
    cases n with
    | zero => exact absurd h (Nat.not_lt_zero _)
    | succ n =>
        rw [f_X4_veilByTurns.eq_2]
        have ih : ∀ t A D S l, t ≤ 20 → A ≤ 8 → D ≤ 8 → S ≤ 8 → f_X4_veilByTurns n (nI t) (nI A) (nI D) (nI S) (nI k) l = some (nI (s_val k t A D S l)) := fun t A D S l h1 h2 h3 h4 => ihk n t A D S l (by omega) h1 h2 h3 h4 (by omega)
        have st1 := s_X4_t1 (l := l) ih ht hA hD hS
        unfold f_X4_veilByTurns_b
        rw [if_neg (nI_nle (by omega) (by omega)), nI_add, nI_add]
        have ev : s_val (k + 1) t A D S l = if A + D + S = 0 then t else (s_o2 l (s_o2 l (s_o1 l A (s_val k (s_up t) (A - 1) D S (!l))) D (s_val k (t - 1) A (D - 1) S (!l))) S (s_val k t A D (S - 1) (!l))).getD 0 := rfl
        by_cases q : A + D + S = 0
        · rw [if_neg (show ¬ (0 : Int32) < nI (A + D + S) by rw [q]; decide), ev, if_pos q]
        · rw [if_pos (show (0 : Int32) < nI (A + D + S) from nI_lt (a := 0) (by omega) (by omega)), ev, if_neg q]
          have es : ∀ rec, (if l = true then f_X4_veilByTurns_26 rec (nI t) (nI A) (nI D) (nI S) (nI (k + 1)) l (21 : Int32) else f_X4_veilByTurns_26 rec (nI t) (nI A) (nI D) (nI S) (nI (k + 1)) l (-1 : Int32)) = f_X4_veilByTurns_26 rec (nI t) (nI A) (nI D) (nI S) (nI (k + 1)) l (xr l none) := by
            intro rec
            cases l with
            | true => rw [if_pos rfl]; rfl
            | false => rw [if_neg (show ¬ false = true by decide)]; rfl
          rw [es, st1]
          have hne : ∃ m, s_o2 l (s_o2 l (s_o1 l A (s_val k (s_up t) (A - 1) D S (!l))) D (s_val k (t - 1) A (D - 1) S (!l))) S (s_val k t A D (S - 1) (!l)) = some m := by
            have oce : ∀ o v, ∃ m, oc l o v = some m := by
              intro o v
              cases o with
              | none => exact ⟨_, rfl⟩
              | some m => exact ⟨_, rfl⟩
            unfold s_o2 s_o1
            by_cases q3 : 0 < S
            · rw [if_pos q3]
              exact oce _ _
            · rw [if_neg q3]
              by_cases q2 : 0 < D
              · rw [if_pos q2]
                exact oce _ _
              · rw [if_neg q2, if_pos (show 0 < A by omega)]
                exact oce _ _
          obtain ⟨m, em⟩ := hne
          rw [em]
          rfl
/-- who is left: askers, children, others -/
def s_cA (V : kv_V) (q : Nat → Bool) : Nat := fb_ct (fun y => !q y && kv_asks V y) (V.1 5 3)
def s_cD (V : kv_V) (q : Nat → Bool) : Nat := fb_ct (fun y => !q y && kv_kid V y) (V.1 5 3)
def s_cS (V : kv_V) (q : Nat → Bool) : Nat := fb_ct (fun y => !q y && !(kv_asks V y || kv_kid V y)) (V.1 5 3)
def s_tv (V : kv_V) (t x : Nat) : Nat := if kv_asks V x = true then s_up t else if kv_kid V x = true then t - 1 else t
def s_wx (q : Nat → Bool) (x : Nat) : Nat → Bool := fun y => q y || decide (y = x)
theorem s_ct_wx (V : kv_V) (q p : Nat → Bool) {x : Nat} (hx : x < V.1 5 3) (hq : q x = false) : fb_ct (fun y => !s_wx q x y && p y) (V.1 5 3) + (if p x = true then 1 else 0) = fb_ct (fun y => !q y && p y) (V.1 5 3) := by
  have := fb_ct_upd (fun y => !q y && p y) false hx
  rw [hq] at this
  have e : fb_ct (fun y => !s_wx q x y && p y) (V.1 5 3) = fb_ct (fun k => if k = x then false else (!q k && p k)) (V.1 5 3) := fb_ct_cong (fun k hk => by
    unfold s_wx
    by_cases ek : k = x
    · rw [if_pos ek, decide_eq_true ek, Bool.or_true]
      rfl
    · rw [if_neg ek, decide_eq_false ek, Bool.or_false])
  rw [e]
  simp only [Bool.not_false, Bool.true_and, Bool.false_eq_true, if_false, Nat.add_zero] at this
  exact this
theorem s_tv_20 (V : kv_V) {t : Nat} (x : Nat) (ht : t ≤ 20) : s_tv V t x ≤ 20 := by
  unfold s_tv s_up
  split
  · split <;> omega
  · split <;> omega
theorem fb_ct_single (p : Nat → Bool) {x n : Nat} (hx : x < n) (hx32 : x < 32) (hn : n ≤ 32) : fb_ct (fun y => bt ((1 : Int32) <<< (nI x &&& 31)) y && p y) n = if p x = true then 1 else 0 := by
  have e : fb_ct (fun y => bt ((1 : Int32) <<< (nI x &&& 31)) y && p y) n = fb_ct (fun k => if k = x then p x else (fun _ => false) k) n := fb_ct_cong (fun k hk => by
    rw [bt_one hx32 (by omega)]
    by_cases ek : k = x
    · rw [if_pos ek, decide_eq_true ek, ek, Bool.true_and]
    · rw [if_neg ek, decide_eq_false ek, Bool.false_and])
  have h2 := fb_ct_upd (fun _ => false) (p x) hx
  have h3 : fb_ct (fun _ => false) n = 0 := fb_ct_zero.mpr (fun k _ => rfl)
  rw [h3] at h2
  simp only [Bool.false_eq_true, if_false, Nat.add_zero, Nat.zero_add] at h2
  rw [e, h2]
theorem s_behind_one {V : kv_V} {t x : Nat} (hv : V.1 5 3 ≤ 8) (hx : x < V.1 5 3) (ht : t ≤ 20) : s_behind V ((1 : Int32) <<< (nI x &&& 31)) (nI t) = nI (s_tv V t x) := by
  unfold s_behind s_tv
  rw [fb_ct_single _ hx (by omega) (by omega), fb_ct_single _ hx (by omega) (by omega)]
  by_cases ha : kv_asks V x = true
  · rw [if_pos ha, if_pos ha, s_excl ha, if_neg (show ¬ false = true by decide), nI_0, Int32.sub_zero]
    exact z_up1 t (by omega)
  · rw [if_neg ha, if_neg ha, nI_0, Int32.add_zero]
    by_cases hk : kv_kid V x = true
    · rw [if_pos hk, if_pos hk]
      exact z_dn1 t (by omega)
    · rw [if_neg hk, if_neg hk, nI_0, Int32.sub_zero, kv_level_id ht]
/-- what comes of sending x first -/
def s_ch (V : kv_V) (k t : Nat) (q : Nat → Bool) (l : Bool) (x : Nat) : Nat := s_val k (s_tv V t x) (s_cA V (s_wx q x)) (s_cD V (s_wx q x)) (s_cS V (s_wx q x)) (!l)
theorem s_left (V : kv_V) (q : Nat → Bool) : (0 < s_cA V q + s_cD V q + s_cS V q) ↔ ∃ x, x < V.1 5 3 ∧ q x = false := by
  constructor
  · intro h
    by_cases h1 : 0 < s_cA V q
    · obtain ⟨x, hx, e⟩ := fb_ct_pos.mp h1
      refine ⟨x, hx, ?_⟩
      cases hq : q x with
      | false => rfl
      | true => rw [hq] at e; exact absurd e (by simp)
    · by_cases h2 : 0 < s_cD V q
      · obtain ⟨x, hx, e⟩ := fb_ct_pos.mp h2
        refine ⟨x, hx, ?_⟩
        cases hq : q x with
        | false => rfl
        | true => rw [hq] at e; exact absurd e (by simp)
      · obtain ⟨x, hx, e⟩ := fb_ct_pos.mp (show 0 < s_cS V q by omega)
        refine ⟨x, hx, ?_⟩
        cases hq : q x with
        | false => rfl
        | true => rw [hq] at e; exact absurd e (by simp)
  · rintro ⟨x, hx, hq⟩
    by_cases ha : kv_asks V x = true
    · have : 0 < s_cA V q := fb_ct_pos.mpr ⟨x, hx, by rw [hq, ha]; rfl⟩
      omega
    · by_cases hk : kv_kid V x = true
      · have : 0 < s_cD V q := fb_ct_pos.mpr ⟨x, hx, by rw [hq, hk]; rfl⟩
        omega
      · have : 0 < s_cS V q := fb_ct_pos.mpr ⟨x, hx, by
          rw [Bool.not_eq_true] at ha hk
          rw [hq, ha, hk]
          rfl⟩
        omega
/-- the best by classes is the best of all that are left -/
theorem s_best_all (V : kv_V) (k t : Nat) (q : Nat → Bool) (l : Bool) : oB l (s_o2 l (s_o2 l (s_o1 l (s_cA V q) (s_val k (s_up t) (s_cA V q - 1) (s_cD V q) (s_cS V q) (!l))) (s_cD V q) (s_val k (t - 1) (s_cA V q) (s_cD V q - 1) (s_cS V q) (!l))) (s_cS V q) (s_val k t (s_cA V q) (s_cD V q) (s_cS V q - 1) (!l))) (fun y => ∃ x, x < V.1 5 3 ∧ q x = false ∧ y = s_ch V k t q l x) := by
  have cls : ∀ x, x < V.1 5 3 → q x = false → s_ch V k t q l x = if kv_asks V x = true then s_val k (s_up t) (s_cA V q - 1) (s_cD V q) (s_cS V q) (!l) else if kv_kid V x = true then s_val k (t - 1) (s_cA V q) (s_cD V q - 1) (s_cS V q) (!l) else s_val k t (s_cA V q) (s_cD V q) (s_cS V q - 1) (!l) := by
    intro x hx hq
    have eA := s_ct_wx V q (kv_asks V) hx hq
    have eD := s_ct_wx V q (kv_kid V) hx hq
    have eS := s_ct_wx V q (fun y => !(kv_asks V y || kv_kid V y)) hx hq
    unfold s_ch s_tv
    have a1 : s_cA V (s_wx q x) = s_cA V q - (if kv_asks V x = true then 1 else 0) := by
      unfold s_cA
      omega
    have d1 : s_cD V (s_wx q x) = s_cD V q - (if kv_kid V x = true then 1 else 0) := by
      unfold s_cD
      omega
    have t1 : s_cS V (s_wx q x) = s_cS V q - (if (!(kv_asks V x || kv_kid V x)) = true then 1 else 0) := by
      unfold s_cS
      omega
    rw [a1, d1, t1]
    by_cases ha : kv_asks V x = true
    · rw [if_pos ha, if_pos ha, if_pos ha, s_excl ha, ha]
      rfl
    · by_cases hk : kv_kid V x = true
      · rw [if_neg ha, if_neg ha, if_neg ha, if_pos hk, if_pos hk, if_pos hk, hk, Bool.or_true]
        rfl
      · rw [if_neg ha, if_neg ha, if_neg ha, if_neg hk, if_neg hk, if_neg hk]
        rw [Bool.not_eq_true] at ha hk
        rw [ha, hk]
        rfl
  have b1 : oB l (s_o1 l (s_cA V q) (s_val k (s_up t) (s_cA V q - 1) (s_cD V q) (s_cS V q) (!l))) (fun y => 0 < s_cA V q ∧ y = s_val k (s_up t) (s_cA V q - 1) (s_cD V q) (s_cS V q) (!l)) := by
    unfold s_o1
    by_cases h : 0 < s_cA V q
    · rw [if_pos h]
      exact oB_congr (oc_B (T := fun _ => False) (fun _ z => z)) (fun y => ⟨fun z => ⟨h, z.elim False.elim id⟩, fun z => Or.inr z.2⟩)
    · rw [if_neg h]
      exact fun y z => h z.1
  have b2 : ∀ o T D v, oB l o T → oB l (s_o2 l o D v) (fun y => T y ∨ (0 < D ∧ y = v)) := by
    intro o T D v ho
    unfold s_o2
    by_cases h : 0 < D
    · rw [if_pos h]
      exact oB_congr (oc_B ho) (fun y => ⟨fun z => z.imp id (fun w => ⟨h, w⟩), fun z => z.imp id (fun w => w.2)⟩)
    · rw [if_neg h]
      exact oB_congr ho (fun y => ⟨Or.inl, fun z => z.elim id (fun w => absurd w.1 h)⟩)
  refine oB_congr (b2 _ _ _ _ (b2 _ _ _ _ b1)) (fun y => ?_)
  constructor
  · rintro ((⟨h, e⟩ | ⟨h, e⟩) | ⟨h, e⟩)
    · obtain ⟨x, hx, w⟩ := fb_ct_pos.mp h
      rw [Bool.and_eq_true, Bool.not_eq_true'] at w
      exact ⟨x, hx, w.1, by rw [cls x hx w.1, if_pos w.2]; exact e⟩
    · obtain ⟨x, hx, w⟩ := fb_ct_pos.mp h
      rw [Bool.and_eq_true, Bool.not_eq_true'] at w
      have na : ¬ kv_asks V x = true := fun z => by
        rw [s_excl z] at w
        exact absurd w.2 (by decide)
      exact ⟨x, hx, w.1, by rw [cls x hx w.1, if_neg na, if_pos w.2]; exact e⟩
    · obtain ⟨x, hx, w⟩ := fb_ct_pos.mp h
      rw [Bool.and_eq_true, Bool.not_eq_true', Bool.not_eq_true', Bool.or_eq_false_iff] at w
      exact ⟨x, hx, w.1, by rw [cls x hx w.1, if_neg (by rw [w.2.1]; decide), if_neg (by rw [w.2.2]; decide)]; exact e⟩
  · rintro ⟨x, hx, hq, e⟩
    rw [cls x hx hq] at e
    by_cases ha : kv_asks V x = true
    · rw [if_pos ha] at e
      exact Or.inl (Or.inl ⟨fb_ct_pos.mpr ⟨x, hx, by rw [hq, ha]; rfl⟩, e⟩)
    · rw [if_neg ha] at e
      by_cases hk : kv_kid V x = true
      · rw [if_pos hk] at e
        exact Or.inl (Or.inr ⟨fb_ct_pos.mpr ⟨x, hx, by rw [hq, hk]; rfl⟩, e⟩)
      · rw [if_neg hk] at e
        rw [Bool.not_eq_true] at ha hk
        exact Or.inr ⟨fb_ct_pos.mpr ⟨x, hx, by rw [hq, ha, hk]; rfl⟩, e⟩
