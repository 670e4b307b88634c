/-! the tape's tokens, by both -/
def s_scan (p : Nat → Bool) : Nat → Nat → Nat
  | 0, i => i
  | m + 1, i => if p i = true then s_scan p m (i + 1) else i
theorem s_scan_le (p : Nat → Bool) : ∀ m i, i ≤ s_scan p m i ∧ s_scan p m i ≤ i + m
  | 0, i => ⟨Nat.le_refl i, Nat.le_refl i⟩
  | m + 1, i => by
    have h := s_scan_le p m (i + 1)
    show i ≤ (if p i = true then s_scan p m (i + 1) else i) ∧ (if p i = true then s_scan p m (i + 1) else i) ≤ i + (m + 1)
    by_cases q : p i = true
    · rw [if_pos q]
      omega
    · rw [if_neg q]
      omega
theorem kz_scanS {α β : Type} {F : Nat → Int32 → α → Option β} {z : Nat} {p : Nat → Bool} {st : Nat → α → α} {k : Nat → α → Option β} {i0 : Nat} (hx : ∀ n a, F (n + 1) (nI z) a = k z a) (hs : ∀ n i a, i0 ≤ i → i < z → F (n + 1) (nI i) a = if p i = true then F n (nI (i + 1)) (st i a) else k i a) : ∀ (m i n : Nat) (a : α), i0 ≤ i → i + m = z → m < n → F n (nI i) a = k (s_scan p m i) (kz_up st (s_scan p m i - i) i a)
  | 0, i, 0, a, _, _, h => absurd h (Nat.not_lt_zero _)
  | m + 1, i, 0, a, _, _, h => absurd h (Nat.not_lt_zero _)
  | 0, i, n + 1, a, _, h, _ => by
    have : i = z := by omega
    subst this
    show _ = k i (kz_up st (i - i) i a)
    rw [hx n a, Nat.sub_self]
    rfl
  | m + 1, i, n + 1, a, h0, h, hn => by
    rw [hs n i a h0 (by omega)]
    show _ = k (if p i = true then s_scan p m (i + 1) else i) (kz_up st ((if p i = true then s_scan p m (i + 1) else i) - i) i a)
    by_cases q : p i = true
    · rw [if_pos q, if_pos q, kz_scanS hx hs m (i + 1) n (st i a) (by omega) (by omega) (by omega)]
      have hl := (s_scan_le p m (i + 1)).1
      rw [show s_scan p m (i + 1) - i = (s_scan p m (i + 1) - (i + 1)) + 1 by omega]
      rfl
    · rw [if_neg q, if_neg q, Nat.sub_self]
      rfl
theorem kz_scan {β : Type} {F : Nat → Int32 → Option β} {z : Nat} {p : Nat → Bool} {k : Nat → Option β} {i0 : Nat} (hx : ∀ n, F (n + 1) (nI z) = k z) (hs : ∀ n i, i0 ≤ i → i < z → F (n + 1) (nI i) = if p i = true then F n (nI (i + 1)) else k i) (m n : Nat) (h : i0 + m = z) (hn : m < n) : F n (nI i0) = k (s_scan p m i0) :=
  kz_scanS (F := fun n i (_ : Unit) => F n i) (st := fun _ a => a) (k := fun i _ => k i) (fun n _ => hx n) (fun n i _ h0 hi => hs n i h0 hi) m i0 n () (Nat.le_refl _) h hn
def t_s (L : Nat → Int32) (z p : Nat) : Nat := s_scan (fun i => decide (L i = 32)) (z - p) p
def t_k (L : Nat → Int32) (z p : Nat) : Int32 := if t_s L z p < z then f_X3_sortOf (L (t_s L z p)) else 0
def t_e (L : Nat → Int32) (z p : Nat) : Nat := if t_s L z p < z then (if t_k L z p = 1 ∨ t_k L z p = 2 then s_scan (fun i => decide (f_X3_sortOf (L i) = t_k L z p)) (z - (t_s L z p + 1)) (t_s L z p + 1) else t_s L z p + 1) else t_s L z p
theorem t_s_le {L : Nat → Int32} {z p : Nat} (hp : p ≤ z) : p ≤ t_s L z p ∧ t_s L z p ≤ z := by
  have := s_scan_le (fun i => decide (L i = 32)) (z - p) p
  unfold t_s
  omega
theorem t_e_le {L : Nat → Int32} {z p : Nat} (hp : p ≤ z) : t_s L z p ≤ t_e L z p ∧ t_e L z p ≤ z ∧ (t_s L z p < z → t_s L z p < t_e L z p) := by
  have h1 := t_s_le (L := L) hp
  unfold t_e
  by_cases q : t_s L z p < z
  · rw [if_pos q]
    by_cases q2 : t_k L z p = 1 ∨ t_k L z p = 2
    · rw [if_pos q2]
      have := s_scan_le (fun i => decide (f_X3_sortOf (L i) = t_k L z p)) (z - (t_s L z p + 1)) (t_s L z p + 1)
      omega
    · rw [if_neg q2]
      omega
  · rw [if_neg q]
    omega
theorem X_step {A : kx_M} {L : Nat → Int32} {z p : Nat} (hz : z ≤ 250) (hp : p ≤ z) (h1 : A.1 42 1 = nI z) (h3 : A.1 42 3 = nI p) (hL : ∀ k, k < z → A.1 43 k = L k) : ∃ A', f_X3_step A = some A' ∧ A'.1 42 1 = nI z ∧ A'.1 42 2 = nI (t_s L z p) ∧ A'.1 42 3 = nI (t_e L z p) ∧ A'.1 42 4 = t_k L z p ∧ (∀ r, ¬ r = 42 → A'.1 r = A.1 r) ∧ A'.2 = A.2 := by
  have hs1 := t_s_le (L := L) hp
  have sc := kz_scan (F := fun n i => f_X3_step_8 n (kx_u1 A 42 2 i)) (z := z) (p := fun i => decide (L i = 32)) (k := fun i => f_X3_step_46 (kx_u1 A 42 2 (nI i))) (i0 := p)
    (fun n => by
      have y1 : (kx_u1 A 42 2 (nI z)).1 42 1 = nI z := (kv_u1_no (by omega)).trans h1
      rw [f_X3_step_8.eq_2, y1, kv_u1_at]
      exact if_pos (Int32.le_refl _))
    (fun n i h0 hi => by
      have y1 : (kx_u1 A 42 2 (nI i)).1 42 1 = nI z := (kv_u1_no (by omega)).trans h1
      have y2 : (kx_u1 A 42 2 (nI i)).1 43 i = L i := by rw [kx_u1_ne (by omega)]; exact hL i hi
      rw [f_X3_step_8.eq_2, y1, kv_u1_at, if_neg (nI_ge hi (by omega)), z_ck (show i < 250 by omega) (by decide), nI_clamp (by omega), y2, kx_u1_twice, nI_1]
      by_cases q : L i = 32
      · rw [if_pos q, if_pos (decide_eq_true q)]
      · rw [if_neg q, if_neg (fun w => q (of_decide_eq_true w))]) (z - p) kx_fuel (by omega) (kz_f _ (by omega))
  have e0 : f_X3_step A = f_X3_step_46 (kx_u1 A 42 2 (nI (t_s L z p))) := by
    unfold f_X3_step
    rw [h3]
    exact sc
  rw [e0]
  have ss : ∃ s, s = t_s L z p := ⟨_, rfl⟩
  obtain ⟨s, hs⟩ := ss
  have kk : ∃ k, k = t_k L z p := ⟨_, rfl⟩
  obtain ⟨k, hk⟩ := kk
  have te : t_e L z p = if s < z then (if k = 1 ∨ k = 2 then s_scan (fun i => decide (f_X3_sortOf (L i) = k)) (z - (s + 1)) (s + 1) else s + 1) else s := by
    rw [hs, hk]
    rfl
  have tk : k = if s < z then f_X3_sortOf (L s) else 0 := by
    rw [hk, hs]
    rfl
  rw [te, ← hk, ← hs]
  rw [← hs] at hs1
  unfold f_X3_step_46
  have a1 : (kx_u1 (kx_u1 A 42 2 (nI s)) 42 3 ((kx_u1 A 42 2 (nI s)).1 42 2)).1 42 2 = nI s := by rw [kv_u1_no (by omega), kv_u1_at]
  have a2 : (kx_u1 (kx_u1 A 42 2 (nI s)) 42 3 ((kx_u1 A 42 2 (nI s)).1 42 2)).1 42 1 = nI z := by rw [kv_u1_no (by omega), kv_u1_no (by omega), h1]
  rw [a1, a2, kv_u1_at]
  by_cases q : s < z
  · rw [if_pos q] at tk
    have a3 : (kx_u1 (kx_u1 A 42 2 (nI s)) 42 3 (nI s)).1 43 s = L s := by rw [kx_u1_ne (by omega), kx_u1_ne (by omega)]; exact hL s q
    rw [if_pos (nI_lt q (by omega)), z_ck (show s < 250 by omega) (by decide), nI_clamp (by omega), a3, ← tk, if_pos q]
    have M4e : ∃ M4, M4 = kx_u1 (kx_u1 (kx_u1 A 42 2 (nI s)) 42 3 (nI s)) 42 4 k := ⟨_, rfl⟩
    obtain ⟨M4, hM4⟩ := M4e
    unfold kx_lt
    rw [← hM4]
    dsimp only
    have b1 : M4.1 42 1 = nI z := by rw [hM4, kv_u1_no (by omega), kv_u1_no (by omega), kv_u1_no (by omega), h1]
    have b2 : M4.1 42 2 = nI s := by rw [hM4, kv_u1_no (by omega), kv_u1_no (by omega), kv_u1_at]
    have b3 : M4.1 42 3 = nI s := by rw [hM4, kv_u1_no (by omega), kv_u1_at]
    have b4 : M4.1 42 4 = k := by rw [hM4, kv_u1_at]
    have b5 : ∀ r, ¬ r = 42 → M4.1 r = A.1 r := fun r hr => by rw [hM4, kx_u1_ne hr, kx_u1_ne hr, kx_u1_ne hr]
    have b6 : M4.2 = A.2 := by rw [hM4]; rfl
    have b4' : (kx_u1 M4 42 3 (nI (s + 1))).1 42 4 = k := (kv_u1_no (by omega)).trans b4
    rw [b3, nI_1, b4']
    have fin : ∀ e : Nat, (kx_u1 M4 42 3 (nI e)).1 42 1 = nI z ∧ (kx_u1 M4 42 3 (nI e)).1 42 2 = nI s ∧ (kx_u1 M4 42 3 (nI e)).1 42 3 = nI e ∧ (kx_u1 M4 42 3 (nI e)).1 42 4 = k ∧ (∀ r, ¬ r = 42 → (kx_u1 M4 42 3 (nI e)).1 r = A.1 r) ∧ (kx_u1 M4 42 3 (nI e)).2 = A.2 := fun e => ⟨(kv_u1_no (by omega)).trans b1, (kv_u1_no (by omega)).trans b2, kv_u1_at, (kv_u1_no (by omega)).trans b4, fun r hr => by rw [kx_u1_ne hr]; exact b5 r hr, b6⟩
    have sc2 : f_X3_step_113 kx_fuel (kx_u1 M4 42 3 (nI (s + 1))) = some (kx_u1 M4 42 3 (nI (s_scan (fun i => decide (f_X3_sortOf (L i) = k)) (z - (s + 1)) (s + 1)))) :=
      kz_scan (F := fun n i => f_X3_step_113 n (kx_u1 M4 42 3 i)) (z := z) (p := fun i => decide (f_X3_sortOf (L i) = k)) (k := fun i => some (kx_u1 M4 42 3 (nI i))) (i0 := s + 1)
        (fun n => by
          have y1 : (kx_u1 M4 42 3 (nI z)).1 42 1 = nI z := (kv_u1_no (by omega)).trans b1
          rw [f_X3_step_113.eq_2, y1, kv_u1_at]
          exact if_pos (Int32.le_refl _))
        (fun n i h0 hi => by
          have y1 : (kx_u1 M4 42 3 (nI i)).1 42 1 = nI z := (kv_u1_no (by omega)).trans b1
          have y4 : (kx_u1 M4 42 3 (nI i)).1 42 4 = k := (kv_u1_no (by omega)).trans b4
          have y2 : (kx_u1 M4 42 3 (nI i)).1 43 i = L i := by rw [kx_u1_ne (by omega), b5 43 (by omega)]; exact hL i hi
          rw [f_X3_step_113.eq_2, y1, kv_u1_at, if_neg (nI_ge hi (by omega)), z_ck (show i < 250 by omega) (by decide), nI_clamp (by omega), y2, y4, kx_u1_twice, nI_1]
          by_cases q2 : f_X3_sortOf (L i) = k
          · rw [if_pos q2, if_pos (decide_eq_true q2)]
          · rw [if_neg q2, if_neg (fun w => q2 (of_decide_eq_true w))]) (z - (s + 1)) kx_fuel (by omega) (kz_f _ (by omega))
    by_cases k1 : k = 1
    · rw [if_pos k1, if_pos (Or.inl k1), sc2]
      exact ⟨_, rfl, fin _⟩
    · rw [if_neg k1]
      by_cases k2 : k = 2
      · rw [if_pos k2, if_pos (Or.inr k2), sc2]
        exact ⟨_, rfl, fin _⟩
      · rw [if_neg k2, if_neg (show ¬ (k = 1 ∨ k = 2) from fun w => w.elim k1 k2)]
        exact ⟨_, rfl, fin _⟩
  · rw [if_neg q] at tk
    have es : s = z := by omega
    rw [if_neg (nI_nlt (by omega) (by omega)), if_neg q]
    refine ⟨_, rfl, ?_, ?_, ?_, ?_, fun r hr => ?_, rfl⟩
    · rw [kv_u1_no (by omega), kv_u1_no (by omega), kv_u1_no (by omega), h1]
    · rw [kv_u1_no (by omega), kv_u1_no (by omega), kv_u1_at]
    · rw [kv_u1_no (by omega), kv_u1_at]
    · rw [kv_u1_at, tk]
    · rw [kx_u1_ne hr, kx_u1_ne hr, kx_u1_ne hr]
/-! the reference's -/
theorem z_letter (c : Int32) : f_X5_isLetter c = decide (f_X3_sortOf c = 1) := by
  unfold f_X5_isLetter f_X3_sortOf
  have n14 : ¬ f_X3_sortOf_14 c = 1 := by
    unfold f_X3_sortOf_14
    by_cases q1 : c < 48
    · rw [if_pos q1]
      split <;> decide
    · rw [if_neg q1]
      by_cases q2 : 57 < c
      · rw [if_pos q2]
        split <;> decide
      · rw [if_neg q2]
        decide
  by_cases h1 : c < 97
  · rw [if_pos h1, if_pos h1, decide_eq_false n14]
  · rw [if_neg h1, if_neg h1]
    by_cases h2 : 122 < c
    · rw [if_pos h2, if_pos h2, decide_eq_false n14]
    · rw [if_neg h2, if_neg h2]
      rfl
theorem z_digit (c : Int32) : f_X5_isDigit c = decide (f_X3_sortOf c = 2) := by
  unfold f_X5_isDigit f_X3_sortOf
  have n14 : (if c < 48 then false else if 57 < c then false else true) = decide (f_X3_sortOf_14 c = 2) := by
    unfold f_X3_sortOf_14
    by_cases q1 : c < 48
    · rw [if_pos q1, if_pos q1]
      split <;> rfl
    · rw [if_neg q1, if_neg q1]
      by_cases q2 : 57 < c
      · rw [if_pos q2, if_pos q2]
        split <;> rfl
      · rw [if_neg q2, if_neg q2]
        rfl
  by_cases h1 : c < 97
  · rw [if_pos h1, n14]
  · rw [if_neg h1]
    by_cases h2 : 122 < c
    · rw [if_pos h2, n14]
    · rw [if_neg h2]
      have g1 : ¬ c < 48 := fun w => h1 (Int32.lt_trans w (by decide))
      have g2 : 57 < c := Int32.lt_of_lt_of_le (show (57 : Int32) < 97 by decide) (Int32.not_lt.mp h1)
      rw [if_neg g1, if_pos g2]
      rfl
theorem z_sort_or (c : Int32) : f_X3_sortOf c = 1 ∨ f_X3_sortOf c = 2 ∨ (f_X3_sortOf c = 3 ∧ c = 59) ∨ (f_X3_sortOf c = 4 ∧ ¬ c = 59) := by
  have h14 : f_X3_sortOf_14 c = 2 ∨ (f_X3_sortOf_14 c = 3 ∧ c = 59) ∨ (f_X3_sortOf_14 c = 4 ∧ ¬ c = 59) := by
    unfold f_X3_sortOf_14
    by_cases q1 : c < 48
    · rw [if_pos q1]
      by_cases q : c = 59
      · rw [if_pos q]
        exact Or.inr (Or.inl ⟨rfl, q⟩)
      · rw [if_neg q]
        exact Or.inr (Or.inr ⟨rfl, q⟩)
    · rw [if_neg q1]
      by_cases q2 : 57 < c
      · rw [if_pos q2]
        by_cases q : c = 59
        · rw [if_pos q]
          exact Or.inr (Or.inl ⟨rfl, q⟩)
        · rw [if_neg q]
          exact Or.inr (Or.inr ⟨rfl, q⟩)
      · rw [if_neg q2]
        exact Or.inl rfl
  unfold f_X3_sortOf
  by_cases h1 : c < 97
  · rw [if_pos h1]
    exact Or.inr h14
  · rw [if_neg h1]
    by_cases h2 : 122 < c
    · rw [if_pos h2]
      exact Or.inr h14
    · rw [if_neg h2]
      exact Or.inl rfl
def t_num (L : Nat → Int32) (s m : Nat) : Int32 := kz_up (fun i a => ((10 : Int32) * a) + (L i - (48 : Int32))) m s 0
def t_tk (k : Int32) (s e : Nat) : Int32 := if k = 0 then 101 else if k = 1 then 119 else if k = 2 then (if e ≤ s + 3 then 48 else 120) else if k = 3 then 59 else 120
theorem z_ring6 (a c : Int32) : (((10 : Int32) * a) + c) - (48 : Int32) = ((10 : Int32) * a) + (c - (48 : Int32)) := by grind
theorem M_next {B : kx_M} {L : Nat → Int32} {z p : Nat} (hz : z ≤ 250) (hp : p ≤ z) (h1 : B.1 0 10 = nI z) (h3 : B.1 0 13 = nI p) (hL : ∀ k, k < z → B.1 8 k = L k) : ∃ B', f_X5_next B = some B' ∧ B'.1 0 10 = nI z ∧ B'.1 0 12 = nI (t_s L z p) ∧ B'.1 0 13 = nI (t_e L z p) ∧ B'.1 0 14 = t_tk (t_k L z p) (t_s L z p) (t_e L z p) ∧ (t_k L z p = 2 → t_e L z p ≤ t_s L z p + 3 → B'.1 0 15 = t_num L (t_s L z p) (t_e L z p - t_s L z p)) ∧ (∀ c, ¬ c = 12 → ¬ c = 13 → ¬ c = 14 → ¬ c = 15 → B'.1 0 c = B.1 0 c) ∧ (∀ r, ¬ r = 0 → B'.1 r = B.1 r) ∧ B'.2 = B.2 := by
  have hs1 := t_s_le (L := L) hp
  have sc := kz_scan (F := fun n i => f_X5_next_8 n (kx_u1 B 0 12 i)) (z := z) (p := fun i => decide (L i = 32)) (k := fun i => f_X5_next_46 (kx_u1 B 0 12 (nI i))) (i0 := p)
    (fun n => by
      have y1 : (kx_u1 B 0 12 (nI z)).1 0 10 = nI z := (kv_u1_no (by omega)).trans h1
      rw [f_X5_next_8.eq_2, y1, kv_u1_at]
      exact if_pos (Int32.le_refl _))
    (fun n i h0 hi => by
      have y1 : (kx_u1 B 0 12 (nI i)).1 0 10 = nI z := (kv_u1_no (by omega)).trans h1
      have y2 : (kx_u1 B 0 12 (nI i)).1 8 i = L i := by rw [kx_u1_ne (by omega)]; exact hL i hi
      rw [f_X5_next_8.eq_2, y1, kv_u1_at, if_neg (nI_ge hi (by omega)), z_ck (show i < 250 by omega) (by decide), nI_clamp (by omega), y2, kx_u1_twice, nI_1]
      by_cases q : L i = 32
      · rw [if_pos q, if_pos (decide_eq_true q)]
      · rw [if_neg q, if_neg (fun w => q (of_decide_eq_true w))]) (z - p) kx_fuel (by omega) (kz_f _ (by omega))
  have e0 : f_X5_next B = f_X5_next_46 (kx_u1 B 0 12 (nI (t_s L z p))) := by
    unfold f_X5_next
    rw [h3]
    exact sc
  rw [e0]
  have hte := t_e_le (L := L) hp
  have ss : ∃ s, s = t_s L z p := ⟨_, rfl⟩
  obtain ⟨s, hs⟩ := ss
  have kk : ∃ k, k = t_k L z p := ⟨_, rfl⟩
  obtain ⟨k, hk⟩ := kk
  have te : t_e L z p = if s < z then (if k = 1 ∨ k = 2 then s_scan (fun i => decide (f_X3_sortOf (L i) = k)) (z - (s + 1)) (s + 1) else s + 1) else s := by
    rw [hs, hk]
    rfl
  have tk : k = if s < z then f_X3_sortOf (L s) else 0 := by
    rw [hk, hs]
    rfl
  rw [te] at hte ⊢
  rw [← hk, ← hs]
  rw [← hs] at hs1 hte
  unfold f_X5_next_46
  have a1 : (kx_u1 (kx_u1 B 0 12 (nI s)) 0 13 ((kx_u1 B 0 12 (nI s)).1 0 12)).1 0 12 = nI s := by rw [kv_u1_no (by omega), kv_u1_at]
  have a2 : (kx_u1 (kx_u1 B 0 12 (nI s)) 0 13 ((kx_u1 B 0 12 (nI s)).1 0 12)).1 0 10 = nI z := by rw [kv_u1_no (by omega), kv_u1_no (by omega), h1]
  rw [a1, a2, kv_u1_at]
  by_cases q : s < z
  · rw [if_pos q] at tk
    rw [if_neg (show ¬ nI s = nI z from fun w => by have := (nI_eq (by omega) (by omega)).mp w; omega), kv_u1_at, z_ck (show s < 250 by omega) (by decide), nI_1, kx_u1_twice, nI_clamp (by omega)]
    have a3 : (kx_u1 (kx_u1 B 0 12 (nI s)) 0 13 (nI (s + 1))).1 8 s = L s := by rw [kx_u1_ne (by omega), kx_u1_ne (by omega)]; exact hL s q
    unfold kx_lt
    rw [a3]
    dsimp only
    rw [if_pos q] at hte ⊢
    have M4e : ∃ M4, M4 = kx_u1 B 0 12 (nI s) := ⟨_, rfl⟩
    obtain ⟨M4, hM4⟩ := M4e
    rw [← hM4]
    have b1 : M4.1 0 10 = nI z := by rw [hM4, kv_u1_no (by omega), h1]
    have b2 : M4.1 0 12 = nI s := by rw [hM4, kv_u1_at]
    have b5 : ∀ r, ¬ r = 0 → M4.1 r = B.1 r := fun r hr => by rw [hM4, kx_u1_ne hr]
    have b6 : M4.2 = B.2 := by rw [hM4]; rfl
    have b7 : ∀ c, ¬ c = 12 → M4.1 0 c = B.1 0 c := fun c hc => by rw [hM4, kv_u1_no (fun w => hc w.2)]
    rw [z_letter, z_digit, ← tk]
    by_cases k1 : k = 1
    · rw [decide_eq_true k1, if_pos rfl]
      rw [if_pos (Or.inl k1)] at hte ⊢
      have sc2 : f_X5_next_96 kx_fuel (kx_u1 M4 0 13 (nI (s + 1))) = some (kx_u1 (kx_u1 M4 0 13 (nI (s_scan (fun i => decide (f_X3_sortOf (L i) = k)) (z - (s + 1)) (s + 1)))) 0 14 119) :=
        kz_scan (F := fun n i => f_X5_next_96 n (kx_u1 M4 0 13 i)) (z := z) (p := fun i => decide (f_X3_sortOf (L i) = k)) (k := fun i => some (kx_u1 (kx_u1 M4 0 13 (nI i)) 0 14 119)) (i0 := s + 1)
          (fun n => by
            have y1 : (kx_u1 M4 0 13 (nI z)).1 0 10 = nI z := (kv_u1_no (by omega)).trans b1
            rw [f_X5_next_96.eq_2, y1, kv_u1_at]
            exact if_pos (Int32.le_refl _))
          (fun n i h0 hi => by
            have y1 : (kx_u1 M4 0 13 (nI i)).1 0 10 = nI z := (kv_u1_no (by omega)).trans b1
            have y2 : (kx_u1 M4 0 13 (nI i)).1 8 i = L i := by rw [kx_u1_ne (by omega), b5 8 (by omega)]; exact hL i hi
            rw [f_X5_next_96.eq_2, y1, kv_u1_at, if_neg (nI_ge hi (by omega)), z_ck (show i < 250 by omega) (by decide), nI_clamp (by omega), y2, z_letter, kx_u1_twice, nI_1, k1]) (z - (s + 1)) kx_fuel (by omega) (kz_f _ (by omega))
      rw [sc2]
      refine ⟨_, rfl, ?_, ?_, ?_, ?_, fun w => ?_, fun c c1 c2 c3 c4 => ?_, fun r hr => ?_, b6⟩
      · rw [kv_u1_no (by omega), kv_u1_no (by omega), b1]
      · rw [kv_u1_no (by omega), kv_u1_no (by omega), b2]
      · rw [kv_u1_no (by omega), kv_u1_at]
      · rw [kv_u1_at]
        unfold t_tk
        rw [k1]
        rfl
      · rw [k1] at w
        exact absurd w (by decide)
      · rw [kv_u1_no (fun w => c3 w.2), kv_u1_no (fun w => c2 w.2), b7 c c1]
      · rw [kx_u1_ne hr, kx_u1_ne hr, b5 r hr]
    · rw [decide_eq_false k1, if_neg (show ¬ false = true by decide)]
      by_cases k2 : k = 2
      · rw [decide_eq_true k2, if_pos rfl]
        rw [if_pos (Or.inr k2)] at hte ⊢
        have sw : ∀ (e : Nat) (v : Int32), kx_u1 (kx_u1 M4 0 13 (nI e)) 0 15 v = kx_u1 (kx_u1 M4 0 15 v) 0 13 (nI e) := by
          intro e v
          refine Prod.ext ?_ rfl
          funext a b
          show (if a = 0 ∧ b = 15 then v else if a = 0 ∧ b = 13 then nI e else M4.1 a b) = (if a = 0 ∧ b = 13 then nI e else if a = 0 ∧ b = 15 then v else M4.1 a b)
          by_cases e1 : a = 0 ∧ b = 15
          · rw [if_pos e1, if_neg (by omega), if_pos e1]
          · rw [if_neg e1]
            by_cases e2 : a = 0 ∧ b = 13
            · rw [if_pos e2, if_pos e2]
            · rw [if_neg e2, if_neg e2, if_neg e1]
        have sc2 := kz_scanS (F := fun n i a => f_X5_next_159 n (kx_u1 (kx_u1 M4 0 15 a) 0 13 i)) (z := z) (p := fun i => decide (f_X3_sortOf (L i) = k)) (st := fun i a => if 3 ≤ i - s then a else ((10 : Int32) * a) + (L i - (48 : Int32))) (k := fun i a => f_X5_next_235 (kx_u1 (kx_u1 M4 0 15 a) 0 13 (nI i))) (i0 := s + 1)
          (fun n a => by
            have y1 : (kx_u1 (kx_u1 M4 0 15 a) 0 13 (nI z)).1 0 10 = nI z := by rw [kv_u1_no (by omega), kv_u1_no (by omega), b1]
            rw [f_X5_next_159.eq_2, y1, kv_u1_at]
            exact if_pos (Int32.le_refl _))
          (fun n i a h0 hi => by
            have y1 : (kx_u1 (kx_u1 M4 0 15 a) 0 13 (nI i)).1 0 10 = nI z := by rw [kv_u1_no (by omega), kv_u1_no (by omega), b1]
            have y2 : (kx_u1 (kx_u1 M4 0 15 a) 0 13 (nI i)).1 8 i = L i := by rw [kx_u1_ne (by omega), kx_u1_ne (by omega), b5 8 (by omega)]; exact hL i hi
            have y3 : (kx_u1 (kx_u1 M4 0 15 a) 0 13 (nI i)).1 0 12 = nI s := by rw [kv_u1_no (by omega), kv_u1_no (by omega), b2]
            have y4 : (kx_u1 (kx_u1 M4 0 15 a) 0 13 (nI i)).1 0 15 = a := by rw [kv_u1_no (by omega), kv_u1_at]
            have sw2 : ∀ v, kx_u1 (kx_u1 (kx_u1 M4 0 15 a) 0 13 (nI i)) 0 15 v = kx_u1 (kx_u1 M4 0 15 v) 0 13 (nI i) := fun v => by rw [← sw, kx_u1_twice, sw]
            rw [f_X5_next_159.eq_2, y1, kv_u1_at, if_neg (nI_ge hi (by omega)), z_ck (show i < 250 by omega) (by decide), z_ck (show i < 250 by omega) (by decide), nI_clamp (by omega), y2, y3, y4, z_digit, nI_sub (by omega), kx_u1_twice, sw2]
            unfold kx_lt
            rw [kv_u1_at, kx_u1_twice, nI_1, z_ring6, k2]
            by_cases q2 : f_X3_sortOf (L i) = 2
            · rw [if_pos (decide_eq_true q2), if_pos (decide_eq_true q2)]
              by_cases q3 : 3 ≤ i - s
              · rw [if_pos (show (3 : Int32) ≤ nI (i - s) from nI_le (a := 3) q3 (by omega)), if_pos q3]
              · rw [if_neg (show ¬ (3 : Int32) ≤ nI (i - s) from nI_ge (b := 3) (by omega) (by omega)), if_neg q3]
            · rw [if_neg (fun w => q2 (of_decide_eq_true w)), if_neg (fun w => q2 (of_decide_eq_true w))]) (z - (s + 1)) (s + 1) kx_fuel (L s - (48 : Int32)) (Nat.le_refl _) (by omega) (kz_f _ (by omega))
        have ee : ∃ e, e = s_scan (fun i => decide (f_X3_sortOf (L i) = k)) (z - (s + 1)) (s + 1) := ⟨_, rfl⟩
        obtain ⟨e, he⟩ := ee
        rw [← he] at sc2 hte ⊢
        have vv : ∃ v, v = kz_up (fun i a => if 3 ≤ i - s then a else ((10 : Int32) * a) + (L i - (48 : Int32))) (e - (s + 1)) (s + 1) (L s - (48 : Int32)) := ⟨_, rfl⟩
        obtain ⟨v, hv⟩ := vv
        rw [← hv] at sc2
        rw [sw, sc2]
        unfold f_X5_next_235
        have y3 : (kx_u1 (kx_u1 M4 0 15 v) 0 13 (nI e)).1 0 12 = nI s := by rw [kv_u1_no (by omega), kv_u1_no (by omega), b2]
        have y4 : (kx_u1 (kx_u1 M4 0 15 v) 0 13 (nI e)).1 0 13 = nI e := kv_u1_at
        rw [y3, y4, nI_sub (by omega)]
        have tt : (if nI (e - s) ≤ (3 : Int32) then some (kx_u1 (kx_u1 (kx_u1 M4 0 15 v) 0 13 (nI e)) 0 14 (48 : Int32)) else some (kx_u1 (kx_u1 (kx_u1 M4 0 15 v) 0 13 (nI e)) 0 14 (120 : Int32))) = some (kx_u1 (kx_u1 (kx_u1 M4 0 15 v) 0 13 (nI e)) 0 14 (t_tk k s e)) := by
          unfold t_tk
          rw [k2, if_neg (show ¬ (2 : Int32) = 0 by decide), if_neg (show ¬ (2 : Int32) = 1 by decide), if_pos rfl]
          by_cases q3 : e ≤ s + 3
          · rw [if_pos q3, if_pos (show nI (e - s) ≤ (3 : Int32) from nI_le (b := 3) (by omega) (by omega))]
          · rw [if_neg q3, if_neg (show ¬ nI (e - s) ≤ (3 : Int32) from nI_ge (a := 3) (by omega) (by omega))]
        rw [tt]
        refine ⟨_, rfl, ?_, ?_, ?_, kv_u1_at, fun _ w => ?_, fun c c1 c2 c3 c4 => ?_, fun r hr => ?_, b6⟩
        · rw [kv_u1_no (by omega), kv_u1_no (by omega), kv_u1_no (by omega), b1]
        · rw [kv_u1_no (by omega), y3]
        · rw [kv_u1_no (by omega), y4]
        · rw [kv_u1_no (by omega), kv_u1_no (by omega), kv_u1_at, hv]
          unfold t_num
          have h1 := hte.2.2 q
          rw [show e - s = (e - (s + 1)) + 1 by omega]
          show _ = kz_up _ (e - (s + 1)) (s + 1) (((10 : Int32) * 0) + (L s - (48 : Int32)))
          rw [Int32.mul_zero, Int32.zero_add]
          exact kz_up_congr _ _ _ (fun j j1 j2 a => if_neg (by omega))
        · rw [kv_u1_no (fun w => c3 w.2), kv_u1_no (fun w => c2 w.2), kv_u1_no (fun w => c4 w.2), b7 c c1]
        · rw [kx_u1_ne hr, kx_u1_ne hr, kx_u1_ne hr, b5 r hr]
      · rw [decide_eq_false k2, if_neg (show ¬ false = true by decide)]
        rw [if_neg (show ¬ (k = 1 ∨ k = 2) from fun w => w.elim k1 k2)] at hte ⊢
        have fin : ∀ t : Int32, (k = 3 → t = 59) → (¬ k = 3 → t = 120) → (∃ B', some (kx_u1 (kx_u1 M4 0 13 (nI (s + 1))) 0 14 t) = some B' ∧ B'.1 0 10 = nI z ∧ B'.1 0 12 = nI s ∧ B'.1 0 13 = nI (s + 1) ∧ B'.1 0 14 = t_tk k s (s + 1) ∧ (k = 2 → s + 1 ≤ s + 3 → B'.1 0 15 = t_num L s (s + 1 - s)) ∧ (∀ c, ¬ c = 12 → ¬ c = 13 → ¬ c = 14 → ¬ c = 15 → B'.1 0 c = B.1 0 c) ∧ (∀ r, ¬ r = 0 → B'.1 r = B.1 r) ∧ B'.2 = B.2) := by
          intro t t1 t2
          have k0 : ¬ k = 0 := by
            rw [tk]
            rcases z_sort_or (L s) with w | w | ⟨w, _⟩ | ⟨w, _⟩ <;> rw [w] <;> decide
          refine ⟨_, rfl, ?_, ?_, ?_, ?_, fun w => absurd w k2, fun c c1 c2 c3 c4 => ?_, fun r hr => ?_, b6⟩
          · rw [kv_u1_no (by omega), kv_u1_no (by omega), b1]
          · rw [kv_u1_no (by omega), kv_u1_no (by omega), b2]
          · rw [kv_u1_no (by omega), kv_u1_at]
          · rw [kv_u1_at]
            unfold t_tk
            rw [if_neg k0, if_neg k1, if_neg k2]
            by_cases k3 : k = 3
            · rw [if_pos k3, t1 k3]
            · rw [if_neg k3, t2 k3]
          · rw [kv_u1_no (fun w => c3 w.2), kv_u1_no (fun w => c2 w.2), b7 c c1]
          · rw [kx_u1_ne hr, kx_u1_ne hr, b5 r hr]
        rcases z_sort_or (L s) with w | w | ⟨w, w2⟩ | ⟨w, w2⟩
        · exact absurd (tk.trans w) k1
        · exact absurd (tk.trans w) k2
        · rw [if_pos w2]
          exact fin 59 (fun _ => rfl) (fun x => absurd (tk.trans w) x)
        · rw [if_neg w2]
          exact fin 120 (fun x => absurd (x.symm.trans (tk.trans w)) (by decide)) (fun _ => rfl)
  · rw [if_neg q] at tk
    have es : s = z := by omega
    rw [if_pos (congrArg nI es)]
    rw [if_neg q]
    refine ⟨_, rfl, ?_, ?_, ?_, ?_, fun w => ?_, fun c c1 c2 c3 c4 => ?_, fun r hr => ?_, rfl⟩
    · rw [kv_u1_no (by omega), kv_u1_no (by omega), kv_u1_no (by omega), h1]
    · rw [kv_u1_no (by omega), kv_u1_no (by omega), kv_u1_at]
    · rw [kv_u1_no (by omega), kv_u1_at]
    · rw [kv_u1_at]
      unfold t_tk
      rw [if_pos tk]
    · rw [tk] at w
      exact absurd w (by decide)
    · rw [kv_u1_no (fun w => c3 w.2), kv_u1_no (fun w => c2 w.2), kv_u1_no (fun w => c1 w.2)]
    · rw [kx_u1_ne hr, kx_u1_ne hr, kx_u1_ne hr]
