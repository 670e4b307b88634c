/-! ===== how many places have a property ===== -/
def fb_ct (p : Nat → Bool) : Nat → Nat
  | 0 => 0
  | n + 1 => fb_ct p n + (if p n then 1 else 0)
theorem fb_ct_succ (p : Nat → Bool) (n : Nat) : fb_ct p (n + 1) = fb_ct p n + (if p n then 1 else 0) := rfl
theorem fb_ct_le (p : Nat → Bool) : ∀ n, fb_ct p n ≤ n
  | 0 => Nat.le_refl _
  | n + 1 => by
    have h := fb_ct_le p n
    rw [fb_ct_succ]
    split <;> omega
theorem fb_ct_step (p : Nat → Bool) (m : Nat) : ∀ n, fb_ct p m ≤ fb_ct p (m + n)
  | 0 => Nat.le_refl _
  | n + 1 => by
    have h := fb_ct_step p m n
    show fb_ct p m ≤ fb_ct p (m + n + 1)
    rw [fb_ct_succ]
    omega
theorem fb_ct_mono (p : Nat → Bool) {m n : Nat} (h : m ≤ n) : fb_ct p m ≤ fb_ct p n := by
  have := fb_ct_step p m (n - m)
  rwa [Nat.add_sub_cancel' h] at this
theorem fb_ct_cong {p q : Nat → Bool} : ∀ {n : Nat}, (∀ k, k < n → p k = q k) → fb_ct p n = fb_ct q n
  | 0, _ => rfl
  | n + 1, h => by
    rw [fb_ct_succ, fb_ct_succ, fb_ct_cong (fun k hk => h k (by omega)), h n (by omega)]
/-- one place changed -/
theorem fb_ct_out (p : Nat → Bool) (b : Bool) {i n : Nat} (h : n ≤ i) : fb_ct (fun k => if k = i then b else p k) n = fb_ct p n :=
  fb_ct_cong fun k hk => if_neg (by omega)
theorem fb_ct_upd (p : Nat → Bool) (b : Bool) {i : Nat} : ∀ {n : Nat}, i < n → fb_ct (fun k => if k = i then b else p k) n + (if p i then 1 else 0) = fb_ct p n + (if b then 1 else 0)
  | 0, h => absurd h (Nat.not_lt_zero i)
  | n + 1, h => by
    rw [fb_ct_succ, fb_ct_succ]
    rcases Nat.lt_or_ge i n with q | q
    · have := fb_ct_upd p b q
      have e : (if n = i then b else p n) = p n := if_neg (by omega)
      rw [e]
      omega
    · have e : i = n := by omega
      subst e
      rw [fb_ct_out p b (Nat.le_refl _)]
      simp only [if_true]
      omega
theorem fb_ct_sub {p q : Nat → Bool} : ∀ {n : Nat}, (∀ k, k < n → p k = true → q k = true) → fb_ct p n ≤ fb_ct q n
  | 0, _ => Nat.le_refl _
  | n + 1, h => by
    have h1 := fb_ct_sub (n := n) (p := p) (q := q) (fun k hk => h k (by omega))
    have h2 := h n (by omega)
    rw [fb_ct_succ, fb_ct_succ]
    cases hp : p n <;> cases hq : q n <;> simp_all <;> omega
theorem fb_ct_or {p q : Nat → Bool} : ∀ {n : Nat}, (∀ k, k < n → ¬ (p k = true ∧ q k = true)) → fb_ct (fun k => p k || q k) n = fb_ct p n + fb_ct q n
  | 0, _ => rfl
  | n + 1, h => by
    have h1 := fb_ct_or (n := n) (p := p) (q := q) (fun k hk => h k (by omega))
    have h2 := h n (by omega)
    rw [fb_ct_succ, fb_ct_succ, fb_ct_succ, h1]
    cases hp : p n <;> cases hq : q n <;> simp_all <;> omega
theorem fb_ct_not (p : Nat → Bool) : ∀ n, fb_ct p n + fb_ct (fun k => !p k) n = n
  | 0 => rfl
  | n + 1 => by
    have h := fb_ct_not p n
    rw [fb_ct_succ, fb_ct_succ]
    cases p n <;> simp <;> omega
theorem fb_ct_split (p : Nat → Bool) (m : Nat) : ∀ n, fb_ct p (m + n) = fb_ct p m + fb_ct (fun k => p (m + k)) n
  | 0 => rfl
  | n + 1 => by
    have h := fb_ct_split p m n
    show fb_ct p (m + n + 1) = _
    rw [fb_ct_succ, fb_ct_succ, h, Nat.add_assoc]
theorem fb_ct_zero {p : Nat → Bool} : ∀ {n : Nat}, fb_ct p n = 0 ↔ ∀ k, k < n → p k = false
  | 0 => ⟨fun _ k hk => absurd hk (Nat.not_lt_zero k), fun _ => rfl⟩
  | n + 1 => by
    have h := fb_ct_zero (p := p) (n := n)
    rw [fb_ct_succ]
    constructor
    · intro e k hk
      have e1 : fb_ct p n = 0 := by omega
      rcases Nat.lt_or_ge k n with q | q
      · exact h.mp e1 k q
      · have ek : k = n := by omega
        subst ek
        cases hp : p k
        · rfl
        · simp [hp] at e
    · intro a
      rw [h.mpr (fun k hk => a k (by omega)), a n (by omega)]
      rfl
theorem fb_ct_pos {p : Nat → Bool} {n : Nat} : 0 < fb_ct p n ↔ ∃ k, k < n ∧ p k = true := by
  constructor
  · intro h
    refine Classical.byContradiction fun hx => ?_
    have := fb_ct_zero.mpr (fun k hk => by
      cases hp : p k
      · rfl
      · exact absurd ⟨k, hk, hp⟩ hx : ∀ k, k < n → p k = false)
    omega
  · rintro ⟨k, hk, hp⟩
    rcases Nat.eq_zero_or_pos (fb_ct p n) with e | e
    · have := fb_ct_zero.mp e k hk
      rw [this] at hp
      cases hp
    · exact e
theorem fb_ct_all {p : Nat → Bool} {n : Nat} : fb_ct p n = n ↔ ∀ k, k < n → p k = true := by
  have h := fb_ct_not p n
  constructor
  · intro e k hk
    have z : fb_ct (fun k => !p k) n = 0 := by omega
    have := fb_ct_zero.mp z k hk
    cases hp : p k
    · simp [hp] at this
    · rfl
  · intro a
    have z : fb_ct (fun k => !p k) n = 0 := fb_ct_zero.mpr (fun k hk => by simp [a k hk])
    omega
/-- the k-th place with the property -/
theorem fb_ct_kth {p : Nat → Bool} {k : Nat} : ∀ {n : Nat}, k < fb_ct p n → ∃ i, i < n ∧ p i = true ∧ fb_ct p i = k
  | 0, h => absurd h (Nat.not_lt_zero k)
  | n + 1, h => by
    rcases Nat.lt_or_ge k (fb_ct p n) with q | q
    · obtain ⟨i, h1, h2⟩ := fb_ct_kth q
      exact ⟨i, by omega, h2⟩
    · rw [fb_ct_succ] at h
      cases hp : p n
      · simp [hp] at h; omega
      · simp [hp] at h
        exact ⟨n, by omega, hp, by omega⟩
theorem fb_ct_kth_one {p : Nat → Bool} {i j : Nat} (hi : p i = true) (hj : p j = true) (e : fb_ct p i = fb_ct p j) : i = j := by
  have key : ∀ a b : Nat, a < b → p a = true → fb_ct p a < fb_ct p b := by
    intro a b hab ha
    have h := fb_ct_mono p (show a + 1 ≤ b from hab)
    rw [fb_ct_succ, ha] at h
    simp at h
    omega
  rcases Nat.lt_trichotomy i j with q | q | q
  · have := key i j q hi; omega
  · exact q
  · have := key j i q hj; omega
/-! counts of bits, levels -/
theorem z_bcs : ∀ n, n < 8 → ∀ b, b < 2 ^ n → nI b ||| ((1 : Int32) <<< (nI n &&& 31)) = nI (b + 2 ^ n) ∧ f_J6_bitCount_0f7a4 (nI (b + 2 ^ n)) = f_J6_bitCount_0f7a4 (nI b) + 1 := by decide +kernel
theorem z_mask_succ (p : Nat → Bool) (n : Nat) : z_mask p (n + 1) = if p n = true then z_mask p n ||| ((1 : Int32) <<< (nI n &&& 31)) else z_mask p n := by
  unfold z_mask
  rw [kz_up_end, Nat.zero_add]
/-- a set of those below n at most 8: a number below 2 to the n, and how many are in it -/
theorem z_bc (p : Nat → Bool) : ∀ n, n ≤ 8 → ∃ b, b < 2 ^ n ∧ z_mask p n = nI b ∧ f_J6_bitCount_0f7a4 (nI b) = nI (fb_ct p n)
  | 0, _ => ⟨0, by decide, rfl, (by decide +kernel : f_J6_bitCount_0f7a4 (nI 0) = nI 0)⟩
  | n + 1, h => by
    obtain ⟨b, h1, h2, h3⟩ := z_bc p n (by omega)
    have q := z_bcs n (by omega) b h1
    rw [z_mask_succ, fb_ct_succ]
    cases hp : p n with
    | true =>
      refine ⟨b + 2 ^ n, by rw [Nat.pow_succ]; omega, ?_, ?_⟩
      · rw [if_pos rfl, h2, q.1]
      · rw [q.2, h3, nI_1]
        rfl
    | false =>
      refine ⟨b, by rw [Nat.pow_succ]; omega, ?_, ?_⟩
      · rw [if_neg (by decide), h2]
      · rw [h3]
        rfl
theorem z_bcm (p : Nat → Bool) (n : Nat) (h : n ≤ 8) : f_J6_bitCount_0f7a4 (z_mask p n) = nI (fb_ct p n) := by
  obtain ⟨b, _, h2, h3⟩ := z_bc p n h
  rw [h2, h3]
theorem z_nI (y : Int32) : y = nI y.toBitVec.toNat := by
  apply Int32.toBitVec_inj.1
  show y.toBitVec = BitVec.ofNat 32 y.toBitVec.toNat
  simp
theorem z_and63 (y : Int32) : ∃ m, m < 64 ∧ y &&& (63 : Int32) = nI m := by
  refine ⟨y.toBitVec.toNat &&& 63, ?_, ?_⟩
  · have := Nat.and_le_right (n := y.toBitVec.toNat) (m := 63)
    omega
  · rw [← nx_and, ← z_nI]
    rfl
/-- how many bits: a number below 64 -/
theorem z_bcR (x : Int32) : ∃ m, m < 64 ∧ f_J6_bitCount_0f7a4 x = nI m := by
  unfold f_J6_bitCount_0f7a4 kx_lt
  exact z_and63 _
theorem kv_level (a : Int32) : ∃ m, m ≤ 20 ∧ f_X4_levelOf a = nI m := by
  unfold f_X4_levelOf
  by_cases h1 : a < 20
  · rw [if_pos h1]
    by_cases h2 : (0 : Int32) < a
    · rw [if_pos h2]
      obtain ⟨j, hj, e⟩ := nI_of2 (x := a) (M := 20) (n := 20) (by decide) (fun q => Int32.lt_irrefl (Int32.lt_trans q h2)) (Int32.le_of_lt h1)
      exact ⟨j, hj, e⟩
    · rw [if_neg h2]
      exact ⟨0, by omega, rfl⟩
  · rw [if_neg h1, if_pos (by decide)]
    exact ⟨20, by omega, rfl⟩
/-- a level stays -/
theorem kv_level_id {m : Nat} (h : m ≤ 20) : f_X4_levelOf (nI m) = nI m := (by decide +kernel : ∀ m, m < 21 → f_X4_levelOf (nI m) = nI m) m (by omega)
/-- a counted loop that keeps nothing in mind -/
theorem kz_run {α β : Type} {F : Nat → Int32 → α → Option β} {st : Nat → α → α} {k : α → Option β} {i0 : Nat} (N : Nat) (a : α) (hi : i0 ≤ N) (hN : N < 4096) (hx : ∀ n a, F (n + 1) (nI N) a = k a) (hs : ∀ n i a, i0 ≤ i → i < N → F (n + 1) (nI i) a = F n (nI (i + 1)) (st i a)) : F kx_fuel (nI i0) a = k (kz_up st (N - i0) i0 a) :=
  (kz_loop (F := F) (N := N) (st := st) (k := k) (fun i _ => i0 ≤ i) (fun n a _ => hx n a) (fun n i a h1 h2 => hs n i a h2 h1) (fun i _ _ h => Nat.le_succ_of_le h) (N - i0) i0 a kx_fuel (by omega) (kz_f _ (by omega)) (Nat.le_refl _)).1
theorem kz_run0 {α β : Type} {F : Nat → Int32 → α → Option β} {st : Nat → α → α} {k : α → Option β} (N : Nat) (a : α) (hN : N < 4096) (hx : ∀ n a, F (n + 1) (nI N) a = k a) (hs : ∀ n i a, i < N → F (n + 1) (nI i) a = F n (nI (i + 1)) (st i a)) : F kx_fuel (nI 0) a = k (kz_up st N 0 a) := kz_run (i0 := 0) N a (Nat.zero_le _) hN hx (fun n i a _ h => hs n i a h)
/-- what holds at first and through each round holds at the end -/
theorem kz_ind {α : Type} {st : Nat → α → α} (P : Nat → α → Prop) : ∀ (m i : Nat) (a : α), P i a → (∀ j a, i ≤ j → j < i + m → P j a → P (j + 1) (st j a)) → P (i + m) (kz_up st m i a)
  | 0, i, a, h, _ => h
  | m + 1, i, a, h, hs => by
    have := kz_ind P m (i + 1) (st i a) (hs i a (Nat.le_refl i) (by omega) h) (fun j a h1 h2 => hs j a (by omega) (by omega))
    rw [show i + (m + 1) = i + 1 + m by omega]
    exact this
/-- two loops, side by side -/
theorem kz_ind2 {α β : Type} {st : Nat → α → α} {st2 : Nat → β → β} (P : Nat → α → β → Prop) : ∀ (m i : Nat) (a : α) (b : β), P i a b → (∀ j a b, i ≤ j → j < i + m → P j a b → P (j + 1) (st j a) (st2 j b)) → P (i + m) (kz_up st m i a) (kz_up st2 m i b)
  | 0, i, a, b, h, _ => h
  | m + 1, i, a, b, h, hs => by
    have := kz_ind2 P m (i + 1) (st i a) (st2 i b) (hs i a b (Nat.le_refl i) (by omega) h) (fun j a b h1 h2 => hs j a b (by omega) (by omega))
    rw [show i + (m + 1) = i + 1 + m by omega]
    exact this
theorem z_pw : ∀ v, v < 31 → (1 : Int32) <<< (nI v &&& 31) = nI (2 ^ v) := by decide +kernel
theorem z_pm {v : Nat} (h : v < 31) : ((1 : Int32) <<< (nI v &&& 31)) - (1 : Int32) = nI (2 ^ v - 1) := by
  rw [z_pw v h]
  have : 2 ^ v = 2 ^ v - 1 + 1 := by
    have := Nat.two_pow_pos v
    omega
  rw [this]
  exact nI_pred _
theorem z_p8 : ∀ v, v ≤ 8 → 2 ^ v ≤ 256 := by decide
theorem z_ck2a {α : Type} {k : Option α} : kx_ck 2 (0 : Int32) k = k := rfl
theorem z_ck2b {α : Type} {k : Option α} : kx_ck 2 (1 : Int32) k = k := rfl
theorem z_c0 : (0 : Int32).toNatClampNeg = 0 := rfl
theorem z_c1 : (1 : Int32).toNatClampNeg = 1 := rfl
theorem z_not (x : Int32) {i : Nat} (h : i < 32) : bt (x ^^^ (-1 : Int32)) i = !bt x i := by
  rw [b_xor, b_m1 i h, Bool.xor_true]
/-- one out of a group -/
theorem z_rest (g : Int32) {x i : Nat} (hx : x < 32) (hi : i < 32) : bt (g &&& (((1 : Int32) <<< (nI x &&& 31)) ^^^ (-1 : Int32))) i = (bt g i && !decide (i = x)) := by
  rw [b_and, z_not _ hi, bt_one hx hi]
/-- a group of one -/
theorem z_alone (g : Int32) {x : Nat} (hx : x < 32) (h : bt g x = true) : (g &&& (((1 : Int32) <<< (nI x &&& 31)) ^^^ (-1 : Int32)) = 0) ↔ g = (1 : Int32) <<< (nI x &&& 31) := by
  constructor
  · intro q
    apply b_ext
    intro i hi
    have := z_rest g hx hi
    rw [q, b_0] at this
    rw [bt_one hx hi]
    by_cases e : i = x
    · subst e
      rw [h, decide_eq_true rfl]
    · rw [decide_eq_false e] at this ⊢
      rw [Bool.not_false, Bool.and_true] at this
      exact this.symm
  · intro q
    apply b_ext
    intro i hi
    rw [z_rest g hx hi, b_0, q, bt_one hx hi]
    cases decide (i = x) <;> rfl
theorem z_and_mask (g : Int32) (p : Nat → Bool) {n : Nat} (hn : n ≤ 32) : g &&& z_mask p n = z_mask (fun i => bt g i && p i) n := by
  apply b_ext
  intro i hi
  rw [b_and, z_mask_bt p n hn i hi, z_mask_bt _ n hn i hi]
  cases bt g i <;> cases decide (i < n) <;> rfl
theorem z_in {a : Int32} {n : Nat} (hn : n < 2 ^ 31) (h : f_X4_isWithin a 0 (nI n) = true) : ∃ k, k ≤ n ∧ a = nI k := by
  rw [z_within, decide_eq_true_eq] at h
  have h1 := Int32.le_iff_toInt_le.mp h.2
  have h2 := Int32.le_iff_toInt_le.mp h.1
  rw [nI_toInt hn] at h1
  have e0 : (0 : Int32).toInt = 0 := by decide
  refine ⟨a.toInt.toNat, by omega, Int32.toInt_inj.mp ?_⟩
  rw [nI_toInt (by omega)]
  omega
theorem z_inT {k n : Nat} (hn : n < 2 ^ 31) (hk : k ≤ n) : f_X4_isWithin (nI k) 0 (nI n) = true := by
  rw [z_within, decide_eq_true_eq]
  exact ⟨(nI_leI (a := 0) (b := k) (by omega) (by omega)).mpr (by omega), (nI_leI (a := k) (b := n) (by omega) (by omega)).mpr hk⟩
theorem z_pred {n : Nat} : nI (n + 1) - 1 = nI n := nI_pred n
theorem z_in1 {a : Int32} {n : Nat} (hn : n < 2 ^ 31) (h : f_X4_isWithin a 0 (nI n - 1) = true) : ∃ k, k < n ∧ a = nI k := by
  cases n with
  | zero =>
    rw [z_within, decide_eq_true_eq] at h
    exact absurd (Int32.le_trans h.1 h.2) (by decide)
  | succ n =>
    rw [z_pred] at h
    obtain ⟨k, hk, e⟩ := z_in (by omega) h
    exact ⟨k, by omega, e⟩
theorem z_in1T {k n : Nat} (hn : n < 2 ^ 31) (hk : k < n) : f_X4_isWithin (nI k) 0 (nI n - 1) = true := by
  cases n with
  | zero => omega
  | succ n =>
    rw [z_pred]
    exact z_inT (by omega) (by omega)
