/-! ===== Int32 by its bits: bt x i ===== -/
def bt (x : Int32) (i : Nat) : Bool := x.toBitVec.getLsbD i
theorem b_ext {x y : Int32} (h : ∀ i, i < 32 → bt x i = bt y i) : x = y := Int32.toBitVec_inj.mp (BitVec.eq_of_getLsbD_eq (fun i hi => h i hi))
theorem b_or (x y : Int32) (i : Nat) : bt (x ||| y) i = (bt x i || bt y i) := by unfold bt; rw [Int32.toBitVec_or, BitVec.getLsbD_or]
theorem b_and (x y : Int32) (i : Nat) : bt (x &&& y) i = (bt x i && bt y i) := by unfold bt; rw [Int32.toBitVec_and, BitVec.getLsbD_and]
theorem b_xor (x y : Int32) (i : Nat) : bt (x ^^^ y) i = (bt x i ^^ bt y i) := by unfold bt; rw [Int32.toBitVec_xor, BitVec.getLsbD_xor]
theorem b_big {x : Int32} {i : Nat} (h : 32 ≤ i) : bt x i = false := BitVec.getLsbD_of_ge _ _ h
theorem b_255 (i : Nat) : bt 255 i = decide (i < 8) := by
  rcases Nat.lt_or_ge i 32 with h | h
  · exact (by decide +kernel : ∀ i, i < 32 → bt 255 i = decide (i < 8)) i h
  · rw [b_big h, decide_eq_false (by omega)]
theorem b_65535 (i : Nat) : bt 65535 i = decide (i < 16) := by
  rcases Nat.lt_or_ge i 32 with h | h
  · exact (by decide +kernel : ∀ i, i < 32 → bt 65535 i = decide (i < 16)) i h
  · rw [b_big h, decide_eq_false (by omega)]
theorem b_m1 : ∀ i, i < 32 → bt (-1) i = true := by decide +kernel
theorem b_0 (i : Nat) : bt 0 i = false := BitVec.getLsbD_zero
theorem s_l : ∀ n, n < 32 → ((nI n &&& 31).toBitVec.smod 32).toNat = n := by decide +kernel
theorem s_u : ∀ n, n < 32 → (((nI n).toUInt32 &&& Int32.toUInt32 31).toBitVec % 32).toNat = n := by decide +kernel
theorem b_shl (n : Nat) (hn : n < 32) (x : Int32) {i : Nat} (hi : i < 32) : bt (x <<< (nI n &&& 31)) i = (decide (n ≤ i) && bt x (i - n)) := by
  unfold bt
  rw [Int32.toBitVec_shiftLeft]
  show (x.toBitVec <<< ((nI n &&& 31).toBitVec.smod 32).toNat).getLsbD i = _
  rw [s_l n hn, BitVec.getLsbD_shiftLeft]
  rcases Nat.lt_or_ge i n with h | h
  · simp [h, Nat.not_le.mpr h]
  · simp [hi, h, Nat.not_lt.mpr h]
theorem b_ushr (n : Nat) (hn : n < 32) (x : Int32) (i : Nat) : bt ((x.toUInt32 >>> ((nI n).toUInt32 &&& Int32.toUInt32 31)).toInt32) i = bt x (n + i) := by
  show (x.toUInt32 >>> ((nI n).toUInt32 &&& Int32.toUInt32 31)).toBitVec.getLsbD i = x.toUInt32.toBitVec.getLsbD (n + i)
  rw [UInt32.toBitVec_shiftRight]
  show (x.toUInt32.toBitVec >>> (((nI n).toUInt32 &&& Int32.toUInt32 31).toBitVec % 32).toNat).getLsbD i = _
  rw [s_u n hn, BitVec.getLsbD_ushiftRight]
theorem b_sshr (n : Nat) (hn : n < 32) (x : Int32) {i : Nat} (hi : i < 32) : bt (x >>> (nI n &&& 31)) i = if n + i < 32 then bt x (n + i) else bt x 31 := by
  unfold bt
  rw [Int32.toBitVec_shiftRight]
  show (x.toBitVec.sshiftRight ((nI n &&& 31).toBitVec.smod 32).toNat).getLsbD i = _
  rw [s_l n hn, BitVec.getLsbD_sshiftRight, BitVec.msb_eq_getLsbD_last]
  simp [hi]
theorem b_shl8 (x : Int32) {i : Nat} (hi : i < 32) : bt (x <<< ((8 : Int32) &&& 31)) i = (decide (8 ≤ i) && bt x (i - 8)) := b_shl 8 (by omega) x hi
theorem b_shl16 (x : Int32) {i : Nat} (hi : i < 32) : bt (x <<< ((16 : Int32) &&& 31)) i = (decide (16 ≤ i) && bt x (i - 16)) := b_shl 16 (by omega) x hi
theorem b_shl24 (x : Int32) {i : Nat} (hi : i < 32) : bt (x <<< ((24 : Int32) &&& 31)) i = (decide (24 ≤ i) && bt x (i - 24)) := b_shl 24 (by omega) x hi
theorem b_sshr8 (x : Int32) {i : Nat} (hi : i < 32) : bt (x >>> ((8 : Int32) &&& 31)) i = if 8 + i < 32 then bt x (8 + i) else bt x 31 := b_sshr 8 (by omega) x hi
/-! ===== nI under and, xor, >>>, one bit, 65535 ===== -/
theorem nx_and (a b : Nat) : nI a &&& nI b = nI (a &&& b) := by
  apply Int32.toBitVec_inj.1
  show BitVec.ofNat 32 a &&& BitVec.ofNat 32 b = BitVec.ofNat 32 (a &&& b)
  apply BitVec.eq_of_getLsbD_eq
  intro i hi
  simp [hi]
theorem nx_xor (a b : Nat) : nI a ^^^ nI b = nI (a ^^^ b) := by
  apply Int32.toBitVec_inj.1
  show BitVec.ofNat 32 a ^^^ BitVec.ofNat 32 b = BitVec.ofNat 32 (a ^^^ b)
  apply BitVec.eq_of_getLsbD_eq
  intro i hi
  simp [hi]
theorem nx_cnt : ∀ j : Fin 32, (UInt32.ofNat j.val &&& Int32.toUInt32 31).toNat % 32 = j.val := by decide +kernel
theorem nx_ush {k j : Nat} (hk : k < 65536) (hj : j < 32) : ((nI k).toUInt32 >>> ((nI j).toUInt32 &&& Int32.toUInt32 31)).toInt32 = nI (k >>> j) := by
  have hs : k >>> j ≤ k := by
    rw [Nat.shiftRight_eq_div_pow]
    exact Nat.div_le_self _ _
  have e2 : UInt32.ofNat k >>> (UInt32.ofNat j &&& Int32.toUInt32 31) = UInt32.ofNat (k >>> j) := by
    apply UInt32.toNat_inj.1
    have h1 : (UInt32.ofNat k).toNat = k := Nat.mod_eq_of_lt (by omega)
    have h2 : (UInt32.ofNat (k >>> j)).toNat = k >>> j := Nat.mod_eq_of_lt (by omega)
    rw [UInt32.toNat_shiftRight, nx_cnt ⟨j, hj⟩, h1, h2]
  show (UInt32.ofNat k >>> (UInt32.ofNat j &&& Int32.toUInt32 31)).toInt32 = _
  rw [e2]
  rfl
theorem nx_bit {k j : Nat} (hk : k < 65536) (hj : j < 16) : (((nI k).toUInt32 >>> ((nI j).toUInt32 &&& Int32.toUInt32 31)).toInt32 &&& 1) = 0 ↔ k.testBit j = false := by
  rw [nx_ush hk (by omega)]
  show nI (k >>> j) &&& nI 1 = 0 ↔ _
  rw [nx_and, Nat.and_one_is_mod, ← nI_0, nI_eq (by omega) (by omega), Nat.testBit_eq_decide_div_mod_eq, Nat.shiftRight_eq_div_pow, decide_eq_false_iff_not]
  generalize k / 2 ^ j = z
  omega
theorem nx_mod (k : Nat) : nI k &&& 65535 = nI (k % 65536) := by
  show nI k &&& nI 65535 = _
  rw [nx_and, show (65535 : Nat) = 2 ^ 16 - 1 from rfl, Nat.and_two_pow_sub_one_eq_mod]
theorem nx_m16 {k : Nat} (h : k < 65536) : nI k &&& 65535 = nI k := by rw [nx_mod, Nat.mod_eq_of_lt h]
theorem nx_mask (x : Int32) : ∃ k, k < 65536 ∧ x &&& 65535 = nI k := by
  have e : x = nI x.toBitVec.toNat := by
    apply Int32.toBitVec_inj.1
    show x.toBitVec = BitVec.ofNat 32 x.toBitVec.toNat
    simp
  refine ⟨x.toBitVec.toNat % 65536, Nat.mod_lt _ (by omega), ?_⟩
  rw [← nx_mod, ← e]
/-! counted loops; bits -/
def kz_up {α : Type} (st : Nat → α → α) : Nat → Nat → α → α
  | 0, _, a => a
  | m + 1, i, a => kz_up st m (i + 1) (st i a)
theorem kz_up_end {α : Type} (st : Nat → α → α) : ∀ (m i : Nat) (a : α), kz_up st (m + 1) i a = st (i + m) (kz_up st m i a)
  | 0, i, a => rfl
  | m + 1, i, a => by
    show kz_up st (m + 1) (i + 1) (st i a) = _
    rw [kz_up_end st m (i + 1) (st i a), show i + 1 + m = i + (m + 1) by omega]
    rfl
theorem kz_up_congr {α : Type} {st st' : Nat → α → α} : ∀ (m i : Nat) (a : α), (∀ j, i ≤ j → j < i + m → ∀ a, st j a = st' j a) → kz_up st m i a = kz_up st' m i a
  | 0, _, _, _ => rfl
  | m + 1, i, a, h => by
    show kz_up st m (i + 1) (st i a) = kz_up st' m (i + 1) (st' i a)
    rw [h i (Nat.le_refl i) (by omega) a]
    exact kz_up_congr m (i + 1) _ (fun j h1 h2 => h j (by omega) (by omega))
/-- a loop that counts from i up to N: what its body does to the rest, as often as it goes round, then what follows it -/
theorem kz_loop {α β : Type} {F : Nat → Int32 → α → Option β} {N : Nat} {st : Nat → α → α} {k : α → Option β} (P : Nat → α → Prop) (hx : ∀ n a, P N a → F (n + 1) (nI N) a = k a) (hs : ∀ n i a, i < N → P i a → F (n + 1) (nI i) a = F n (nI (i + 1)) (st i a)) (hP : ∀ i a, i < N → P i a → P (i + 1) (st i a)) : ∀ (m i : Nat) (a : α) (n : Nat), i + m = N → m < n → P i a → F n (nI i) a = k (kz_up st m i a) ∧ P N (kz_up st m i a)
  | 0, i, a, 0, h, hn, hp => absurd hn (Nat.not_lt_zero 0)
  | m + 1, i, a, 0, h, hn, hp => absurd hn (Nat.not_lt_zero _)
  | 0, i, a, n + 1, h, hn, hp => by
    have : i = N := by omega
    subst this
    exact ⟨hx n a hp, hp⟩
  | m + 1, i, a, n + 1, h, hn, hp => by
    rw [hs n i a (by omega) hp]
    exact kz_loop P hx hs hP m (i + 1) (st i a) n (by omega) (by omega) (hP i a (by omega) hp)
theorem kz_f (m : Nat) (h : m < 4096) : m < kx_fuel := h
theorem z_clamp {i : Nat} (h : i < 2 ^ 31) : (nI i).toNatClampNeg = i := nI_clamp h
theorem z_ck {α : Type} {n i : Nat} {k : Option α} (h : i < n) (hn : n ≤ 4096) : kx_ck n (nI i) k = k := by
  unfold kx_ck
  rw [show decide (nI i < 0) = false from decide_eq_false (fun q => by
    rw [Int32.lt_iff_toInt_lt, nI_toInt (by omega), Int32.toInt_zero] at q
    omega), nI_clamp (by omega), show Nat.ble n i = false by
    cases hb : Nat.ble n i with
    | true => exact absurd (Nat.le_of_ble_eq_true hb) (by omega)
    | false => rfl]
  rfl
theorem z_le {a b : Nat} (ha : a < 2 ^ 31) (hb : b < 2 ^ 31) : (nI a ≤ nI b) = (a ≤ b) := propext (nI_leI ha hb)
theorem z_lt {a b : Nat} (ha : a < 2 ^ 31) (hb : b < 2 ^ 31) : (nI a < nI b) = (a < b) := propext (nI_ltI ha hb)
theorem z_within (a lo hi : Int32) : f_X4_isWithin a lo hi = decide (lo ≤ a ∧ a ≤ hi) := by
  unfold f_X4_isWithin
  by_cases h1 : a < lo
  · rw [if_pos h1, decide_eq_false (fun q => absurd q.1 (Int32.not_le.mpr h1))]
  · rw [if_neg h1]
    by_cases h2 : hi < a
    · rw [if_pos h2, decide_eq_false (fun q => absurd q.2 (Int32.not_le.mpr h2))]
    · rw [if_neg h2, decide_eq_true ⟨Int32.not_lt.mp h1, Int32.not_lt.mp h2⟩]
theorem z_shL : ∀ i, i < 64 → (((nI i).toInt64 &&& 63).toBitVec.smod 64).toNat = i := by decide +kernel
/-- a bit of a long -/
def btL (y : Int64) (i : Nat) : Bool := y.toBitVec.getLsbD i
theorem btL_of (x : Int32) {i : Nat} (hi : i < 32) : btL x.toInt64 i = bt x i := by
  unfold btL bt
  show (x.toBitVec.signExtend 64).getLsbD i = _
  rw [BitVec.getLsbD_signExtend]
  simp [hi, show i < 64 by omega]
theorem z_isInL (y : Int64) {i : Nat} (hi : i < 32) : f_X4_isIn (nI i) y = btL y i := by
  unfold f_X4_isIn
  have e : (y >>> ((nI i).toInt64 &&& 63)).toBitVec = y.toBitVec.sshiftRight i := by
    rw [Int64.toBitVec_shiftRight]
    show y.toBitVec.sshiftRight _ = _
    rw [z_shL i (by omega)]
  have g : (y >>> ((nI i).toInt64 &&& 63)) &&& (1 : Int64) = 0 ↔ btL y i = false := by
    rw [← Int64.toBitVec_inj, Int64.toBitVec_and, e]
    show (y.toBitVec.sshiftRight i &&& 1#64) = 0#64 ↔ _
    rw [BitVec.and_one_eq_setWidth_ofBool_getLsbD, BitVec.getLsbD_sshiftRight, Nat.add_zero]
    unfold btL
    simp only [show ¬ 64 ≤ 0 by omega, show i < 64 by omega, decide_false, Bool.not_false, Bool.true_and, if_true]
    cases hb : y.toBitVec.getLsbD i
    · exact ⟨fun _ => by simp, fun _ => by decide⟩
    · exact ⟨fun z => absurd z (by decide), fun z => by simp at z⟩
  cases hb : btL y i with
  | false =>
    rw [if_pos (by rw [g.mpr hb]; decide)]
  | true =>
    rw [if_neg (fun z => by
      have : (y >>> ((nI i).toInt64 &&& 63)) &&& (1 : Int64) = 0 := by
        unfold lg_cmp at z
        split at z
        · exact absurd z (by decide)
        · split at z
          · assumption
          · exact absurd z (by decide)
      rw [g.mp this] at hb
      cases hb)]
theorem z_isIn (x : Int32) {i : Nat} (hi : i < 32) : f_X4_isIn (nI i) x.toInt64 = bt x i := by rw [z_isInL _ hi, btL_of x hi]
theorem z_has (x : Int32) {i : Nat} (hi : i < 32) : f_X5_has x (nI i) = bt x i := by
  unfold f_X5_has
  have e : (x >>> (nI i &&& 31)).toBitVec = x.toBitVec.sshiftRight i := by
    rw [Int32.toBitVec_shiftRight]
    show x.toBitVec.sshiftRight ((nI i &&& 31).toBitVec.smod 32).toNat = _
    rw [s_l i hi]
  have g : ((x >>> (nI i &&& 31)) &&& (1 : Int32)) = 1 ↔ bt x i = true := by
    rw [← Int32.toBitVec_inj, Int32.toBitVec_and, e]
    show (x.toBitVec.sshiftRight i &&& 1#32) = 1#32 ↔ _
    rw [BitVec.and_one_eq_setWidth_ofBool_getLsbD, BitVec.getLsbD_sshiftRight, Nat.add_zero]
    unfold bt
    simp only [show ¬ 32 ≤ 0 by omega, hi, decide_false, Bool.not_false, Bool.true_and, if_true]
    cases hb : x.toBitVec.getLsbD i
    · exact ⟨fun z => absurd z (by decide), fun z => by cases z⟩
    · exact ⟨fun _ => rfl, fun _ => by decide⟩
  cases hb : bt x i with
  | true => rw [if_pos (g.mpr hb)]
  | false => rw [if_neg (fun z => by rw [g.mp z] at hb; cases hb)]
/-- the set of those below n that p holds of, as bits -/
def z_mask (p : Nat → Bool) (n : Nat) : Int32 := kz_up (fun i a => if p i = true then a ||| ((1 : Int32) <<< (nI i &&& 31)) else a) n 0 0
theorem bt_one {i j : Nat} (hi : i < 32) (hj : j < 32) : bt ((1 : Int32) <<< (nI i &&& 31)) j = decide (j = i) := by
  rw [b_shl i hi 1 hj]
  by_cases h : j = i
  · subst h
    simp
    exact (by decide : bt 1 0 = true)
  · rw [decide_eq_false h]
    by_cases h2 : i ≤ j
    · rw [decide_eq_true h2, Bool.true_and]
      exact (by decide +kernel : ∀ k, k < 32 → ¬ k = 0 → bt 1 k = false) (j - i) (by omega) (by omega)
    · rw [decide_eq_false h2, Bool.false_and]
theorem z_mask_bt (p : Nat → Bool) : ∀ (n : Nat), n ≤ 32 → ∀ i, i < 32 → bt (z_mask p n) i = (decide (i < n) && p i)
  | 0, _, i, hi => by
    show bt 0 i = _
    rw [b_0]
    simp
  | n + 1, hn, i, hi => by
    have ih := z_mask_bt p n (by omega) i hi
    unfold z_mask at ih ⊢
    rw [kz_up_end, Nat.zero_add]
    by_cases hp : p n = true
    · rw [if_pos hp, b_or, ih, bt_one (by omega) hi]
      by_cases h : i = n
      · subst h
        simp [hp]
      · rw [decide_eq_false h, Bool.or_false]
        by_cases h2 : i < n
        · rw [decide_eq_true h2, decide_eq_true (by omega : i < n + 1)]
        · rw [decide_eq_false h2, decide_eq_false (by omega : ¬ i < n + 1)]
    · rw [if_neg hp, ih]
      by_cases h : i = n
      · subst h
        simp only [Bool.not_eq_true] at hp
        simp [hp]
      · by_cases h2 : i < n
        · rw [decide_eq_true h2, decide_eq_true (by omega : i < n + 1)]
        · rw [decide_eq_false h2, decide_eq_false (by omega : ¬ i < n + 1)]
