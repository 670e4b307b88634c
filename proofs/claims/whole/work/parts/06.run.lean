/-! the run of simple instructions: locals and operands alone -/
def kx_lv (b a : Nat) : Nat := bif Nat.beq b 0 then 2 else bif Nat.beq b 1 then (bif Nat.ble 4 a then 0 else 1) else 0
def kx_b2 (op : Nat) (x y : Int32) : Int32 :=
  bif Nat.beq op 20 then x + y else bif Nat.beq op 21 then x - y else bif Nat.beq op 22 then x * y else bif Nat.beq op 24 then x &&& y else bif Nat.beq op 25 then x ||| y else
  bif Nat.beq op 26 then x ^^^ y else bif Nat.beq op 27 then x <<< (y &&& 31) else bif Nat.beq op 28 then x >>> (y &&& 31) else (x.toUInt32 >>> (y.toUInt32 &&& Int32.toUInt32 31)).toInt32
def kx_b2ok (op : Nat) : Bool := Nat.ble 20 op && Nat.ble op 29 && !(Nat.beq op 23)
def kx_a1 (v : Value) : Bool := Nat.beq v.category 1
def kx_sA (I : kx_I) (L : List (Option Value)) (st : List Value) : Option (Nat × List (Option Value) × List Value) :=
  match I with
  | (op, a, b, c) =>
  bif Nat.beq op 6 then (bif Nat.beq (kx_lv b a) 0 then none else match L[a]? with | some (some (.ref x)) => some (kx_lv b a, L, .ref x :: st) | _ => none) else
  bif Nat.beq op 4 then (bif Nat.beq (kx_lv b a) 0 then none else match L[a]? with | some (some (.int x)) => some (kx_lv b a, L, .int x :: st) | _ => none) else
  bif Nat.beq op 1 then (bif Nat.ble 3 a then none else some (a + 1, L, .int c :: st)) else
  bif Nat.beq op 7 then (bif Nat.beq (kx_lv b a) 0 || Nat.ble L.length a then none else match st with | .int x :: q => some (kx_lv b a, kx_st1 a (.int x) 0 L, q) | _ => none) else
  bif Nat.beq op 9 then (bif Nat.beq (kx_lv b a) 0 || Nat.ble L.length a then none else match st with | .ref x :: q => some (kx_lv b a, kx_st1 a (.ref x) 0 L, q) | _ => none) else
  bif Nat.beq op 8 then (bif Nat.beq (kx_lv b a) 0 || Nat.ble L.length (a + 1) then none else match st with | .long x :: q => some (kx_lv b a, kx_st2 a (.long x) 0 L, q) | _ => none) else
  bif Nat.beq op 5 then (bif Nat.beq (kx_lv b a) 0 then none else match L[a]? with | some (some (.long x)) => some (kx_lv b a, L, .long x :: st) | _ => none) else
  bif Nat.beq op 10 then (bif Nat.ble L.length a then none else match L[a]? with | some (some (.int x)) => some (3, kx_st1 a (.int (x + c)) 0 L, st) | _ => none) else
  bif Nat.beq op 3 then (match a with | 0 => some (1, L, .long 0 :: st) | 1 => some (1, L, .long 1 :: st) | _ => none) else
  bif Nat.beq op 23 then (match st with | .int x :: q => some (1, L, .int (-x) :: q) | _ => none) else
  bif Nat.beq op 30 then (match st with | .int x :: q => some (1, L, .long x.toInt64 :: q) | _ => none) else
  bif Nat.beq op 31 then (match st with | .long x :: q => some (1, L, .int x.toInt32 :: q) | _ => none) else
  bif Nat.beq op 32 then (match st with | .int x :: q => some (1, L, .int x.toInt8.toInt32 :: q) | _ => none) else
  bif Nat.beq op 33 then (match st with | .int x :: q => some (1, L, .int x.toInt16.toInt32 :: q) | _ => none) else
  bif Nat.beq op 34 then (match st with | .int x :: q => some (1, L, .int (x.toUInt32 % 65536).toInt32 :: q) | _ => none) else
  bif Nat.beq op 35 then (match st with | .long y :: .long x :: q => some (1, L, .long (x + y) :: q) | _ => none) else
  bif Nat.beq op 36 then (match st with | .long y :: .long x :: q => some (1, L, .long (x &&& y) :: q) | _ => none) else
  bif Nat.beq op 37 then (match st with | .long y :: .long x :: q => some (1, L, .long (x ||| y) :: q) | _ => none) else
  bif Nat.beq op 38 then (match st with | .int y :: .long x :: q => some (1, L, .long (x <<< (y.toInt64 &&& 63)) :: q) | _ => none) else
  bif Nat.beq op 39 then (match st with | .int y :: .long x :: q => some (1, L, .long (x >>> (y.toInt64 &&& 63)) :: q) | _ => none) else
  bif Nat.beq op 40 then (match st with | .long y :: .long x :: q => some (1, L, .int (lg_cmp x y) :: q) | _ => none) else
  bif Nat.beq op 11 then (match st with | va :: q => bif kx_a1 va then some (1, L, va :: va :: q) else none | _ => none) else
  bif Nat.beq op 12 then (match st with | va :: vb :: q => bif kx_a1 va && kx_a1 vb then some (1, L, va :: vb :: va :: q) else none | _ => none) else
  bif Nat.beq op 13 then (match st with | va :: q => bif kx_a1 va then some (1, L, q) else none | _ => none) else
  bif Nat.beq op 14 then (match st with | va :: vb :: q => bif kx_a1 va && kx_a1 vb then some (1, L, va :: vb :: va :: vb :: q) else none | _ => none) else
  bif kx_b2ok op then (match st with | .int y :: .int x :: q => some (1, L, .int (kx_b2 op x y) :: q) | _ => none) else none
theorem kx_lv_or {b a : Nat} (h : ¬ kx_lv b a = 0) : (b = 0 ∧ kx_lv b a = 2) ∨ (b = 1 ∧ a < 4 ∧ kx_lv b a = 1) := by
  unfold kx_lv at h ⊢
  cases h0 : Nat.beq b 0 with
  | true => exact Or.inl ⟨kx_beq_t h0, rfl⟩
  | false =>
    rw [h0] at h
    cases h1 : Nat.beq b 1 with
    | true =>
      rw [h1] at h
      cases h2 : Nat.ble 4 a with
      | true => rw [h2] at h; exact absurd rfl h
      | false => exact Or.inr ⟨kx_beq_t h1, Nat.lt_of_not_le (fun q => by rw [Nat.ble_eq_true_of_le q] at h2; cases h2), rfl⟩
    | false => rw [h1] at h; exact absurd rfl h
theorem kx_sA_ok {E : kx_E} {T : kx_T} {d : Nat} {r : Option Value} {M' M : kx_M} {pc n : Nat} {L L' : List (Option Value)} {st st' : List Value} (hs : kx_sA (T.2.2.2.2.2 pc) L st = some (n, L', st')) (k : kx_Rn E T d (pc + n, L', st', M) r M') : kx_Rn E T d (pc, L, st, M) r M' := by
  generalize hI : T.2.2.2.2.2 pc = I at hs
  obtain ⟨op, a, b, c⟩ := I
  unfold kx_sA at hs
  dsimp only at hs
  cases h6 : Nat.beq op 6 with
  | true =>
    rw [h6] at hs
    have hop := kx_beq_t h6
    clear h6
    subst hop
    simp only [cond_true] at hs
    cases hz : Nat.beq (kx_lv b a) 0 with
    | true => rw [hz] at hs; cases hs
    | false =>
      rw [hz] at hs
      simp only [cond_false] at hs
      split at hs
      · rename_i x hx
        cases hs
        rcases kx_lv_or (kx_beq_f hz) with ⟨h1, h2⟩ | ⟨h1, h3, h2⟩
        · subst h1
          exact kx_r_aload0 hI hx k
        · subst h1
          rw [h2] at k
          exact kx_r_aload1 hI hx h3 k
      · cases hs
  | false =>
  rw [h6] at hs
  simp only [cond_false] at hs
  clear h6
  cases h4 : Nat.beq op 4 with
  | true =>
    rw [h4] at hs
    have hop := kx_beq_t h4
    clear h4
    subst hop
    simp only [cond_true] at hs
    cases hz : Nat.beq (kx_lv b a) 0 with
    | true => rw [hz] at hs; cases hs
    | false =>
      rw [hz] at hs
      simp only [cond_false] at hs
      split at hs
      · rename_i x hx
        cases hs
        rcases kx_lv_or (kx_beq_f hz) with ⟨h1, h2⟩ | ⟨h1, h3, h2⟩
        · subst h1
          exact kx_r_iload0 hI hx k
        · subst h1
          rw [h2] at k
          exact kx_r_iload1 hI hx h3 k
      · cases hs
  | false =>
  rw [h4] at hs
  simp only [cond_false] at hs
  clear h4
  cases h1 : Nat.beq op 1 with
  | true =>
    rw [h1] at hs
    have hop := kx_beq_t h1
    clear h1
    subst hop
    simp only [cond_true] at hs
    cases hz : Nat.ble 3 a with
    | true => rw [hz] at hs; cases hs
    | false =>
      rw [hz] at hs
      cases hs
      have h3 : ¬ 3 ≤ a := fun q => by rw [Nat.ble_eq_true_of_le q] at hz; cases hz
      rcases (show a = 0 ∨ a = 1 ∨ a = 2 by omega) with rfl | rfl | rfl
      · exact kx_r_push0 hI k
      · exact kx_r_push1 hI k
      · exact kx_r_push2 hI k
  | false =>
  rw [h1] at hs
  simp only [cond_false] at hs
  clear h1
  cases h7 : Nat.beq op 7 with
  | true =>
    rw [h7] at hs
    have hop := kx_beq_t h7
    clear h7
    subst hop
    simp only [cond_true] at hs
    cases hz : (Nat.beq (kx_lv b a) 0 || Nat.ble L.length a) with
    | true => rw [hz] at hs; cases hs
    | false =>
      rw [hz] at hs
      simp only [cond_false] at hs
      simp only [Bool.or_eq_false_iff] at hz
      have hlen : a < L.length := Nat.lt_of_not_le (fun q => by rw [Nat.ble_eq_true_of_le q] at hz; cases hz.2)
      split at hs
      · cases hs
        rcases kx_lv_or (kx_beq_f hz.1) with ⟨h1, h2⟩ | ⟨h1, h3, h2⟩
        · subst h1
          exact kx_r_istore0 hI hlen k
        · subst h1
          rw [h2] at k
          exact kx_r_istore1 hI hlen h3 k
      · cases hs
  | false =>
  rw [h7] at hs
  simp only [cond_false] at hs
  clear h7
  cases h9 : Nat.beq op 9 with
  | true =>
    rw [h9] at hs
    have hop := kx_beq_t h9
    clear h9
    subst hop
    simp only [cond_true] at hs
    cases hz : (Nat.beq (kx_lv b a) 0 || Nat.ble L.length a) with
    | true => rw [hz] at hs; cases hs
    | false =>
      rw [hz] at hs
      simp only [cond_false] at hs
      simp only [Bool.or_eq_false_iff] at hz
      have hlen : a < L.length := Nat.lt_of_not_le (fun q => by rw [Nat.ble_eq_true_of_le q] at hz; cases hz.2)
      split at hs
      · cases hs
        rcases kx_lv_or (kx_beq_f hz.1) with ⟨h1, h2⟩ | ⟨h1, h3, h2⟩
        · subst h1
          exact kx_r_astore0 hI hlen k
        · subst h1
          rw [h2] at k
          exact kx_r_astore1 hI hlen h3 k
      · cases hs
  | false =>
  rw [h9] at hs
  simp only [cond_false] at hs
  clear h9
  cases h8 : Nat.beq op 8 with
  | true =>
    rw [h8] at hs
    have hop := kx_beq_t h8
    clear h8
    subst hop
    simp only [cond_true] at hs
    cases hz : (Nat.beq (kx_lv b a) 0 || Nat.ble L.length (a + 1)) with
    | true => rw [hz] at hs; cases hs
    | false =>
      rw [hz] at hs
      simp only [cond_false] at hs
      simp only [Bool.or_eq_false_iff] at hz
      have hlen : (a + 1) < L.length := Nat.lt_of_not_le (fun q => by rw [Nat.ble_eq_true_of_le q] at hz; cases hz.2)
      split at hs
      · cases hs
        rcases kx_lv_or (kx_beq_f hz.1) with ⟨h1, h2⟩ | ⟨h1, h3, h2⟩
        · subst h1
          exact kx_r_lstore0 hI hlen k
        · subst h1
          rw [h2] at k
          exact kx_r_lstore1 hI hlen h3 k
      · cases hs
  | false =>
  rw [h8] at hs
  simp only [cond_false] at hs
  clear h8
  cases h5 : Nat.beq op 5 with
  | true =>
    rw [h5] at hs
    have hop := kx_beq_t h5
    clear h5
    subst hop
    simp only [cond_true] at hs
    cases hz : Nat.beq (kx_lv b a) 0 with
    | true => rw [hz] at hs; cases hs
    | false =>
      rw [hz] at hs
      simp only [cond_false] at hs
      split at hs
      · rename_i x hx
        cases hs
        rcases kx_lv_or (kx_beq_f hz) with ⟨h1, h2⟩ | ⟨h1, h3, h2⟩
        · subst h1
          exact kx_r_lload0 hI hx k
        · subst h1
          rw [h2] at k
          exact kx_r_lload1 hI hx h3 k
      · cases hs
  | false =>
  rw [h5] at hs
  simp only [cond_false] at hs
  clear h5
  cases h10 : Nat.beq op 10 with
  | true =>
    rw [h10] at hs
    have hop := kx_beq_t h10
    clear h10
    subst hop
    simp only [cond_true] at hs
    cases hz : Nat.ble L.length a with
    | true => rw [hz] at hs; cases hs
    | false =>
      rw [hz] at hs
      simp only [cond_false] at hs
      have hlen : a < L.length := Nat.lt_of_not_le (fun q => by rw [Nat.ble_eq_true_of_le q] at hz; cases hz)
      split at hs
      · rename_i x hx
        cases hs
        exact kx_r_iinc hI hlen hx k
      · cases hs
  | false =>
  rw [h10] at hs
  simp only [cond_false] at hs
  clear h10
  cases h3 : Nat.beq op 3 with
  | true =>
    rw [h3] at hs
    have hop := kx_beq_t h3
    clear h3
    subst hop
    simp only [cond_true] at hs
    split at hs
    · cases hs; exact kx_r_lconst0 hI k
    · cases hs; exact kx_r_lconst1 hI k
    · cases hs
  | false =>
  rw [h3] at hs
  simp only [cond_false] at hs
  clear h3
  cases h23 : Nat.beq op 23 with
  | true =>
    rw [h23] at hs
    have hop := kx_beq_t h23
    clear h23
    subst hop
    simp only [cond_true] at hs
    split at hs
    · cases hs; exact kx_r_ineg hI k
    · cases hs
  | false =>
  rw [h23] at hs
  simp only [cond_false] at hs
  clear h23
  cases h30 : Nat.beq op 30 with
  | true =>
    rw [h30] at hs
    have hop := kx_beq_t h30
    clear h30
    subst hop
    simp only [cond_true] at hs
    split at hs
    · cases hs; exact kx_r_i2l hI k
    · cases hs
  | false =>
  rw [h30] at hs
  simp only [cond_false] at hs
  clear h30
  cases h31 : Nat.beq op 31 with
  | true =>
    rw [h31] at hs
    have hop := kx_beq_t h31
    clear h31
    subst hop
    simp only [cond_true] at hs
    split at hs
    · cases hs; exact kx_r_l2i hI k
    · cases hs
  | false =>
  rw [h31] at hs
  simp only [cond_false] at hs
  clear h31
  cases h32 : Nat.beq op 32 with
  | true =>
    rw [h32] at hs
    have hop := kx_beq_t h32
    clear h32
    subst hop
    simp only [cond_true] at hs
    split at hs
    · cases hs; exact kx_r_i2b hI k
    · cases hs
  | false =>
  rw [h32] at hs
  simp only [cond_false] at hs
  clear h32
  cases h33 : Nat.beq op 33 with
  | true =>
    rw [h33] at hs
    have hop := kx_beq_t h33
    clear h33
    subst hop
    simp only [cond_true] at hs
    split at hs
    · cases hs; exact kx_r_i2s hI k
    · cases hs
  | false =>
  rw [h33] at hs
  simp only [cond_false] at hs
  clear h33
  cases h34 : Nat.beq op 34 with
  | true =>
    rw [h34] at hs
    have hop := kx_beq_t h34
    clear h34
    subst hop
    simp only [cond_true] at hs
    split at hs
    · cases hs; exact kx_r_i2c hI k
    · cases hs
  | false =>
  rw [h34] at hs
  simp only [cond_false] at hs
  clear h34
  cases h35 : Nat.beq op 35 with
  | true =>
    rw [h35] at hs
    have hop := kx_beq_t h35
    clear h35
    subst hop
    simp only [cond_true] at hs
    split at hs
    · cases hs; exact kx_r_ladd hI k
    · cases hs
  | false =>
  rw [h35] at hs
  simp only [cond_false] at hs
  clear h35
  cases h36 : Nat.beq op 36 with
  | true =>
    rw [h36] at hs
    have hop := kx_beq_t h36
    clear h36
    subst hop
    simp only [cond_true] at hs
    split at hs
    · cases hs; exact kx_r_land hI k
    · cases hs
  | false =>
  rw [h36] at hs
  simp only [cond_false] at hs
  clear h36
  cases h37 : Nat.beq op 37 with
  | true =>
    rw [h37] at hs
    have hop := kx_beq_t h37
    clear h37
    subst hop
    simp only [cond_true] at hs
    split at hs
    · cases hs; exact kx_r_lor hI k
    · cases hs
  | false =>
  rw [h37] at hs
  simp only [cond_false] at hs
  clear h37
  cases h38 : Nat.beq op 38 with
  | true =>
    rw [h38] at hs
    have hop := kx_beq_t h38
    clear h38
    subst hop
    simp only [cond_true] at hs
    split at hs
    · cases hs; exact kx_r_lshl hI k
    · cases hs
  | false =>
  rw [h38] at hs
  simp only [cond_false] at hs
  clear h38
  cases h39 : Nat.beq op 39 with
  | true =>
    rw [h39] at hs
    have hop := kx_beq_t h39
    clear h39
    subst hop
    simp only [cond_true] at hs
    split at hs
    · cases hs; exact kx_r_lshr hI k
    · cases hs
  | false =>
  rw [h39] at hs
  simp only [cond_false] at hs
  clear h39
  cases h40 : Nat.beq op 40 with
  | true =>
    rw [h40] at hs
    have hop := kx_beq_t h40
    clear h40
    subst hop
    simp only [cond_true] at hs
    split at hs
    · cases hs; exact kx_r_lcmp hI k
    · cases hs
  | false =>
  rw [h40] at hs
  simp only [cond_false] at hs
  clear h40
  cases h11 : Nat.beq op 11 with
  | true =>
    rw [h11] at hs
    have hop := kx_beq_t h11
    clear h11
    subst hop
    simp only [cond_true] at hs
    split at hs
    · rename_i va q
      cases hz : (kx_a1 va) with
      | true =>
        rw [hz] at hs
        cases hs
        exact kx_r_dup hI (kx_beq_t hz) k
      | false => rw [hz] at hs; cases hs
    · cases hs
  | false =>
  rw [h11] at hs
  simp only [cond_false] at hs
  clear h11
  cases h12 : Nat.beq op 12 with
  | true =>
    rw [h12] at hs
    have hop := kx_beq_t h12
    clear h12
    subst hop
    simp only [cond_true] at hs
    split at hs
    · rename_i va vb q
      cases hz : (kx_a1 va && kx_a1 vb) with
      | true =>
        rw [hz] at hs
        cases hs
        simp only [Bool.and_eq_true] at hz
        exact kx_r_dup_x1 hI (kx_beq_t hz.1) (kx_beq_t hz.2) k
      | false => rw [hz] at hs; cases hs
    · cases hs
  | false =>
  rw [h12] at hs
  simp only [cond_false] at hs
  clear h12
  cases h13 : Nat.beq op 13 with
  | true =>
    rw [h13] at hs
    have hop := kx_beq_t h13
    clear h13
    subst hop
    simp only [cond_true] at hs
    split at hs
    · rename_i va q
      cases hz : (kx_a1 va) with
      | true =>
        rw [hz] at hs
        cases hs
        exact kx_r_pop hI (kx_beq_t hz) k
      | false => rw [hz] at hs; cases hs
    · cases hs
  | false =>
  rw [h13] at hs
  simp only [cond_false] at hs
  clear h13
  cases h14 : Nat.beq op 14 with
  | true =>
    rw [h14] at hs
    have hop := kx_beq_t h14
    clear h14
    subst hop
    simp only [cond_true] at hs
    split at hs
    · rename_i va vb q
      cases hz : (kx_a1 va && kx_a1 vb) with
      | true =>
        rw [hz] at hs
        cases hs
        simp only [Bool.and_eq_true] at hz
        exact kx_r_dup2 hI (kx_beq_t hz.1) (kx_beq_t hz.2) k
      | false => rw [hz] at hs; cases hs
    · cases hs
  | false =>
  rw [h14] at hs
  simp only [cond_false] at hs
  clear h14
  cases hk : kx_b2ok op with
  | false => rw [hk] at hs; cases hs
  | true =>
  rw [hk] at hs
  simp only [cond_true] at hs
  unfold kx_b2ok at hk
  simp only [Bool.and_eq_true, Bool.not_eq_true'] at hk
  have g1 := Nat.le_of_ble_eq_true hk.1.1
  have g2 := Nat.le_of_ble_eq_true hk.1.2
  have g3 := kx_beq_f hk.2
  split at hs
  · cases hs
    rcases (show op = 20 ∨ op = 21 ∨ op = 22 ∨ op = 24 ∨ op = 25 ∨ op = 26 ∨ op = 27 ∨ op = 28 ∨ op = 29 by omega) with rfl | rfl | rfl | rfl | rfl | rfl | rfl | rfl | rfl
    · exact kx_r_iadd hI k
    · exact kx_r_isub hI k
    · exact kx_r_imul hI k
    · exact kx_r_iand hI k
    · exact kx_r_ior hI k
    · exact kx_r_ixor hI k
    · exact kx_r_ishl hI k
    · exact kx_r_ishr hI k
    · exact kx_r_iushr hI k
  · cases hs
def kx_run (t : Nat → kx_I) : Nat → Nat → List (Option Value) → List Value → Option (Nat × List (Option Value) × List Value)
  | 0, pc, L, st => some (pc, L, st)
  | n + 1, pc, L, st => match kx_sA (t pc) L st with
    | some (k, L', st') => kx_run t n (pc + k) L' st'
    | none => none
theorem kx_go {E : kx_E} {T : kx_T} {d : Nat} {r : Option Value} {M' M : kx_M} : ∀ (n : Nat) {pc pc' : Nat} {L L' : List (Option Value)} {st st' : List Value}, kx_run T.2.2.2.2.2 n pc L st = some (pc', L', st') → kx_Rn E T d (pc', L', st', M) r M' → kx_Rn E T d (pc, L, st, M) r M'
  | 0, pc, pc', L, L', st, st', h, k => by
    cases h
    exact k
  | n + 1, pc, pc', L, L', st, st', h, k => by
    unfold kx_run at h
    split at h
    · rename_i n1 L1 st1 hs
      exact kx_sA_ok hs (kx_go n h k)
    · cases h
