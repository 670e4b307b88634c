section KXR
variable {E : kx_E} {T : kx_T} {d : Nat} {r : Option Value} {M' M : kx_M} {pc a b : Nat} {c : Int32} {L : List (Option Value)} {st : List Value}
theorem kx_r_iadd {x y : Int32} (hI : T.2.2.2.2.2 pc = (20, a, b, c))  (k : kx_Rn E T d (pc + 1, L, .int (x + y) :: st, M) r M') : kx_Rn E T d (pc, L, .int y :: .int x :: st, M) r M' := by
  intro p l e s m args below meth c0 D ac ad H locs ls hC hXX hP hD hS hl
  obtain ⟨hx, hb, hml, hr, hown, hts, hK, hlocks, hT⟩ := id hC
  exact lv_iadd hx hb (kx_dec hT hI rfl).1 (k p l e s m args below meth c0 D ac ad H locs ls hC hXX hP hD hS hl)
theorem kx_r_isub {x y : Int32} (hI : T.2.2.2.2.2 pc = (21, a, b, c))  (k : kx_Rn E T d (pc + 1, L, .int (x - y) :: st, M) r M') : kx_Rn E T d (pc, L, .int y :: .int x :: st, M) r M' := by
  intro p l e s m args below meth c0 D ac ad H locs ls hC hXX hP hD hS hl
  obtain ⟨hx, hb, hml, hr, hown, hts, hK, hlocks, hT⟩ := id hC
  exact lv_isub hx hb (kx_dec hT hI rfl).1 (k p l e s m args below meth c0 D ac ad H locs ls hC hXX hP hD hS hl)
theorem kx_r_imul {x y : Int32} (hI : T.2.2.2.2.2 pc = (22, a, b, c))  (k : kx_Rn E T d (pc + 1, L, .int (x * y) :: st, M) r M') : kx_Rn E T d (pc, L, .int y :: .int x :: st, M) r M' := by
  intro p l e s m args below meth c0 D ac ad H locs ls hC hXX hP hD hS hl
  obtain ⟨hx, hb, hml, hr, hown, hts, hK, hlocks, hT⟩ := id hC
  exact lv_imul hx hb (kx_dec hT hI rfl).1 (k p l e s m args below meth c0 D ac ad H locs ls hC hXX hP hD hS hl)
theorem kx_r_iand {x y : Int32} (hI : T.2.2.2.2.2 pc = (24, a, b, c))  (k : kx_Rn E T d (pc + 1, L, .int (x &&& y) :: st, M) r M') : kx_Rn E T d (pc, L, .int y :: .int x :: st, M) r M' := by
  intro p l e s m args below meth c0 D ac ad H locs ls hC hXX hP hD hS hl
  obtain ⟨hx, hb, hml, hr, hown, hts, hK, hlocks, hT⟩ := id hC
  exact lv_iand hx hb (kx_dec hT hI rfl).1 (k p l e s m args below meth c0 D ac ad H locs ls hC hXX hP hD hS hl)
theorem kx_r_ior {x y : Int32} (hI : T.2.2.2.2.2 pc = (25, a, b, c))  (k : kx_Rn E T d (pc + 1, L, .int (x ||| y) :: st, M) r M') : kx_Rn E T d (pc, L, .int y :: .int x :: st, M) r M' := by
  intro p l e s m args below meth c0 D ac ad H locs ls hC hXX hP hD hS hl
  obtain ⟨hx, hb, hml, hr, hown, hts, hK, hlocks, hT⟩ := id hC
  exact lv_ior hx hb (kx_dec hT hI rfl).1 (k p l e s m args below meth c0 D ac ad H locs ls hC hXX hP hD hS hl)
theorem kx_r_ixor {x y : Int32} (hI : T.2.2.2.2.2 pc = (26, a, b, c))  (k : kx_Rn E T d (pc + 1, L, .int (x ^^^ y) :: st, M) r M') : kx_Rn E T d (pc, L, .int y :: .int x :: st, M) r M' := by
  intro p l e s m args below meth c0 D ac ad H locs ls hC hXX hP hD hS hl
  obtain ⟨hx, hb, hml, hr, hown, hts, hK, hlocks, hT⟩ := id hC
  exact lv_ixor hx hb (kx_dec hT hI rfl).1 (k p l e s m args below meth c0 D ac ad H locs ls hC hXX hP hD hS hl)
theorem kx_r_ishl {x y : Int32} (hI : T.2.2.2.2.2 pc = (27, a, b, c))  (k : kx_Rn E T d (pc + 1, L, .int (x <<< (y &&& 31)) :: st, M) r M') : kx_Rn E T d (pc, L, .int y :: .int x :: st, M) r M' := by
  intro p l e s m args below meth c0 D ac ad H locs ls hC hXX hP hD hS hl
  obtain ⟨hx, hb, hml, hr, hown, hts, hK, hlocks, hT⟩ := id hC
  exact lv_ishl hx hb (kx_dec hT hI rfl).1 (k p l e s m args below meth c0 D ac ad H locs ls hC hXX hP hD hS hl)
theorem kx_r_ishr {x y : Int32} (hI : T.2.2.2.2.2 pc = (28, a, b, c))  (k : kx_Rn E T d (pc + 1, L, .int (x >>> (y &&& 31)) :: st, M) r M') : kx_Rn E T d (pc, L, .int y :: .int x :: st, M) r M' := by
  intro p l e s m args below meth c0 D ac ad H locs ls hC hXX hP hD hS hl
  obtain ⟨hx, hb, hml, hr, hown, hts, hK, hlocks, hT⟩ := id hC
  exact lv_ishr hx hb (kx_dec hT hI rfl).1 (k p l e s m args below meth c0 D ac ad H locs ls hC hXX hP hD hS hl)
theorem kx_r_iushr {x y : Int32} (hI : T.2.2.2.2.2 pc = (29, a, b, c))  (k : kx_Rn E T d (pc + 1, L, .int ((x.toUInt32 >>> (y.toUInt32 &&& Int32.toUInt32 31)).toInt32) :: st, M) r M') : kx_Rn E T d (pc, L, .int y :: .int x :: st, M) r M' := by
  intro p l e s m args below meth c0 D ac ad H locs ls hC hXX hP hD hS hl
  obtain ⟨hx, hb, hml, hr, hown, hts, hK, hlocks, hT⟩ := id hC
  exact lv_iushr hx hb (kx_dec hT hI rfl).1 rfl (k p l e s m args below meth c0 D ac ad H locs ls hC hXX hP hD hS hl)
theorem kx_r_ineg {x : Int32} (hI : T.2.2.2.2.2 pc = (23, a, b, c))  (k : kx_Rn E T d (pc + 1, L, .int (-x) :: st, M) r M') : kx_Rn E T d (pc, L, .int x :: st, M) r M' := by
  intro p l e s m args below meth c0 D ac ad H locs ls hC hXX hP hD hS hl
  obtain ⟨hx, hb, hml, hr, hown, hts, hK, hlocks, hT⟩ := id hC
  exact lv_ineg hx hb (kx_dec hT hI rfl).1 (k p l e s m args below meth c0 D ac ad H locs ls hC hXX hP hD hS hl)
theorem kx_r_i2l {x : Int32} (hI : T.2.2.2.2.2 pc = (30, a, b, c))  (k : kx_Rn E T d (pc + 1, L, .long x.toInt64 :: st, M) r M') : kx_Rn E T d (pc, L, .int x :: st, M) r M' := by
  intro p l e s m args below meth c0 D ac ad H locs ls hC hXX hP hD hS hl
  obtain ⟨hx, hb, hml, hr, hown, hts, hK, hlocks, hT⟩ := id hC
  exact lv_i2l hx hb (kx_dec hT hI rfl).1 rfl (k p l e s m args below meth c0 D ac ad H locs ls hC hXX hP hD hS hl)
theorem kx_r_l2i {x : Int64} (hI : T.2.2.2.2.2 pc = (31, a, b, c))  (k : kx_Rn E T d (pc + 1, L, .int x.toInt32 :: st, M) r M') : kx_Rn E T d (pc, L, .long x :: st, M) r M' := by
  intro p l e s m args below meth c0 D ac ad H locs ls hC hXX hP hD hS hl
  obtain ⟨hx, hb, hml, hr, hown, hts, hK, hlocks, hT⟩ := id hC
  exact lv_l2i hx hb (kx_dec hT hI rfl).1 rfl (k p l e s m args below meth c0 D ac ad H locs ls hC hXX hP hD hS hl)
theorem kx_r_i2b {x : Int32} (hI : T.2.2.2.2.2 pc = (32, a, b, c))  (k : kx_Rn E T d (pc + 1, L, .int x.toInt8.toInt32 :: st, M) r M') : kx_Rn E T d (pc, L, .int x :: st, M) r M' := by
  intro p l e s m args below meth c0 D ac ad H locs ls hC hXX hP hD hS hl
  obtain ⟨hx, hb, hml, hr, hown, hts, hK, hlocks, hT⟩ := id hC
  exact lv_i2b hx hb (kx_dec hT hI rfl).1 rfl (k p l e s m args below meth c0 D ac ad H locs ls hC hXX hP hD hS hl)
theorem kx_r_i2s {x : Int32} (hI : T.2.2.2.2.2 pc = (33, a, b, c))  (k : kx_Rn E T d (pc + 1, L, .int x.toInt16.toInt32 :: st, M) r M') : kx_Rn E T d (pc, L, .int x :: st, M) r M' := by
  intro p l e s m args below meth c0 D ac ad H locs ls hC hXX hP hD hS hl
  obtain ⟨hx, hb, hml, hr, hown, hts, hK, hlocks, hT⟩ := id hC
  exact lv_i2s hx hb (kx_dec hT hI rfl).1 rfl (k p l e s m args below meth c0 D ac ad H locs ls hC hXX hP hD hS hl)
theorem kx_r_i2c {x : Int32} (hI : T.2.2.2.2.2 pc = (34, a, b, c))  (k : kx_Rn E T d (pc + 1, L, .int (x.toUInt32 % 65536).toInt32 :: st, M) r M') : kx_Rn E T d (pc, L, .int x :: st, M) r M' := by
  intro p l e s m args below meth c0 D ac ad H locs ls hC hXX hP hD hS hl
  obtain ⟨hx, hb, hml, hr, hown, hts, hK, hlocks, hT⟩ := id hC
  exact lv_i2c hx hb (kx_dec hT hI rfl).1 rfl (k p l e s m args below meth c0 D ac ad H locs ls hC hXX hP hD hS hl)
theorem kx_r_ladd {x y : Int64} (hI : T.2.2.2.2.2 pc = (35, a, b, c))  (k : kx_Rn E T d (pc + 1, L, .long (x + y) :: st, M) r M') : kx_Rn E T d (pc, L, .long y :: .long x :: st, M) r M' := by
  intro p l e s m args below meth c0 D ac ad H locs ls hC hXX hP hD hS hl
  obtain ⟨hx, hb, hml, hr, hown, hts, hK, hlocks, hT⟩ := id hC
  exact lv_ladd hx hb (kx_dec hT hI rfl).1 (k p l e s m args below meth c0 D ac ad H locs ls hC hXX hP hD hS hl)
theorem kx_r_land {x y : Int64} (hI : T.2.2.2.2.2 pc = (36, a, b, c))  (k : kx_Rn E T d (pc + 1, L, .long (x &&& y) :: st, M) r M') : kx_Rn E T d (pc, L, .long y :: .long x :: st, M) r M' := by
  intro p l e s m args below meth c0 D ac ad H locs ls hC hXX hP hD hS hl
  obtain ⟨hx, hb, hml, hr, hown, hts, hK, hlocks, hT⟩ := id hC
  exact lv_land hx hb (kx_dec hT hI rfl).1 (k p l e s m args below meth c0 D ac ad H locs ls hC hXX hP hD hS hl)
theorem kx_r_lor {x y : Int64} (hI : T.2.2.2.2.2 pc = (37, a, b, c))  (k : kx_Rn E T d (pc + 1, L, .long (x ||| y) :: st, M) r M') : kx_Rn E T d (pc, L, .long y :: .long x :: st, M) r M' := by
  intro p l e s m args below meth c0 D ac ad H locs ls hC hXX hP hD hS hl
  obtain ⟨hx, hb, hml, hr, hown, hts, hK, hlocks, hT⟩ := id hC
  exact lv_lor hx hb (kx_dec hT hI rfl).1 (k p l e s m args below meth c0 D ac ad H locs ls hC hXX hP hD hS hl)
theorem kx_r_lshl {x : Int64} {y : Int32} (hI : T.2.2.2.2.2 pc = (38, a, b, c))  (k : kx_Rn E T d (pc + 1, L, .long (x <<< (y.toInt64 &&& 63)) :: st, M) r M') : kx_Rn E T d (pc, L, .int y :: .long x :: st, M) r M' := by
  intro p l e s m args below meth c0 D ac ad H locs ls hC hXX hP hD hS hl
  obtain ⟨hx, hb, hml, hr, hown, hts, hK, hlocks, hT⟩ := id hC
  exact lv_lshl hx hb (kx_dec hT hI rfl).1 rfl (k p l e s m args below meth c0 D ac ad H locs ls hC hXX hP hD hS hl)
theorem kx_r_lshr {x : Int64} {y : Int32} (hI : T.2.2.2.2.2 pc = (39, a, b, c))  (k : kx_Rn E T d (pc + 1, L, .long (x >>> (y.toInt64 &&& 63)) :: st, M) r M') : kx_Rn E T d (pc, L, .int y :: .long x :: st, M) r M' := by
  intro p l e s m args below meth c0 D ac ad H locs ls hC hXX hP hD hS hl
  obtain ⟨hx, hb, hml, hr, hown, hts, hK, hlocks, hT⟩ := id hC
  exact lv_lshr hx hb (kx_dec hT hI rfl).1 rfl (k p l e s m args below meth c0 D ac ad H locs ls hC hXX hP hD hS hl)
theorem kx_r_lcmp {x y : Int64} (hI : T.2.2.2.2.2 pc = (40, a, b, c))  (k : kx_Rn E T d (pc + 1, L, .int (lg_cmp x y) :: st, M) r M') : kx_Rn E T d (pc, L, .long y :: .long x :: st, M) r M' := by
  intro p l e s m args below meth c0 D ac ad H locs ls hC hXX hP hD hS hl
  obtain ⟨hx, hb, hml, hr, hown, hts, hK, hlocks, hT⟩ := id hC
  exact W.lcmp hx hb (kx_dec hT hI rfl).1 (k p l e s m args below meth c0 D ac ad H locs ls hC hXX hP hD hS hl)
theorem kx_r_idiv {x y : Int32} (hI : T.2.2.2.2.2 pc = (75, a, b, c)) (hne : ¬ y = 0) (k : kx_Rn E T d (pc + 1, L, .int (x / y) :: st, M) r M') : kx_Rn E T d (pc, L, .int y :: .int x :: st, M) r M' := by
  intro p l e s m args below meth c0 D ac ad H locs ls hC hXX hP hD hS hl
  obtain ⟨hx, hb, hml, hr, hown, hts, hK, hlocks, hT⟩ := id hC
  exact lv_idiv hx hb (kx_dec hT hI rfl).1 hne (k p l e s m args below meth c0 D ac ad H locs ls hC hXX hP hD hS hl)
theorem kx_r_irem {x y : Int32} (hI : T.2.2.2.2.2 pc = (76, a, b, c)) (hne : ¬ y = 0) (k : kx_Rn E T d (pc + 1, L, .int (x - x / y * y) :: st, M) r M') : kx_Rn E T d (pc, L, .int y :: .int x :: st, M) r M' := by
  intro p l e s m args below meth c0 D ac ad H locs ls hC hXX hP hD hS hl
  obtain ⟨hx, hb, hml, hr, hown, hts, hK, hlocks, hT⟩ := id hC
  exact lv_irem hx hb (kx_dec hT hI rfl).1 hne (k p l e s m args below meth c0 D ac ad H locs ls hC hXX hP hD hS hl)
theorem kx_r_dup {va : Value} (hI : T.2.2.2.2.2 pc = (11, a, b, c)) (hva : va.category = 1) (k : kx_Rn E T d (pc + 1, L, va :: va :: st, M) r M') : kx_Rn E T d (pc, L, va :: st, M) r M' := by
  intro p l e s m args below meth c0 D ac ad H locs ls hC hXX hP hD hS hl
  obtain ⟨hx, hb, hml, hr, hown, hts, hK, hlocks, hT⟩ := id hC
  exact lv_dup hx hb (kx_dec hT hI rfl).1 ((kx_cv_cat ad va).trans hva) (k p l e s m args below meth c0 D ac ad H locs ls hC hXX hP hD hS hl)
theorem kx_r_dup_x1 {va vb : Value} (hI : T.2.2.2.2.2 pc = (12, a, b, c)) (hva : va.category = 1) (hvb : vb.category = 1) (k : kx_Rn E T d (pc + 1, L, va :: vb :: va :: st, M) r M') : kx_Rn E T d (pc, L, va :: vb :: st, M) r M' := by
  intro p l e s m args below meth c0 D ac ad H locs ls hC hXX hP hD hS hl
  obtain ⟨hx, hb, hml, hr, hown, hts, hK, hlocks, hT⟩ := id hC
  exact lv_dup_x1 hx hb (kx_dec hT hI rfl).1 ((kx_cv_cat ad va).trans hva) ((kx_cv_cat ad vb).trans hvb) (k p l e s m args below meth c0 D ac ad H locs ls hC hXX hP hD hS hl)
theorem kx_r_pop {va : Value} (hI : T.2.2.2.2.2 pc = (13, a, b, c)) (hva : va.category = 1) (k : kx_Rn E T d (pc + 1, L, st, M) r M') : kx_Rn E T d (pc, L, va :: st, M) r M' := by
  intro p l e s m args below meth c0 D ac ad H locs ls hC hXX hP hD hS hl
  obtain ⟨hx, hb, hml, hr, hown, hts, hK, hlocks, hT⟩ := id hC
  exact lv_pop hx hb (kx_dec hT hI rfl).1 ((kx_cv_cat ad va).trans hva) (k p l e s m args below meth c0 D ac ad H locs ls hC hXX hP hD hS hl)
theorem kx_r_dup2 {va vb : Value} (hI : T.2.2.2.2.2 pc = (14, a, b, c)) (hva : va.category = 1) (hvb : vb.category = 1) (k : kx_Rn E T d (pc + 1, L, va :: vb :: va :: vb :: st, M) r M') : kx_Rn E T d (pc, L, va :: vb :: st, M) r M' := by
  intro p l e s m args below meth c0 D ac ad H locs ls hC hXX hP hD hS hl
  obtain ⟨hx, hb, hml, hr, hown, hts, hK, hlocks, hT⟩ := id hC
  exact lv_dup2_11 hx hb (kx_dec hT hI rfl).1 ((kx_cv_cat ad va).trans hva) ((kx_cv_cat ad vb).trans hvb) (k p l e s m args below meth c0 D ac ad H locs ls hC hXX hP hD hS hl)
theorem kx_r_push0  (hI : T.2.2.2.2.2 pc = (1, 0, b, c))  (k : kx_Rn E T d (pc + 1, L, .int c :: st, M) r M') : kx_Rn E T d (pc, L, st, M) r M' := by
  intro p l e s m args below meth c0 D ac ad H locs ls hC hXX hP hD hS hl
  obtain ⟨hx, hb, hml, hr, hown, hts, hK, hlocks, hT⟩ := id hC
  exact lv_iconst hx hb (kx_dec hT hI rfl).1 (of_decide_eq_true (kx_dec hT hI rfl).2) (k p l e s m args below meth c0 D ac ad H locs ls hC hXX hP hD hS hl)
theorem kx_r_push1  (hI : T.2.2.2.2.2 pc = (1, 1, b, c))  (k : kx_Rn E T d (pc + 2, L, .int c :: st, M) r M') : kx_Rn E T d (pc, L, st, M) r M' := by
  intro p l e s m args below meth c0 D ac ad H locs ls hC hXX hP hD hS hl
  obtain ⟨hx, hb, hml, hr, hown, hts, hK, hlocks, hT⟩ := id hC
  exact lv_bipush hx hb (kx_dec hT hI rfl).1 (of_decide_eq_true (kx_dec hT hI rfl).2) (k p l e s m args below meth c0 D ac ad H locs ls hC hXX hP hD hS hl)
theorem kx_r_push2  (hI : T.2.2.2.2.2 pc = (1, 2, b, c))  (k : kx_Rn E T d (pc + 3, L, .int c :: st, M) r M') : kx_Rn E T d (pc, L, st, M) r M' := by
  intro p l e s m args below meth c0 D ac ad H locs ls hC hXX hP hD hS hl
  obtain ⟨hx, hb, hml, hr, hown, hts, hK, hlocks, hT⟩ := id hC
  exact lv_sipush hx hb (kx_dec hT hI rfl).1 (of_decide_eq_true (kx_dec hT hI rfl).2) (k p l e s m args below meth c0 D ac ad H locs ls hC hXX hP hD hS hl)
theorem kx_r_lconst0  (hI : T.2.2.2.2.2 pc = (3, 0, b, c))  (k : kx_Rn E T d (pc + 1, L, .long 0 :: st, M) r M') : kx_Rn E T d (pc, L, st, M) r M' := by
  intro p l e s m args below meth c0 D ac ad H locs ls hC hXX hP hD hS hl
  obtain ⟨hx, hb, hml, hr, hown, hts, hK, hlocks, hT⟩ := id hC
  exact lv_lconst hx hb (kx_dec hT hI rfl).1 rfl (k p l e s m args below meth c0 D ac ad H locs ls hC hXX hP hD hS hl)
theorem kx_r_lconst1  (hI : T.2.2.2.2.2 pc = (3, 1, b, c))  (k : kx_Rn E T d (pc + 1, L, .long 1 :: st, M) r M') : kx_Rn E T d (pc, L, st, M) r M' := by
  intro p l e s m args below meth c0 D ac ad H locs ls hC hXX hP hD hS hl
  obtain ⟨hx, hb, hml, hr, hown, hts, hK, hlocks, hT⟩ := id hC
  exact lv_lconst hx hb (kx_dec hT hI rfl).1 rfl (k p l e s m args below meth c0 D ac ad H locs ls hC hXX hP hD hS hl)
theorem kx_r_ldc0 {v : Int32} (hI : T.2.2.2.2.2 pc = (2, a, 0, c)) (hw : Cond.constant T.2.2.2.2.1 a v ∈ kx_tbl) (k : kx_Rn E T d (pc + 2, L, .int v :: st, M) r M') : kx_Rn E T d (pc, L, st, M) r M' := by
  intro p l e s m args below meth c0 D ac ad H locs ls hC hXX hP hD hS hl
  obtain ⟨hx, hb, hml, hr, hown, hts, hK, hlocks, hT⟩ := id hC
  exact lv_ldc hx hb hown (hts _ (List.mem_cons_of_mem _ hw)) (kx_dec hT hI rfl).1 (k p l e s m args below meth c0 D ac ad H locs ls hC hXX hP hD hS hl)
theorem kx_r_ldc1 {v : Int32} (hI : T.2.2.2.2.2 pc = (2, a, 1, c)) (hw : Cond.constant T.2.2.2.2.1 a v ∈ kx_tbl) (k : kx_Rn E T d (pc + 3, L, .int v :: st, M) r M') : kx_Rn E T d (pc, L, st, M) r M' := by
  intro p l e s m args below meth c0 D ac ad H locs ls hC hXX hP hD hS hl
  obtain ⟨hx, hb, hml, hr, hown, hts, hK, hlocks, hT⟩ := id hC
  exact lv_ldcw hx hb hown (hts _ (List.mem_cons_of_mem _ hw)) (kx_dec hT hI rfl).1 (k p l e s m args below meth c0 D ac ad H locs ls hC hXX hP hD hS hl)
theorem kx_lget {ad : Nat → Nat} {ls : Array Slot} {n : Nat} (h : kx_lr ad ls n L) {i : Nat} {v : Value} (hi : L[i]? = some (some v)) : ls[i]? = some (.val (kx_cv ad v)) := by
  obtain ⟨-, l, h1, h2⟩ := h
  exact h1.2.2 _ (h2 i v hi)
theorem kx_r_iload0 {x : Int32} (hI : T.2.2.2.2.2 pc = (4, a, 0, c)) (hv : L[a]? = some (some (.int x))) (k : kx_Rn E T d (pc + 2, L, .int x :: st, M) r M') : kx_Rn E T d (pc, L, st, M) r M' := by
  intro p l e s m args below meth c0 D ac ad H locs ls hC hXX hP hD hS hl
  obtain ⟨hx, hb, hml, hr, hown, hts, hK, hlocks, hT⟩ := id hC
  exact lv_iload hx hb (kx_dec hT hI rfl).1 (kx_lget hl hv) (k p l e s m args below meth c0 D ac ad H locs ls hC hXX hP hD hS hl)
theorem kx_r_iload1 {x : Int32} (hI : T.2.2.2.2.2 pc = (4, a, 1, c)) (hv : L[a]? = some (some (.int x))) (ha : a < 4) (k : kx_Rn E T d (pc + 1, L, .int x :: st, M) r M') : kx_Rn E T d (pc, L, st, M) r M' := by
  intro p l e s m args below meth c0 D ac ad H locs ls hC hXX hP hD hS hl
  obtain ⟨hx, hb, hml, hr, hown, hts, hK, hlocks, hT⟩ := id hC
  exact lv_iload_n hx hb (kx_dec hT hI (by simp only [kx_ti]; rw [dif_pos ha])).1 rfl (kx_lget hl hv) (k p l e s m args below meth c0 D ac ad H locs ls hC hXX hP hD hS hl)
theorem kx_r_lload0 {x : Int64} (hI : T.2.2.2.2.2 pc = (5, a, 0, c)) (hv : L[a]? = some (some (.long x))) (k : kx_Rn E T d (pc + 2, L, .long x :: st, M) r M') : kx_Rn E T d (pc, L, st, M) r M' := by
  intro p l e s m args below meth c0 D ac ad H locs ls hC hXX hP hD hS hl
  obtain ⟨hx, hb, hml, hr, hown, hts, hK, hlocks, hT⟩ := id hC
  exact lv_lload hx hb (kx_dec hT hI rfl).1 (kx_lget hl hv) (k p l e s m args below meth c0 D ac ad H locs ls hC hXX hP hD hS hl)
theorem kx_r_lload1 {x : Int64} (hI : T.2.2.2.2.2 pc = (5, a, 1, c)) (hv : L[a]? = some (some (.long x))) (ha : a < 4) (k : kx_Rn E T d (pc + 1, L, .long x :: st, M) r M') : kx_Rn E T d (pc, L, st, M) r M' := by
  intro p l e s m args below meth c0 D ac ad H locs ls hC hXX hP hD hS hl
  obtain ⟨hx, hb, hml, hr, hown, hts, hK, hlocks, hT⟩ := id hC
  exact lv_lload_n hx hb (kx_dec hT hI (by simp only [kx_ti]; rw [dif_pos ha])).1 rfl (kx_lget hl hv) (k p l e s m args below meth c0 D ac ad H locs ls hC hXX hP hD hS hl)
theorem kx_r_aload0 {x : Nat} (hI : T.2.2.2.2.2 pc = (6, a, 0, c)) (hv : L[a]? = some (some (.ref x))) (k : kx_Rn E T d (pc + 2, L, .ref x :: st, M) r M') : kx_Rn E T d (pc, L, st, M) r M' := by
  intro p l e s m args below meth c0 D ac ad H locs ls hC hXX hP hD hS hl
  obtain ⟨hx, hb, hml, hr, hown, hts, hK, hlocks, hT⟩ := id hC
  exact lv_aload hx hb (kx_dec hT hI rfl).1 (kx_lget hl hv) (k p l e s m args below meth c0 D ac ad H locs ls hC hXX hP hD hS hl)
theorem kx_r_aload1 {x : Nat} (hI : T.2.2.2.2.2 pc = (6, a, 1, c)) (hv : L[a]? = some (some (.ref x))) (ha : a < 4) (k : kx_Rn E T d (pc + 1, L, .ref x :: st, M) r M') : kx_Rn E T d (pc, L, st, M) r M' := by
  intro p l e s m args below meth c0 D ac ad H locs ls hC hXX hP hD hS hl
  obtain ⟨hx, hb, hml, hr, hown, hts, hK, hlocks, hT⟩ := id hC
  exact lv_aload_n hx hb (kx_dec hT hI (by simp only [kx_ti]; rw [dif_pos ha])).1 rfl (kx_lget hl hv) (k p l e s m args below meth c0 D ac ad H locs ls hC hXX hP hD hS hl)
def kx_kk : Option Value → Option Value
  | some w => bif Nat.beq w.category 2 then none else some w
  | none => none
/-- a value is put at place i: a long ahead of it, whose second half it overwrites, is gone -/
def kx_st1 (i : Nat) (v : Value) : Nat → List (Option Value) → List (Option Value)
  | _, [] => []
  | j, x :: r => (bif Nat.beq j i then some v else bif Nat.beq (j + 1) i then kx_kk x else x) :: kx_st1 i v (j + 1) r
def kx_st2 (i : Nat) (v : Value) : Nat → List (Option Value) → List (Option Value)
  | _, [] => []
  | j, x :: r => (bif Nat.beq j i then some v else bif Nat.beq j (i + 1) then none else bif Nat.beq (j + 1) i then kx_kk x else x) :: kx_st2 i v (j + 1) r
theorem kx_st1_len (i : Nat) (v : Value) : ∀ (L : List (Option Value)) (j : Nat), (kx_st1 i v j L).length = L.length
  | [], _ => rfl
  | x :: r, j => by simp [kx_st1, kx_st1_len i v r]
theorem kx_st2_len (i : Nat) (v : Value) : ∀ (L : List (Option Value)) (j : Nat), (kx_st2 i v j L).length = L.length
  | [], _ => rfl
  | x :: r, j => by simp [kx_st2, kx_st2_len i v r]
theorem kx_kk_some {x : Option Value} {w : Value} (h : kx_kk x = some w) : x = some w ∧ ¬ w.category = 2 := by
  cases x with
  | none => cases h
  | some y =>
    unfold kx_kk at h
    dsimp only at h
    cases hb : Nat.beq y.category 2 with
    | true => rw [hb] at h; cases h
    | false =>
      rw [hb] at h
      cases h
      exact ⟨rfl, fun q => by rw [q] at hb; cases hb⟩
theorem kx_beq_t {a b : Nat} (h : Nat.beq a b = true) : a = b := Nat.eq_of_beq_eq_true h
theorem kx_beq_f {a b : Nat} (h : Nat.beq a b = false) : ¬ a = b := Nat.ne_of_beq_eq_false h
theorem kx_st1_get (i : Nat) (v : Value) : ∀ (L : List (Option Value)) (j k : Nat) (w : Value), (kx_st1 i v j L)[k]? = some (some w) → (j + k = i ∧ w = v) ∨ (¬ j + k = i ∧ L[k]? = some (some w) ∧ ¬ (j + k + 1 = i ∧ w.category = 2))
  | [], j, k, w, h => by simp [kx_st1] at h
  | x :: r, j, 0, w, h => by
    simp only [kx_st1, List.getElem?_cons_zero, Option.some.injEq] at h
    cases hb : Nat.beq j i with
    | true =>
      rw [hb] at h
      cases h
      exact Or.inl ⟨by have := kx_beq_t hb; omega, rfl⟩
    | false =>
      rw [hb] at h
      have h1 := kx_beq_f hb
      cases hc : Nat.beq (j + 1) i with
      | true =>
        rw [hc] at h
        obtain ⟨h2, h3⟩ := kx_kk_some h
        exact Or.inr ⟨by omega, by rw [h2]; rfl, fun q => h3 q.2⟩
      | false =>
        rw [hc] at h
        have h2 := kx_beq_f hc
        exact Or.inr ⟨by omega, by rw [show x = some w from h]; rfl, fun q => h2 (by omega)⟩
  | x :: r, j, k + 1, w, h => by
    simp only [kx_st1, List.getElem?_cons_succ] at h
    rcases kx_st1_get i v r (j + 1) k w h with ⟨h1, h2⟩ | ⟨h1, h2, h3⟩
    · exact Or.inl ⟨by omega, h2⟩
    · exact Or.inr ⟨by omega, by simpa using h2, fun q => h3 ⟨by omega, q.2⟩⟩
theorem kx_st2_get (i : Nat) (v : Value) : ∀ (L : List (Option Value)) (j k : Nat) (w : Value), (kx_st2 i v j L)[k]? = some (some w) → (j + k = i ∧ w = v) ∨ (¬ j + k = i ∧ ¬ j + k = i + 1 ∧ L[k]? = some (some w) ∧ ¬ (j + k + 1 = i ∧ w.category = 2))
  | [], j, k, w, h => by simp [kx_st2] at h
  | x :: r, j, 0, w, h => by
    simp only [kx_st2, List.getElem?_cons_zero, Option.some.injEq] at h
    cases hb : Nat.beq j i with
    | true =>
      rw [hb] at h
      cases h
      exact Or.inl ⟨by have := kx_beq_t hb; omega, rfl⟩
    | false =>
      rw [hb] at h
      have h1 := kx_beq_f hb
      cases hd : Nat.beq j (i + 1) with
      | true =>
        rw [hd] at h
        cases h
      | false =>
      rw [hd] at h
      have h4 := kx_beq_f hd
      cases hc : Nat.beq (j + 1) i with
      | true =>
        rw [hc] at h
        obtain ⟨h2, h3⟩ := kx_kk_some h
        exact Or.inr ⟨by omega, by omega, by rw [h2]; rfl, fun q => h3 q.2⟩
      | false =>
        rw [hc] at h
        have h2 := kx_beq_f hc
        exact Or.inr ⟨by omega, by omega, by rw [show x = some w from h]; rfl, fun q => h2 (by omega)⟩
  | x :: r, j, k + 1, w, h => by
    simp only [kx_st2, List.getElem?_cons_succ] at h
    rcases kx_st2_get i v r (j + 1) k w h with ⟨h1, h2⟩ | ⟨h1, h4, h2, h3⟩
    · exact Or.inl ⟨by omega, h2⟩
    · exact Or.inr ⟨by omega, by omega, by simpa using h2, fun q => h3 ⟨by omega, q.2⟩⟩
theorem kx_lr_st1 {ad : Nat → Nat} {ls' : Array Slot} {n i : Nat} {v : Value} {l : List (Nat × Value)} (hn : L.length = n) (h2 : ∀ (i : Nat) (v : Value), L[i]? = some (some v) → (i, kx_cv ad v) ∈ l) (h : lv_has ls' n ((i, kx_cv ad v) :: l.filter (fun q => !(q.1 == i) && !(q.1 + 1 == i && q.2.category == 2)))) : kx_lr ad ls' n (kx_st1 i v 0 L) := by
  refine ⟨by rw [kx_st1_len]; exact hn, _, h, fun k w hk => ?_⟩
  rcases kx_st1_get i v L 0 k w hk with ⟨h3, h4⟩ | ⟨h3, h4, h5⟩
  · rw [show k = i by omega, h4]
    exact List.mem_cons_self
  · refine List.mem_cons_of_mem _ (List.mem_filter.mpr ⟨h2 k w h4, ?_⟩)
    simp only [kx_cv_cat, Bool.and_eq_true, Bool.not_eq_true', beq_eq_false_iff_ne, ne_eq, Bool.and_eq_false_iff]
    refine ⟨by omega, ?_⟩
    by_cases q : k + 1 = i
    · exact Or.inr (fun z => h5 ⟨by omega, z⟩)
    · exact Or.inl q
theorem kx_lr_st2 {ad : Nat → Nat} {ls' : Array Slot} {n i : Nat} {v : Value} {l : List (Nat × Value)} (hn : L.length = n) (h2 : ∀ (i : Nat) (v : Value), L[i]? = some (some v) → (i, kx_cv ad v) ∈ l) (h : lv_has ls' n ((i, kx_cv ad v) :: l.filter (fun q => !(q.1 == i) && (!(q.1 == i + 1) && !(q.1 + 1 == i && q.2.category == 2))))) : kx_lr ad ls' n (kx_st2 i v 0 L) := by
  refine ⟨by rw [kx_st2_len]; exact hn, _, h, fun k w hk => ?_⟩
  rcases kx_st2_get i v L 0 k w hk with ⟨h3, h4⟩ | ⟨h3, h6, h4, h5⟩
  · rw [show k = i by omega, h4]
    exact List.mem_cons_self
  · refine List.mem_cons_of_mem _ (List.mem_filter.mpr ⟨h2 k w h4, ?_⟩)
    simp only [kx_cv_cat, Bool.and_eq_true, Bool.not_eq_true', beq_eq_false_iff_ne, ne_eq, Bool.and_eq_false_iff]
    refine ⟨by omega, by omega, ?_⟩
    by_cases q : k + 1 = i
    · exact Or.inr (fun z => h5 ⟨by omega, z⟩)
    · exact Or.inl q
theorem kx_r_istore0 {x : Int32} (hI : T.2.2.2.2.2 pc = (7, a, 0, c)) (hn : a < L.length) (k : kx_Rn E T d (pc + 2, kx_st1 a (.int x) 0 L, st, M) r M') : kx_Rn E T d (pc, L, .int x :: st, M) r M' := by
  intro p l e s m args below meth c0 D ac ad H locs ls hC hXX hP hD hS hl
  obtain ⟨hx, hb, hml, hr, hown, hts, hK, hlocks, hT⟩ := id hC
  obtain ⟨h1, l0, h2, h3⟩ := hl
  rw [h1] at hn
  exact lv_istore hx hb (kx_dec hT hI rfl).1 h2 hn rfl (fun ls hl => k p l e s m args below meth c0 D ac ad H locs ls hC hXX hP hD hS (kx_lr_st1 (v := .int x) h1 h3 hl))
theorem kx_r_istore1 {x : Int32} (hI : T.2.2.2.2.2 pc = (7, a, 1, c)) (hn : a < L.length) (ha : a < 4) (k : kx_Rn E T d (pc + 1, kx_st1 a (.int x) 0 L, st, M) r M') : kx_Rn E T d (pc, L, .int x :: st, M) r M' := by
  intro p l e s m args below meth c0 D ac ad H locs ls hC hXX hP hD hS hl
  obtain ⟨hx, hb, hml, hr, hown, hts, hK, hlocks, hT⟩ := id hC
  obtain ⟨h1, l0, h2, h3⟩ := hl
  rw [h1] at hn
  exact lv_istore_n hx hb (kx_dec hT hI (by simp only [kx_ti]; rw [dif_pos ha])).1 rfl h2 hn rfl (fun ls hl => k p l e s m args below meth c0 D ac ad H locs ls hC hXX hP hD hS (kx_lr_st1 (v := .int x) h1 h3 hl))
theorem kx_r_lstore0 {x : Int64} (hI : T.2.2.2.2.2 pc = (8, a, 0, c)) (hn : a + 1 < L.length) (k : kx_Rn E T d (pc + 2, kx_st2 a (.long x) 0 L, st, M) r M') : kx_Rn E T d (pc, L, .long x :: st, M) r M' := by
  intro p l e s m args below meth c0 D ac ad H locs ls hC hXX hP hD hS hl
  obtain ⟨hx, hb, hml, hr, hown, hts, hK, hlocks, hT⟩ := id hC
  obtain ⟨h1, l0, h2, h3⟩ := hl
  rw [h1] at hn
  exact lv_lstore hx hb (kx_dec hT hI rfl).1 h2 hn rfl (fun ls hl => k p l e s m args below meth c0 D ac ad H locs ls hC hXX hP hD hS (kx_lr_st2 (v := .long x) h1 h3 hl))
theorem kx_r_lstore1 {x : Int64} (hI : T.2.2.2.2.2 pc = (8, a, 1, c)) (hn : a + 1 < L.length) (ha : a < 4) (k : kx_Rn E T d (pc + 1, kx_st2 a (.long x) 0 L, st, M) r M') : kx_Rn E T d (pc, L, .long x :: st, M) r M' := by
  intro p l e s m args below meth c0 D ac ad H locs ls hC hXX hP hD hS hl
  obtain ⟨hx, hb, hml, hr, hown, hts, hK, hlocks, hT⟩ := id hC
  obtain ⟨h1, l0, h2, h3⟩ := hl
  rw [h1] at hn
  exact lv_lstore_n hx hb (kx_dec hT hI (by simp only [kx_ti]; rw [dif_pos ha])).1 rfl h2 hn rfl (fun ls hl => k p l e s m args below meth c0 D ac ad H locs ls hC hXX hP hD hS (kx_lr_st2 (v := .long x) h1 h3 hl))
theorem kx_r_astore0 {x : Nat} (hI : T.2.2.2.2.2 pc = (9, a, 0, c)) (hn : a < L.length) (k : kx_Rn E T d (pc + 2, kx_st1 a (.ref x) 0 L, st, M) r M') : kx_Rn E T d (pc, L, .ref x :: st, M) r M' := by
  intro p l e s m args below meth c0 D ac ad H locs ls hC hXX hP hD hS hl
  obtain ⟨hx, hb, hml, hr, hown, hts, hK, hlocks, hT⟩ := id hC
  obtain ⟨h1, l0, h2, h3⟩ := hl
  rw [h1] at hn
  exact lv_astore hx hb (kx_dec hT hI rfl).1 h2 hn rfl (fun ls hl => k p l e s m args below meth c0 D ac ad H locs ls hC hXX hP hD hS (kx_lr_st1 (v := .ref x) h1 h3 hl))
theorem kx_r_astore1 {x : Nat} (hI : T.2.2.2.2.2 pc = (9, a, 1, c)) (hn : a < L.length) (ha : a < 4) (k : kx_Rn E T d (pc + 1, kx_st1 a (.ref x) 0 L, st, M) r M') : kx_Rn E T d (pc, L, .ref x :: st, M) r M' := by
  intro p l e s m args below meth c0 D ac ad H locs ls hC hXX hP hD hS hl
  obtain ⟨hx, hb, hml, hr, hown, hts, hK, hlocks, hT⟩ := id hC
  obtain ⟨h1, l0, h2, h3⟩ := hl
  rw [h1] at hn
  exact lv_astore_n hx hb (kx_dec hT hI (by simp only [kx_ti]; rw [dif_pos ha])).1 rfl h2 hn rfl (fun ls hl => k p l e s m args below meth c0 D ac ad H locs ls hC hXX hP hD hS (kx_lr_st1 (v := .ref x) h1 h3 hl))
theorem kx_r_iinc {x : Int32} (hI : T.2.2.2.2.2 pc = (10, a, b, c)) (hn : a < L.length) (hv : L[a]? = some (some (.int x))) (k : kx_Rn E T d (pc + 3, kx_st1 a (.int (x + c)) 0 L, st, M) r M') : kx_Rn E T d (pc, L, st, M) r M' := by
  intro p l e s m args below meth c0 D ac ad H locs ls hC hXX hP hD hS hl
  obtain ⟨hx, hb, hml, hr, hown, hts, hK, hlocks, hT⟩ := id hC
  obtain ⟨h1, l0, h2, h3⟩ := hl
  rw [h1] at hn
  obtain ⟨j, hj⟩ := List.getElem?_of_mem (h3 _ _ hv)
  exact lv_iinc (v := x + c) hx hb (kx_dec hT hI rfl).1 h2 hj (by rw [of_decide_eq_true (kx_dec hT hI rfl).2]) hn rfl (fun ls hl => k p l e s m args below meth c0 D ac ad H locs ls hC hXX hP hD hS (kx_lr_st1 (v := .int (x + c)) h1 h3 hl))
theorem kx_r_if_eq {x : Int32} (hI : T.2.2.2.2.2 pc = (60, 0, b, c)) (kt : x = 0 → kx_Rn E T d (b, L, st, M) r M') (kf : ¬ (x = 0) → kx_Rn E T d (pc + 3, L, st, M) r M') : kx_Rn E T d (pc, L, .int x :: st, M) r M' := by
  intro p l e s m args below meth c0 D ac ad H locs ls hC hXX hP hD hS hl
  obtain ⟨hx, hb, hml, hr, hown, hts, hK, hlocks, hT⟩ := id hC
  exact lv_if_eq hx hb (kx_dec hT hI rfl).1 (by omega) (fun h => kt h p l e s m args below meth c0 D ac ad H locs ls hC hXX hP hD hS hl) (fun h => kf h p l e s m args below meth c0 D ac ad H locs ls hC hXX hP hD hS hl)
theorem kx_r_icmp_eq {x y : Int32} (hI : T.2.2.2.2.2 pc = (61, 0, b, c)) (kt : x = y → kx_Rn E T d (b, L, st, M) r M') (kf : ¬ (x = y) → kx_Rn E T d (pc + 3, L, st, M) r M') : kx_Rn E T d (pc, L, .int y :: .int x :: st, M) r M' := by
  intro p l e s m args below meth c0 D ac ad H locs ls hC hXX hP hD hS hl
  obtain ⟨hx, hb, hml, hr, hown, hts, hK, hlocks, hT⟩ := id hC
  exact lv_icmp_eq hx hb (kx_dec hT hI rfl).1 (by omega) (fun h => kt h p l e s m args below meth c0 D ac ad H locs ls hC hXX hP hD hS hl) (fun h => kf h p l e s m args below meth c0 D ac ad H locs ls hC hXX hP hD hS hl)
theorem kx_r_if_ne {x : Int32} (hI : T.2.2.2.2.2 pc = (60, 1, b, c)) (kt : ¬ x = 0 → kx_Rn E T d (b, L, st, M) r M') (kf : x = 0 → kx_Rn E T d (pc + 3, L, st, M) r M') : kx_Rn E T d (pc, L, .int x :: st, M) r M' := by
  intro p l e s m args below meth c0 D ac ad H locs ls hC hXX hP hD hS hl
  obtain ⟨hx, hb, hml, hr, hown, hts, hK, hlocks, hT⟩ := id hC
  exact lv_if_ne hx hb (kx_dec hT hI rfl).1 (by omega) (fun h => kt h p l e s m args below meth c0 D ac ad H locs ls hC hXX hP hD hS hl) (fun h => kf h p l e s m args below meth c0 D ac ad H locs ls hC hXX hP hD hS hl)
theorem kx_r_icmp_ne {x y : Int32} (hI : T.2.2.2.2.2 pc = (61, 1, b, c)) (kt : ¬ x = y → kx_Rn E T d (b, L, st, M) r M') (kf : x = y → kx_Rn E T d (pc + 3, L, st, M) r M') : kx_Rn E T d (pc, L, .int y :: .int x :: st, M) r M' := by
  intro p l e s m args below meth c0 D ac ad H locs ls hC hXX hP hD hS hl
  obtain ⟨hx, hb, hml, hr, hown, hts, hK, hlocks, hT⟩ := id hC
  exact lv_icmp_ne hx hb (kx_dec hT hI rfl).1 (by omega) (fun h => kt h p l e s m args below meth c0 D ac ad H locs ls hC hXX hP hD hS hl) (fun h => kf h p l e s m args below meth c0 D ac ad H locs ls hC hXX hP hD hS hl)
theorem kx_r_if_lt {x : Int32} (hI : T.2.2.2.2.2 pc = (60, 2, b, c)) (kt : x < 0 → kx_Rn E T d (b, L, st, M) r M') (kf : ¬ (x < 0) → kx_Rn E T d (pc + 3, L, st, M) r M') : kx_Rn E T d (pc, L, .int x :: st, M) r M' := by
  intro p l e s m args below meth c0 D ac ad H locs ls hC hXX hP hD hS hl
  obtain ⟨hx, hb, hml, hr, hown, hts, hK, hlocks, hT⟩ := id hC
  exact lv_if_lt hx hb (kx_dec hT hI rfl).1 (by omega) (fun h => kt h p l e s m args below meth c0 D ac ad H locs ls hC hXX hP hD hS hl) (fun h => kf h p l e s m args below meth c0 D ac ad H locs ls hC hXX hP hD hS hl)
theorem kx_r_icmp_lt {x y : Int32} (hI : T.2.2.2.2.2 pc = (61, 2, b, c)) (kt : x < y → kx_Rn E T d (b, L, st, M) r M') (kf : ¬ (x < y) → kx_Rn E T d (pc + 3, L, st, M) r M') : kx_Rn E T d (pc, L, .int y :: .int x :: st, M) r M' := by
  intro p l e s m args below meth c0 D ac ad H locs ls hC hXX hP hD hS hl
  obtain ⟨hx, hb, hml, hr, hown, hts, hK, hlocks, hT⟩ := id hC
  exact lv_icmp_lt hx hb (kx_dec hT hI rfl).1 (by omega) (fun h => kt h p l e s m args below meth c0 D ac ad H locs ls hC hXX hP hD hS hl) (fun h => kf h p l e s m args below meth c0 D ac ad H locs ls hC hXX hP hD hS hl)
theorem kx_r_if_ge {x : Int32} (hI : T.2.2.2.2.2 pc = (60, 3, b, c)) (kt : 0 ≤ x → kx_Rn E T d (b, L, st, M) r M') (kf : ¬ (0 ≤ x) → kx_Rn E T d (pc + 3, L, st, M) r M') : kx_Rn E T d (pc, L, .int x :: st, M) r M' := by
  intro p l e s m args below meth c0 D ac ad H locs ls hC hXX hP hD hS hl
  obtain ⟨hx, hb, hml, hr, hown, hts, hK, hlocks, hT⟩ := id hC
  exact lv_if_ge hx hb (kx_dec hT hI rfl).1 (by omega) (fun h => kt h p l e s m args below meth c0 D ac ad H locs ls hC hXX hP hD hS hl) (fun h => kf h p l e s m args below meth c0 D ac ad H locs ls hC hXX hP hD hS hl)
theorem kx_r_icmp_ge {x y : Int32} (hI : T.2.2.2.2.2 pc = (61, 3, b, c)) (kt : y ≤ x → kx_Rn E T d (b, L, st, M) r M') (kf : ¬ (y ≤ x) → kx_Rn E T d (pc + 3, L, st, M) r M') : kx_Rn E T d (pc, L, .int y :: .int x :: st, M) r M' := by
  intro p l e s m args below meth c0 D ac ad H locs ls hC hXX hP hD hS hl
  obtain ⟨hx, hb, hml, hr, hown, hts, hK, hlocks, hT⟩ := id hC
  exact lv_icmp_ge hx hb (kx_dec hT hI rfl).1 (by omega) (fun h => kt h p l e s m args below meth c0 D ac ad H locs ls hC hXX hP hD hS hl) (fun h => kf h p l e s m args below meth c0 D ac ad H locs ls hC hXX hP hD hS hl)
theorem kx_r_if_gt {x : Int32} (hI : T.2.2.2.2.2 pc = (60, 4, b, c)) (kt : 0 < x → kx_Rn E T d (b, L, st, M) r M') (kf : ¬ (0 < x) → kx_Rn E T d (pc + 3, L, st, M) r M') : kx_Rn E T d (pc, L, .int x :: st, M) r M' := by
  intro p l e s m args below meth c0 D ac ad H locs ls hC hXX hP hD hS hl
  obtain ⟨hx, hb, hml, hr, hown, hts, hK, hlocks, hT⟩ := id hC
  exact lv_if_gt hx hb (kx_dec hT hI rfl).1 (by omega) (fun h => kt h p l e s m args below meth c0 D ac ad H locs ls hC hXX hP hD hS hl) (fun h => kf h p l e s m args below meth c0 D ac ad H locs ls hC hXX hP hD hS hl)
theorem kx_r_icmp_gt {x y : Int32} (hI : T.2.2.2.2.2 pc = (61, 4, b, c)) (kt : y < x → kx_Rn E T d (b, L, st, M) r M') (kf : ¬ (y < x) → kx_Rn E T d (pc + 3, L, st, M) r M') : kx_Rn E T d (pc, L, .int y :: .int x :: st, M) r M' := by
  intro p l e s m args below meth c0 D ac ad H locs ls hC hXX hP hD hS hl
  obtain ⟨hx, hb, hml, hr, hown, hts, hK, hlocks, hT⟩ := id hC
  exact lv_icmp_gt hx hb (kx_dec hT hI rfl).1 (by omega) (fun h => kt h p l e s m args below meth c0 D ac ad H locs ls hC hXX hP hD hS hl) (fun h => kf h p l e s m args below meth c0 D ac ad H locs ls hC hXX hP hD hS hl)
theorem kx_r_if_le {x : Int32} (hI : T.2.2.2.2.2 pc = (60, 5, b, c)) (kt : x ≤ 0 → kx_Rn E T d (b, L, st, M) r M') (kf : ¬ (x ≤ 0) → kx_Rn E T d (pc + 3, L, st, M) r M') : kx_Rn E T d (pc, L, .int x :: st, M) r M' := by
  intro p l e s m args below meth c0 D ac ad H locs ls hC hXX hP hD hS hl
  obtain ⟨hx, hb, hml, hr, hown, hts, hK, hlocks, hT⟩ := id hC
  exact lv_if_le hx hb (kx_dec hT hI rfl).1 (by omega) (fun h => kt h p l e s m args below meth c0 D ac ad H locs ls hC hXX hP hD hS hl) (fun h => kf h p l e s m args below meth c0 D ac ad H locs ls hC hXX hP hD hS hl)
theorem kx_r_icmp_le {x y : Int32} (hI : T.2.2.2.2.2 pc = (61, 5, b, c)) (kt : x ≤ y → kx_Rn E T d (b, L, st, M) r M') (kf : ¬ (x ≤ y) → kx_Rn E T d (pc + 3, L, st, M) r M') : kx_Rn E T d (pc, L, .int y :: .int x :: st, M) r M' := by
  intro p l e s m args below meth c0 D ac ad H locs ls hC hXX hP hD hS hl
  obtain ⟨hx, hb, hml, hr, hown, hts, hK, hlocks, hT⟩ := id hC
  exact lv_icmp_le hx hb (kx_dec hT hI rfl).1 (by omega) (fun h => kt h p l e s m args below meth c0 D ac ad H locs ls hC hXX hP hD hS hl) (fun h => kf h p l e s m args below meth c0 D ac ad H locs ls hC hXX hP hD hS hl)
theorem kx_r_goto (hI : T.2.2.2.2.2 pc = (62, a, b, c)) (k : kx_Rn E T d (b, L, st, M) r M') : kx_Rn E T d (pc, L, st, M) r M' := by
  intro p l e s m args below meth c0 D ac ad H locs ls hC hXX hP hD hS hl
  obtain ⟨hx, hb, hml, hr, hown, hts, hK, hlocks, hT⟩ := id hC
  exact lv_goto hx hb (kx_dec hT hI rfl).1 (by omega) (k p l e s m args below meth c0 D ac ad H locs ls hC hXX hP hD hS hl)
end KXR
