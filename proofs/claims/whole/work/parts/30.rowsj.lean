/-! the same rows over one world: for the law, and for the constructors -/
def kx_J (p : Program) (l : Launch) (e : Env) (R : Room) (s : State) (m : MethodId) (args : Array Value) (below : List Frame) (meth : Method) (c : Code) (H : Heap) (locs : List Loc) (cells slots : Nat) (Q : State → Prop) (ad : Nat → Nat) (n : Nat) (a : Nat × List (Option Value) × List Value) : Prop :=
  ∀ ls : Array Slot, kx_lr ad ls n a.2.1 → W p l e R s m args below meth c H locs cells slots Q (F0 m a.1 ls (a.2.2.map (kx_cv ad)))
section KJ
variable {p : Program} {l : Launch} {e : Env} {R : Room} {s : State} {m : MethodId} {args : Array Value} {below : List Frame} {meth : Method} {c0 : Code} {H : Heap} {locs : List Loc} {cells slots : Nat} {Q : State → Prop} {ad : Nat → Nat}
variable {T : kx_T} {pc a b : Nat} {c : Int32} {L : List (Option Value)} {st : List Value}
theorem kj_iadd (hx : p.tables.exec = Jvm.exec) (hb : c0.code = T.2.1) (hT : kx_MOk T) {x y : Int32} (hI : T.2.2.2.2.2 pc = (20, a, b, c))  (k : kx_J p l e R s m args below meth c0 H locs cells slots Q ad T.2.2.1 (pc + 1, L, .int (x + y) :: st)) : kx_J p l e R s m args below meth c0 H locs cells slots Q ad T.2.2.1 (pc, L, .int y :: .int x :: st) := by
  intro ls hl
  exact lv_iadd hx hb (kx_dec hT hI rfl).1 (k ls hl)
theorem kj_isub (hx : p.tables.exec = Jvm.exec) (hb : c0.code = T.2.1) (hT : kx_MOk T) {x y : Int32} (hI : T.2.2.2.2.2 pc = (21, a, b, c))  (k : kx_J p l e R s m args below meth c0 H locs cells slots Q ad T.2.2.1 (pc + 1, L, .int (x - y) :: st)) : kx_J p l e R s m args below meth c0 H locs cells slots Q ad T.2.2.1 (pc, L, .int y :: .int x :: st) := by
  intro ls hl
  exact lv_isub hx hb (kx_dec hT hI rfl).1 (k ls hl)
theorem kj_imul (hx : p.tables.exec = Jvm.exec) (hb : c0.code = T.2.1) (hT : kx_MOk T) {x y : Int32} (hI : T.2.2.2.2.2 pc = (22, a, b, c))  (k : kx_J p l e R s m args below meth c0 H locs cells slots Q ad T.2.2.1 (pc + 1, L, .int (x * y) :: st)) : kx_J p l e R s m args below meth c0 H locs cells slots Q ad T.2.2.1 (pc, L, .int y :: .int x :: st) := by
  intro ls hl
  exact lv_imul hx hb (kx_dec hT hI rfl).1 (k ls hl)
theorem kj_iand (hx : p.tables.exec = Jvm.exec) (hb : c0.code = T.2.1) (hT : kx_MOk T) {x y : Int32} (hI : T.2.2.2.2.2 pc = (24, a, b, c))  (k : kx_J p l e R s m args below meth c0 H locs cells slots Q ad T.2.2.1 (pc + 1, L, .int (x &&& y) :: st)) : kx_J p l e R s m args below meth c0 H locs cells slots Q ad T.2.2.1 (pc, L, .int y :: .int x :: st) := by
  intro ls hl
  exact lv_iand hx hb (kx_dec hT hI rfl).1 (k ls hl)
theorem kj_ior (hx : p.tables.exec = Jvm.exec) (hb : c0.code = T.2.1) (hT : kx_MOk T) {x y : Int32} (hI : T.2.2.2.2.2 pc = (25, a, b, c))  (k : kx_J p l e R s m args below meth c0 H locs cells slots Q ad T.2.2.1 (pc + 1, L, .int (x ||| y) :: st)) : kx_J p l e R s m args below meth c0 H locs cells slots Q ad T.2.2.1 (pc, L, .int y :: .int x :: st) := by
  intro ls hl
  exact lv_ior hx hb (kx_dec hT hI rfl).1 (k ls hl)
theorem kj_ixor (hx : p.tables.exec = Jvm.exec) (hb : c0.code = T.2.1) (hT : kx_MOk T) {x y : Int32} (hI : T.2.2.2.2.2 pc = (26, a, b, c))  (k : kx_J p l e R s m args below meth c0 H locs cells slots Q ad T.2.2.1 (pc + 1, L, .int (x ^^^ y) :: st)) : kx_J p l e R s m args below meth c0 H locs cells slots Q ad T.2.2.1 (pc, L, .int y :: .int x :: st) := by
  intro ls hl
  exact lv_ixor hx hb (kx_dec hT hI rfl).1 (k ls hl)
theorem kj_ishl (hx : p.tables.exec = Jvm.exec) (hb : c0.code = T.2.1) (hT : kx_MOk T) {x y : Int32} (hI : T.2.2.2.2.2 pc = (27, a, b, c))  (k : kx_J p l e R s m args below meth c0 H locs cells slots Q ad T.2.2.1 (pc + 1, L, .int (x <<< (y &&& 31)) :: st)) : kx_J p l e R s m args below meth c0 H locs cells slots Q ad T.2.2.1 (pc, L, .int y :: .int x :: st) := by
  intro ls hl
  exact lv_ishl hx hb (kx_dec hT hI rfl).1 (k ls hl)
theorem kj_ishr (hx : p.tables.exec = Jvm.exec) (hb : c0.code = T.2.1) (hT : kx_MOk T) {x y : Int32} (hI : T.2.2.2.2.2 pc = (28, a, b, c))  (k : kx_J p l e R s m args below meth c0 H locs cells slots Q ad T.2.2.1 (pc + 1, L, .int (x >>> (y &&& 31)) :: st)) : kx_J p l e R s m args below meth c0 H locs cells slots Q ad T.2.2.1 (pc, L, .int y :: .int x :: st) := by
  intro ls hl
  exact lv_ishr hx hb (kx_dec hT hI rfl).1 (k ls hl)
theorem kj_iushr (hx : p.tables.exec = Jvm.exec) (hb : c0.code = T.2.1) (hT : kx_MOk T) {x y : Int32} (hI : T.2.2.2.2.2 pc = (29, a, b, c))  (k : kx_J p l e R s m args below meth c0 H locs cells slots Q ad T.2.2.1 (pc + 1, L, .int ((x.toUInt32 >>> (y.toUInt32 &&& Int32.toUInt32 31)).toInt32) :: st)) : kx_J p l e R s m args below meth c0 H locs cells slots Q ad T.2.2.1 (pc, L, .int y :: .int x :: st) := by
  intro ls hl
  exact lv_iushr hx hb (kx_dec hT hI rfl).1 rfl (k ls hl)
theorem kj_ineg (hx : p.tables.exec = Jvm.exec) (hb : c0.code = T.2.1) (hT : kx_MOk T) {x : Int32} (hI : T.2.2.2.2.2 pc = (23, a, b, c))  (k : kx_J p l e R s m args below meth c0 H locs cells slots Q ad T.2.2.1 (pc + 1, L, .int (-x) :: st)) : kx_J p l e R s m args below meth c0 H locs cells slots Q ad T.2.2.1 (pc, L, .int x :: st) := by
  intro ls hl
  exact lv_ineg hx hb (kx_dec hT hI rfl).1 (k ls hl)
theorem kj_i2l (hx : p.tables.exec = Jvm.exec) (hb : c0.code = T.2.1) (hT : kx_MOk T) {x : Int32} (hI : T.2.2.2.2.2 pc = (30, a, b, c))  (k : kx_J p l e R s m args below meth c0 H locs cells slots Q ad T.2.2.1 (pc + 1, L, .long x.toInt64 :: st)) : kx_J p l e R s m args below meth c0 H locs cells slots Q ad T.2.2.1 (pc, L, .int x :: st) := by
  intro ls hl
  exact lv_i2l hx hb (kx_dec hT hI rfl).1 rfl (k ls hl)
theorem kj_l2i (hx : p.tables.exec = Jvm.exec) (hb : c0.code = T.2.1) (hT : kx_MOk T) {x : Int64} (hI : T.2.2.2.2.2 pc = (31, a, b, c))  (k : kx_J p l e R s m args below meth c0 H locs cells slots Q ad T.2.2.1 (pc + 1, L, .int x.toInt32 :: st)) : kx_J p l e R s m args below meth c0 H locs cells slots Q ad T.2.2.1 (pc, L, .long x :: st) := by
  intro ls hl
  exact lv_l2i hx hb (kx_dec hT hI rfl).1 rfl (k ls hl)
theorem kj_i2b (hx : p.tables.exec = Jvm.exec) (hb : c0.code = T.2.1) (hT : kx_MOk T) {x : Int32} (hI : T.2.2.2.2.2 pc = (32, a, b, c))  (k : kx_J p l e R s m args below meth c0 H locs cells slots Q ad T.2.2.1 (pc + 1, L, .int x.toInt8.toInt32 :: st)) : kx_J p l e R s m args below meth c0 H locs cells slots Q ad T.2.2.1 (pc, L, .int x :: st) := by
  intro ls hl
  exact lv_i2b hx hb (kx_dec hT hI rfl).1 rfl (k ls hl)
theorem kj_i2s (hx : p.tables.exec = Jvm.exec) (hb : c0.code = T.2.1) (hT : kx_MOk T) {x : Int32} (hI : T.2.2.2.2.2 pc = (33, a, b, c))  (k : kx_J p l e R s m args below meth c0 H locs cells slots Q ad T.2.2.1 (pc + 1, L, .int x.toInt16.toInt32 :: st)) : kx_J p l e R s m args below meth c0 H locs cells slots Q ad T.2.2.1 (pc, L, .int x :: st) := by
  intro ls hl
  exact lv_i2s hx hb (kx_dec hT hI rfl).1 rfl (k ls hl)
theorem kj_i2c (hx : p.tables.exec = Jvm.exec) (hb : c0.code = T.2.1) (hT : kx_MOk T) {x : Int32} (hI : T.2.2.2.2.2 pc = (34, a, b, c))  (k : kx_J p l e R s m args below meth c0 H locs cells slots Q ad T.2.2.1 (pc + 1, L, .int (x.toUInt32 % 65536).toInt32 :: st)) : kx_J p l e R s m args below meth c0 H locs cells slots Q ad T.2.2.1 (pc, L, .int x :: st) := by
  intro ls hl
  exact lv_i2c hx hb (kx_dec hT hI rfl).1 rfl (k ls hl)
theorem kj_ladd (hx : p.tables.exec = Jvm.exec) (hb : c0.code = T.2.1) (hT : kx_MOk T) {x y : Int64} (hI : T.2.2.2.2.2 pc = (35, a, b, c))  (k : kx_J p l e R s m args below meth c0 H locs cells slots Q ad T.2.2.1 (pc + 1, L, .long (x + y) :: st)) : kx_J p l e R s m args below meth c0 H locs cells slots Q ad T.2.2.1 (pc, L, .long y :: .long x :: st) := by
  intro ls hl
  exact lv_ladd hx hb (kx_dec hT hI rfl).1 (k ls hl)
theorem kj_land (hx : p.tables.exec = Jvm.exec) (hb : c0.code = T.2.1) (hT : kx_MOk T) {x y : Int64} (hI : T.2.2.2.2.2 pc = (36, a, b, c))  (k : kx_J p l e R s m args below meth c0 H locs cells slots Q ad T.2.2.1 (pc + 1, L, .long (x &&& y) :: st)) : kx_J p l e R s m args below meth c0 H locs cells slots Q ad T.2.2.1 (pc, L, .long y :: .long x :: st) := by
  intro ls hl
  exact lv_land hx hb (kx_dec hT hI rfl).1 (k ls hl)
theorem kj_lor (hx : p.tables.exec = Jvm.exec) (hb : c0.code = T.2.1) (hT : kx_MOk T) {x y : Int64} (hI : T.2.2.2.2.2 pc = (37, a, b, c))  (k : kx_J p l e R s m args below meth c0 H locs cells slots Q ad T.2.2.1 (pc + 1, L, .long (x ||| y) :: st)) : kx_J p l e R s m args below meth c0 H locs cells slots Q ad T.2.2.1 (pc, L, .long y :: .long x :: st) := by
  intro ls hl
  exact lv_lor hx hb (kx_dec hT hI rfl).1 (k ls hl)
theorem kj_lshl (hx : p.tables.exec = Jvm.exec) (hb : c0.code = T.2.1) (hT : kx_MOk T) {x : Int64} {y : Int32} (hI : T.2.2.2.2.2 pc = (38, a, b, c))  (k : kx_J p l e R s m args below meth c0 H locs cells slots Q ad T.2.2.1 (pc + 1, L, .long (x <<< (y.toInt64 &&& 63)) :: st)) : kx_J p l e R s m args below meth c0 H locs cells slots Q ad T.2.2.1 (pc, L, .int y :: .long x :: st) := by
  intro ls hl
  exact lv_lshl hx hb (kx_dec hT hI rfl).1 rfl (k ls hl)
theorem kj_lshr (hx : p.tables.exec = Jvm.exec) (hb : c0.code = T.2.1) (hT : kx_MOk T) {x : Int64} {y : Int32} (hI : T.2.2.2.2.2 pc = (39, a, b, c))  (k : kx_J p l e R s m args below meth c0 H locs cells slots Q ad T.2.2.1 (pc + 1, L, .long (x >>> (y.toInt64 &&& 63)) :: st)) : kx_J p l e R s m args below meth c0 H locs cells slots Q ad T.2.2.1 (pc, L, .int y :: .long x :: st) := by
  intro ls hl
  exact lv_lshr hx hb (kx_dec hT hI rfl).1 rfl (k ls hl)
theorem kj_lcmp (hx : p.tables.exec = Jvm.exec) (hb : c0.code = T.2.1) (hT : kx_MOk T) {x y : Int64} (hI : T.2.2.2.2.2 pc = (40, a, b, c))  (k : kx_J p l e R s m args below meth c0 H locs cells slots Q ad T.2.2.1 (pc + 1, L, .int (lg_cmp x y) :: st)) : kx_J p l e R s m args below meth c0 H locs cells slots Q ad T.2.2.1 (pc, L, .long y :: .long x :: st) := by
  intro ls hl
  exact W.lcmp hx hb (kx_dec hT hI rfl).1 (k ls hl)
theorem kj_idiv (hx : p.tables.exec = Jvm.exec) (hb : c0.code = T.2.1) (hT : kx_MOk T) {x y : Int32} (hI : T.2.2.2.2.2 pc = (75, a, b, c)) (hne : ¬ y = 0) (k : kx_J p l e R s m args below meth c0 H locs cells slots Q ad T.2.2.1 (pc + 1, L, .int (x / y) :: st)) : kx_J p l e R s m args below meth c0 H locs cells slots Q ad T.2.2.1 (pc, L, .int y :: .int x :: st) := by
  intro ls hl
  exact lv_idiv hx hb (kx_dec hT hI rfl).1 hne (k ls hl)
theorem kj_irem (hx : p.tables.exec = Jvm.exec) (hb : c0.code = T.2.1) (hT : kx_MOk T) {x y : Int32} (hI : T.2.2.2.2.2 pc = (76, a, b, c)) (hne : ¬ y = 0) (k : kx_J p l e R s m args below meth c0 H locs cells slots Q ad T.2.2.1 (pc + 1, L, .int (x - x / y * y) :: st)) : kx_J p l e R s m args below meth c0 H locs cells slots Q ad T.2.2.1 (pc, L, .int y :: .int x :: st) := by
  intro ls hl
  exact lv_irem hx hb (kx_dec hT hI rfl).1 hne (k ls hl)
theorem kj_dup (hx : p.tables.exec = Jvm.exec) (hb : c0.code = T.2.1) (hT : kx_MOk T) {va : Value} (hI : T.2.2.2.2.2 pc = (11, a, b, c)) (hva : va.category = 1) (k : kx_J p l e R s m args below meth c0 H locs cells slots Q ad T.2.2.1 (pc + 1, L, va :: va :: st)) : kx_J p l e R s m args below meth c0 H locs cells slots Q ad T.2.2.1 (pc, L, va :: st) := by
  intro ls hl
  exact lv_dup hx hb (kx_dec hT hI rfl).1 ((kx_cv_cat ad va).trans hva) (k ls hl)
theorem kj_dup_x1 (hx : p.tables.exec = Jvm.exec) (hb : c0.code = T.2.1) (hT : kx_MOk T) {va vb : Value} (hI : T.2.2.2.2.2 pc = (12, a, b, c)) (hva : va.category = 1) (hvb : vb.category = 1) (k : kx_J p l e R s m args below meth c0 H locs cells slots Q ad T.2.2.1 (pc + 1, L, va :: vb :: va :: st)) : kx_J p l e R s m args below meth c0 H locs cells slots Q ad T.2.2.1 (pc, L, va :: vb :: st) := by
  intro ls hl
  exact lv_dup_x1 hx hb (kx_dec hT hI rfl).1 ((kx_cv_cat ad va).trans hva) ((kx_cv_cat ad vb).trans hvb) (k ls hl)
theorem kj_pop (hx : p.tables.exec = Jvm.exec) (hb : c0.code = T.2.1) (hT : kx_MOk T) {va : Value} (hI : T.2.2.2.2.2 pc = (13, a, b, c)) (hva : va.category = 1) (k : kx_J p l e R s m args below meth c0 H locs cells slots Q ad T.2.2.1 (pc + 1, L, st)) : kx_J p l e R s m args below meth c0 H locs cells slots Q ad T.2.2.1 (pc, L, va :: st) := by
  intro ls hl
  exact lv_pop hx hb (kx_dec hT hI rfl).1 ((kx_cv_cat ad va).trans hva) (k ls hl)
theorem kj_dup2 (hx : p.tables.exec = Jvm.exec) (hb : c0.code = T.2.1) (hT : kx_MOk T) {va vb : Value} (hI : T.2.2.2.2.2 pc = (14, a, b, c)) (hva : va.category = 1) (hvb : vb.category = 1) (k : kx_J p l e R s m args below meth c0 H locs cells slots Q ad T.2.2.1 (pc + 1, L, va :: vb :: va :: vb :: st)) : kx_J p l e R s m args below meth c0 H locs cells slots Q ad T.2.2.1 (pc, L, va :: vb :: st) := by
  intro ls hl
  exact lv_dup2_11 hx hb (kx_dec hT hI rfl).1 ((kx_cv_cat ad va).trans hva) ((kx_cv_cat ad vb).trans hvb) (k ls hl)
theorem kj_push0 (hx : p.tables.exec = Jvm.exec) (hb : c0.code = T.2.1) (hT : kx_MOk T)  (hI : T.2.2.2.2.2 pc = (1, 0, b, c))  (k : kx_J p l e R s m args below meth c0 H locs cells slots Q ad T.2.2.1 (pc + 1, L, .int c :: st)) : kx_J p l e R s m args below meth c0 H locs cells slots Q ad T.2.2.1 (pc, L, st) := by
  intro ls hl
  exact lv_iconst hx hb (kx_dec hT hI rfl).1 (of_decide_eq_true (kx_dec hT hI rfl).2) (k ls hl)
theorem kj_push1 (hx : p.tables.exec = Jvm.exec) (hb : c0.code = T.2.1) (hT : kx_MOk T)  (hI : T.2.2.2.2.2 pc = (1, 1, b, c))  (k : kx_J p l e R s m args below meth c0 H locs cells slots Q ad T.2.2.1 (pc + 2, L, .int c :: st)) : kx_J p l e R s m args below meth c0 H locs cells slots Q ad T.2.2.1 (pc, L, st) := by
  intro ls hl
  exact lv_bipush hx hb (kx_dec hT hI rfl).1 (of_decide_eq_true (kx_dec hT hI rfl).2) (k ls hl)
theorem kj_push2 (hx : p.tables.exec = Jvm.exec) (hb : c0.code = T.2.1) (hT : kx_MOk T)  (hI : T.2.2.2.2.2 pc = (1, 2, b, c))  (k : kx_J p l e R s m args below meth c0 H locs cells slots Q ad T.2.2.1 (pc + 3, L, .int c :: st)) : kx_J p l e R s m args below meth c0 H locs cells slots Q ad T.2.2.1 (pc, L, st) := by
  intro ls hl
  exact lv_sipush hx hb (kx_dec hT hI rfl).1 (of_decide_eq_true (kx_dec hT hI rfl).2) (k ls hl)
theorem kj_lconst0 (hx : p.tables.exec = Jvm.exec) (hb : c0.code = T.2.1) (hT : kx_MOk T)  (hI : T.2.2.2.2.2 pc = (3, 0, b, c))  (k : kx_J p l e R s m args below meth c0 H locs cells slots Q ad T.2.2.1 (pc + 1, L, .long 0 :: st)) : kx_J p l e R s m args below meth c0 H locs cells slots Q ad T.2.2.1 (pc, L, st) := by
  intro ls hl
  exact lv_lconst hx hb (kx_dec hT hI rfl).1 rfl (k ls hl)
theorem kj_lconst1 (hx : p.tables.exec = Jvm.exec) (hb : c0.code = T.2.1) (hT : kx_MOk T)  (hI : T.2.2.2.2.2 pc = (3, 1, b, c))  (k : kx_J p l e R s m args below meth c0 H locs cells slots Q ad T.2.2.1 (pc + 1, L, .long 1 :: st)) : kx_J p l e R s m args below meth c0 H locs cells slots Q ad T.2.2.1 (pc, L, st) := by
  intro ls hl
  exact lv_lconst hx hb (kx_dec hT hI rfl).1 rfl (k ls hl)
theorem kj_iload0 (hx : p.tables.exec = Jvm.exec) (hb : c0.code = T.2.1) (hT : kx_MOk T) {x : Int32} (hI : T.2.2.2.2.2 pc = (4, a, 0, c)) (hv : L[a]? = some (some (.int x))) (k : kx_J p l e R s m args below meth c0 H locs cells slots Q ad T.2.2.1 (pc + 2, L, .int x :: st)) : kx_J p l e R s m args below meth c0 H locs cells slots Q ad T.2.2.1 (pc, L, st) := by
  intro ls hl
  exact lv_iload hx hb (kx_dec hT hI rfl).1 (kx_lget hl hv) (k ls hl)
theorem kj_iload1 (hx : p.tables.exec = Jvm.exec) (hb : c0.code = T.2.1) (hT : kx_MOk T) {x : Int32} (hI : T.2.2.2.2.2 pc = (4, a, 1, c)) (hv : L[a]? = some (some (.int x))) (ha : a < 4) (k : kx_J p l e R s m args below meth c0 H locs cells slots Q ad T.2.2.1 (pc + 1, L, .int x :: st)) : kx_J p l e R s m args below meth c0 H locs cells slots Q ad T.2.2.1 (pc, L, st) := by
  intro ls hl
  exact lv_iload_n hx hb (kx_dec hT hI (by simp only [kx_ti]; rw [dif_pos ha])).1 rfl (kx_lget hl hv) (k ls hl)
theorem kj_lload0 (hx : p.tables.exec = Jvm.exec) (hb : c0.code = T.2.1) (hT : kx_MOk T) {x : Int64} (hI : T.2.2.2.2.2 pc = (5, a, 0, c)) (hv : L[a]? = some (some (.long x))) (k : kx_J p l e R s m args below meth c0 H locs cells slots Q ad T.2.2.1 (pc + 2, L, .long x :: st)) : kx_J p l e R s m args below meth c0 H locs cells slots Q ad T.2.2.1 (pc, L, st) := by
  intro ls hl
  exact lv_lload hx hb (kx_dec hT hI rfl).1 (kx_lget hl hv) (k ls hl)
theorem kj_lload1 (hx : p.tables.exec = Jvm.exec) (hb : c0.code = T.2.1) (hT : kx_MOk T) {x : Int64} (hI : T.2.2.2.2.2 pc = (5, a, 1, c)) (hv : L[a]? = some (some (.long x))) (ha : a < 4) (k : kx_J p l e R s m args below meth c0 H locs cells slots Q ad T.2.2.1 (pc + 1, L, .long x :: st)) : kx_J p l e R s m args below meth c0 H locs cells slots Q ad T.2.2.1 (pc, L, st) := by
  intro ls hl
  exact lv_lload_n hx hb (kx_dec hT hI (by simp only [kx_ti]; rw [dif_pos ha])).1 rfl (kx_lget hl hv) (k ls hl)
theorem kj_aload0 (hx : p.tables.exec = Jvm.exec) (hb : c0.code = T.2.1) (hT : kx_MOk T) {x : Nat} (hI : T.2.2.2.2.2 pc = (6, a, 0, c)) (hv : L[a]? = some (some (.ref x))) (k : kx_J p l e R s m args below meth c0 H locs cells slots Q ad T.2.2.1 (pc + 2, L, .ref x :: st)) : kx_J p l e R s m args below meth c0 H locs cells slots Q ad T.2.2.1 (pc, L, st) := by
  intro ls hl
  exact lv_aload hx hb (kx_dec hT hI rfl).1 (kx_lget hl hv) (k ls hl)
theorem kj_aload1 (hx : p.tables.exec = Jvm.exec) (hb : c0.code = T.2.1) (hT : kx_MOk T) {x : Nat} (hI : T.2.2.2.2.2 pc = (6, a, 1, c)) (hv : L[a]? = some (some (.ref x))) (ha : a < 4) (k : kx_J p l e R s m args below meth c0 H locs cells slots Q ad T.2.2.1 (pc + 1, L, .ref x :: st)) : kx_J p l e R s m args below meth c0 H locs cells slots Q ad T.2.2.1 (pc, L, st) := by
  intro ls hl
  exact lv_aload_n hx hb (kx_dec hT hI (by simp only [kx_ti]; rw [dif_pos ha])).1 rfl (kx_lget hl hv) (k ls hl)
theorem kj_istore0 (hx : p.tables.exec = Jvm.exec) (hb : c0.code = T.2.1) (hT : kx_MOk T) {x : Int32} (hI : T.2.2.2.2.2 pc = (7, a, 0, c)) (hn : a < L.length) (k : kx_J p l e R s m args below meth c0 H locs cells slots Q ad T.2.2.1 (pc + 2, kx_st1 a (.int x) 0 L, st)) : kx_J p l e R s m args below meth c0 H locs cells slots Q ad T.2.2.1 (pc, L, .int x :: st) := by
  intro ls hl
  obtain ⟨h1, l0, h2, h3⟩ := hl
  rw [h1] at hn
  exact lv_istore hx hb (kx_dec hT hI rfl).1 h2 hn rfl (fun ls hl => k ls (kx_lr_st1 (v := .int x) h1 h3 hl))
theorem kj_istore1 (hx : p.tables.exec = Jvm.exec) (hb : c0.code = T.2.1) (hT : kx_MOk T) {x : Int32} (hI : T.2.2.2.2.2 pc = (7, a, 1, c)) (hn : a < L.length) (ha : a < 4) (k : kx_J p l e R s m args below meth c0 H locs cells slots Q ad T.2.2.1 (pc + 1, kx_st1 a (.int x) 0 L, st)) : kx_J p l e R s m args below meth c0 H locs cells slots Q ad T.2.2.1 (pc, L, .int x :: st) := by
  intro ls hl
  obtain ⟨h1, l0, h2, h3⟩ := hl
  rw [h1] at hn
  exact lv_istore_n hx hb (kx_dec hT hI (by simp only [kx_ti]; rw [dif_pos ha])).1 rfl h2 hn rfl (fun ls hl => k ls (kx_lr_st1 (v := .int x) h1 h3 hl))
theorem kj_lstore0 (hx : p.tables.exec = Jvm.exec) (hb : c0.code = T.2.1) (hT : kx_MOk T) {x : Int64} (hI : T.2.2.2.2.2 pc = (8, a, 0, c)) (hn : a + 1 < L.length) (k : kx_J p l e R s m args below meth c0 H locs cells slots Q ad T.2.2.1 (pc + 2, kx_st2 a (.long x) 0 L, st)) : kx_J p l e R s m args below meth c0 H locs cells slots Q ad T.2.2.1 (pc, L, .long x :: st) := by
  intro ls hl
  obtain ⟨h1, l0, h2, h3⟩ := hl
  rw [h1] at hn
  exact lv_lstore hx hb (kx_dec hT hI rfl).1 h2 hn rfl (fun ls hl => k ls (kx_lr_st2 (v := .long x) h1 h3 hl))
theorem kj_lstore1 (hx : p.tables.exec = Jvm.exec) (hb : c0.code = T.2.1) (hT : kx_MOk T) {x : Int64} (hI : T.2.2.2.2.2 pc = (8, a, 1, c)) (hn : a + 1 < L.length) (ha : a < 4) (k : kx_J p l e R s m args below meth c0 H locs cells slots Q ad T.2.2.1 (pc + 1, kx_st2 a (.long x) 0 L, st)) : kx_J p l e R s m args below meth c0 H locs cells slots Q ad T.2.2.1 (pc, L, .long x :: st) := by
  intro ls hl
  obtain ⟨h1, l0, h2, h3⟩ := hl
  rw [h1] at hn
  exact lv_lstore_n hx hb (kx_dec hT hI (by simp only [kx_ti]; rw [dif_pos ha])).1 rfl h2 hn rfl (fun ls hl => k ls (kx_lr_st2 (v := .long x) h1 h3 hl))
theorem kj_astore0 (hx : p.tables.exec = Jvm.exec) (hb : c0.code = T.2.1) (hT : kx_MOk T) {x : Nat} (hI : T.2.2.2.2.2 pc = (9, a, 0, c)) (hn : a < L.length) (k : kx_J p l e R s m args below meth c0 H locs cells slots Q ad T.2.2.1 (pc + 2, kx_st1 a (.ref x) 0 L, st)) : kx_J p l e R s m args below meth c0 H locs cells slots Q ad T.2.2.1 (pc, L, .ref x :: st) := by
  intro ls hl
  obtain ⟨h1, l0, h2, h3⟩ := hl
  rw [h1] at hn
  exact lv_astore hx hb (kx_dec hT hI rfl).1 h2 hn rfl (fun ls hl => k ls (kx_lr_st1 (v := .ref x) h1 h3 hl))
theorem kj_astore1 (hx : p.tables.exec = Jvm.exec) (hb : c0.code = T.2.1) (hT : kx_MOk T) {x : Nat} (hI : T.2.2.2.2.2 pc = (9, a, 1, c)) (hn : a < L.length) (ha : a < 4) (k : kx_J p l e R s m args below meth c0 H locs cells slots Q ad T.2.2.1 (pc + 1, kx_st1 a (.ref x) 0 L, st)) : kx_J p l e R s m args below meth c0 H locs cells slots Q ad T.2.2.1 (pc, L, .ref x :: st) := by
  intro ls hl
  obtain ⟨h1, l0, h2, h3⟩ := hl
  rw [h1] at hn
  exact lv_astore_n hx hb (kx_dec hT hI (by simp only [kx_ti]; rw [dif_pos ha])).1 rfl h2 hn rfl (fun ls hl => k ls (kx_lr_st1 (v := .ref x) h1 h3 hl))
theorem kj_iinc (hx : p.tables.exec = Jvm.exec) (hb : c0.code = T.2.1) (hT : kx_MOk T) {x : Int32} (hI : T.2.2.2.2.2 pc = (10, a, b, c)) (hn : a < L.length) (hv : L[a]? = some (some (.int x))) (k : kx_J p l e R s m args below meth c0 H locs cells slots Q ad T.2.2.1 (pc + 3, kx_st1 a (.int (x + c)) 0 L, st)) : kx_J p l e R s m args below meth c0 H locs cells slots Q ad T.2.2.1 (pc, L, st) := by
  intro ls hl
  obtain ⟨h1, l0, h2, h3⟩ := hl
  rw [h1] at hn
  obtain ⟨j, hj⟩ := List.getElem?_of_mem (h3 _ _ hv)
  exact lv_iinc (v := x + c) hx hb (kx_dec hT hI rfl).1 h2 hj (by rw [of_decide_eq_true (kx_dec hT hI rfl).2]) hn rfl (fun ls hl => k ls (kx_lr_st1 (v := .int (x + c)) h1 h3 hl))
theorem kj_if_eq (hx : p.tables.exec = Jvm.exec) (hb : c0.code = T.2.1) (hT : kx_MOk T) {x : Int32} (hI : T.2.2.2.2.2 pc = (60, 0, b, c)) (kt : x = 0 → kx_J p l e R s m args below meth c0 H locs cells slots Q ad T.2.2.1 (b, L, st)) (kf : ¬ (x = 0) → kx_J p l e R s m args below meth c0 H locs cells slots Q ad T.2.2.1 (pc + 3, L, st)) : kx_J p l e R s m args below meth c0 H locs cells slots Q ad T.2.2.1 (pc, L, .int x :: st) := by
  intro ls hl
  exact lv_if_eq hx hb (kx_dec hT hI rfl).1 (by omega) (fun h => kt h ls hl) (fun h => kf h ls hl)
theorem kj_icmp_eq (hx : p.tables.exec = Jvm.exec) (hb : c0.code = T.2.1) (hT : kx_MOk T) {x y : Int32} (hI : T.2.2.2.2.2 pc = (61, 0, b, c)) (kt : x = y → kx_J p l e R s m args below meth c0 H locs cells slots Q ad T.2.2.1 (b, L, st)) (kf : ¬ (x = y) → kx_J p l e R s m args below meth c0 H locs cells slots Q ad T.2.2.1 (pc + 3, L, st)) : kx_J p l e R s m args below meth c0 H locs cells slots Q ad T.2.2.1 (pc, L, .int y :: .int x :: st) := by
  intro ls hl
  exact lv_icmp_eq hx hb (kx_dec hT hI rfl).1 (by omega) (fun h => kt h ls hl) (fun h => kf h ls hl)
theorem kj_if_ne (hx : p.tables.exec = Jvm.exec) (hb : c0.code = T.2.1) (hT : kx_MOk T) {x : Int32} (hI : T.2.2.2.2.2 pc = (60, 1, b, c)) (kt : ¬ x = 0 → kx_J p l e R s m args below meth c0 H locs cells slots Q ad T.2.2.1 (b, L, st)) (kf : x = 0 → kx_J p l e R s m args below meth c0 H locs cells slots Q ad T.2.2.1 (pc + 3, L, st)) : kx_J p l e R s m args below meth c0 H locs cells slots Q ad T.2.2.1 (pc, L, .int x :: st) := by
  intro ls hl
  exact lv_if_ne hx hb (kx_dec hT hI rfl).1 (by omega) (fun h => kt h ls hl) (fun h => kf h ls hl)
theorem kj_icmp_ne (hx : p.tables.exec = Jvm.exec) (hb : c0.code = T.2.1) (hT : kx_MOk T) {x y : Int32} (hI : T.2.2.2.2.2 pc = (61, 1, b, c)) (kt : ¬ x = y → kx_J p l e R s m args below meth c0 H locs cells slots Q ad T.2.2.1 (b, L, st)) (kf : x = y → kx_J p l e R s m args below meth c0 H locs cells slots Q ad T.2.2.1 (pc + 3, L, st)) : kx_J p l e R s m args below meth c0 H locs cells slots Q ad T.2.2.1 (pc, L, .int y :: .int x :: st) := by
  intro ls hl
  exact lv_icmp_ne hx hb (kx_dec hT hI rfl).1 (by omega) (fun h => kt h ls hl) (fun h => kf h ls hl)
theorem kj_if_lt (hx : p.tables.exec = Jvm.exec) (hb : c0.code = T.2.1) (hT : kx_MOk T) {x : Int32} (hI : T.2.2.2.2.2 pc = (60, 2, b, c)) (kt : x < 0 → kx_J p l e R s m args below meth c0 H locs cells slots Q ad T.2.2.1 (b, L, st)) (kf : ¬ (x < 0) → kx_J p l e R s m args below meth c0 H locs cells slots Q ad T.2.2.1 (pc + 3, L, st)) : kx_J p l e R s m args below meth c0 H locs cells slots Q ad T.2.2.1 (pc, L, .int x :: st) := by
  intro ls hl
  exact lv_if_lt hx hb (kx_dec hT hI rfl).1 (by omega) (fun h => kt h ls hl) (fun h => kf h ls hl)
theorem kj_icmp_lt (hx : p.tables.exec = Jvm.exec) (hb : c0.code = T.2.1) (hT : kx_MOk T) {x y : Int32} (hI : T.2.2.2.2.2 pc = (61, 2, b, c)) (kt : x < y → kx_J p l e R s m args below meth c0 H locs cells slots Q ad T.2.2.1 (b, L, st)) (kf : ¬ (x < y) → kx_J p l e R s m args below meth c0 H locs cells slots Q ad T.2.2.1 (pc + 3, L, st)) : kx_J p l e R s m args below meth c0 H locs cells slots Q ad T.2.2.1 (pc, L, .int y :: .int x :: st) := by
  intro ls hl
  exact lv_icmp_lt hx hb (kx_dec hT hI rfl).1 (by omega) (fun h => kt h ls hl) (fun h => kf h ls hl)
theorem kj_if_ge (hx : p.tables.exec = Jvm.exec) (hb : c0.code = T.2.1) (hT : kx_MOk T) {x : Int32} (hI : T.2.2.2.2.2 pc = (60, 3, b, c)) (kt : 0 ≤ x → kx_J p l e R s m args below meth c0 H locs cells slots Q ad T.2.2.1 (b, L, st)) (kf : ¬ (0 ≤ x) → kx_J p l e R s m args below meth c0 H locs cells slots Q ad T.2.2.1 (pc + 3, L, st)) : kx_J p l e R s m args below meth c0 H locs cells slots Q ad T.2.2.1 (pc, L, .int x :: st) := by
  intro ls hl
  exact lv_if_ge hx hb (kx_dec hT hI rfl).1 (by omega) (fun h => kt h ls hl) (fun h => kf h ls hl)
theorem kj_icmp_ge (hx : p.tables.exec = Jvm.exec) (hb : c0.code = T.2.1) (hT : kx_MOk T) {x y : Int32} (hI : T.2.2.2.2.2 pc = (61, 3, b, c)) (kt : y ≤ x → kx_J p l e R s m args below meth c0 H locs cells slots Q ad T.2.2.1 (b, L, st)) (kf : ¬ (y ≤ x) → kx_J p l e R s m args below meth c0 H locs cells slots Q ad T.2.2.1 (pc + 3, L, st)) : kx_J p l e R s m args below meth c0 H locs cells slots Q ad T.2.2.1 (pc, L, .int y :: .int x :: st) := by
  intro ls hl
  exact lv_icmp_ge hx hb (kx_dec hT hI rfl).1 (by omega) (fun h => kt h ls hl) (fun h => kf h ls hl)
theorem kj_if_gt (hx : p.tables.exec = Jvm.exec) (hb : c0.code = T.2.1) (hT : kx_MOk T) {x : Int32} (hI : T.2.2.2.2.2 pc = (60, 4, b, c)) (kt : 0 < x → kx_J p l e R s m args below meth c0 H locs cells slots Q ad T.2.2.1 (b, L, st)) (kf : ¬ (0 < x) → kx_J p l e R s m args below meth c0 H locs cells slots Q ad T.2.2.1 (pc + 3, L, st)) : kx_J p l e R s m args below meth c0 H locs cells slots Q ad T.2.2.1 (pc, L, .int x :: st) := by
  intro ls hl
  exact lv_if_gt hx hb (kx_dec hT hI rfl).1 (by omega) (fun h => kt h ls hl) (fun h => kf h ls hl)
theorem kj_icmp_gt (hx : p.tables.exec = Jvm.exec) (hb : c0.code = T.2.1) (hT : kx_MOk T) {x y : Int32} (hI : T.2.2.2.2.2 pc = (61, 4, b, c)) (kt : y < x → kx_J p l e R s m args below meth c0 H locs cells slots Q ad T.2.2.1 (b, L, st)) (kf : ¬ (y < x) → kx_J p l e R s m args below meth c0 H locs cells slots Q ad T.2.2.1 (pc + 3, L, st)) : kx_J p l e R s m args below meth c0 H locs cells slots Q ad T.2.2.1 (pc, L, .int y :: .int x :: st) := by
  intro ls hl
  exact lv_icmp_gt hx hb (kx_dec hT hI rfl).1 (by omega) (fun h => kt h ls hl) (fun h => kf h ls hl)
theorem kj_if_le (hx : p.tables.exec = Jvm.exec) (hb : c0.code = T.2.1) (hT : kx_MOk T) {x : Int32} (hI : T.2.2.2.2.2 pc = (60, 5, b, c)) (kt : x ≤ 0 → kx_J p l e R s m args below meth c0 H locs cells slots Q ad T.2.2.1 (b, L, st)) (kf : ¬ (x ≤ 0) → kx_J p l e R s m args below meth c0 H locs cells slots Q ad T.2.2.1 (pc + 3, L, st)) : kx_J p l e R s m args below meth c0 H locs cells slots Q ad T.2.2.1 (pc, L, .int x :: st) := by
  intro ls hl
  exact lv_if_le hx hb (kx_dec hT hI rfl).1 (by omega) (fun h => kt h ls hl) (fun h => kf h ls hl)
theorem kj_icmp_le (hx : p.tables.exec = Jvm.exec) (hb : c0.code = T.2.1) (hT : kx_MOk T) {x y : Int32} (hI : T.2.2.2.2.2 pc = (61, 5, b, c)) (kt : x ≤ y → kx_J p l e R s m args below meth c0 H locs cells slots Q ad T.2.2.1 (b, L, st)) (kf : ¬ (x ≤ y) → kx_J p l e R s m args below meth c0 H locs cells slots Q ad T.2.2.1 (pc + 3, L, st)) : kx_J p l e R s m args below meth c0 H locs cells slots Q ad T.2.2.1 (pc, L, .int y :: .int x :: st) := by
  intro ls hl
  exact lv_icmp_le hx hb (kx_dec hT hI rfl).1 (by omega) (fun h => kt h ls hl) (fun h => kf h ls hl)
theorem kj_goto (hx : p.tables.exec = Jvm.exec) (hb : c0.code = T.2.1) (hT : kx_MOk T) (hI : T.2.2.2.2.2 pc = (62, a, b, c)) (k : kx_J p l e R s m args below meth c0 H locs cells slots Q ad T.2.2.1 (b, L, st)) : kx_J p l e R s m args below meth c0 H locs cells slots Q ad T.2.2.1 (pc, L, st) := by
  intro ls hl
  exact lv_goto hx hb (kx_dec hT hI rfl).1 (by omega) (k ls hl)
theorem kj_sA_ok {n : Nat} {L' : List (Option Value)} {st' : List Value} (hx : p.tables.exec = Jvm.exec) (hb : c0.code = T.2.1) (hT : kx_MOk T) (hs : kx_sA (T.2.2.2.2.2 pc) L st = some (n, L', st')) (k : kx_J p l e R s m args below meth c0 H locs cells slots Q ad T.2.2.1 (pc + n, L', st')) : kx_J p l e R s m args below meth c0 H locs cells slots Q ad T.2.2.1 (pc, L, st) := by
  generalize hI : T.2.2.2.2.2 pc = I at hs
  obtain ⟨op, a, b, c⟩ := I
  unfold kx_sA at hs
  dsimp only at hs
  cases h6 : Nat.beq op 6 with
  | true =>
    rw [h6] at hs
    have hop := kx_beq_t h6
    clear h6
    subst hop
    simp only [cond_true] at hs
    cases hz : Nat.beq (kx_lv b a) 0 with
    | true => rw [hz] at hs; cases hs
    | false =>
      rw [hz] at hs
      simp only [cond_false] at hs
      split at hs
      · rename_i x hxv
        cases hs
        rcases kx_lv_or (kx_beq_f hz) with ⟨h1, h2⟩ | ⟨h1, h3, h2⟩
        · subst h1
          exact kj_aload0 hx hb hT hI hxv k
        · subst h1
          rw [h2] at k
          exact kj_aload1 hx hb hT hI hxv h3 k
      · cases hs
  | false =>
  rw [h6] at hs
  simp only [cond_false] at hs
  clear h6
  cases h4 : Nat.beq op 4 with
  | true =>
    rw [h4] at hs
    have hop := kx_beq_t h4
    clear h4
    subst hop
    simp only [cond_true] at hs
    cases hz : Nat.beq (kx_lv b a) 0 with
    | true => rw [hz] at hs; cases hs
    | false =>
      rw [hz] at hs
      simp only [cond_false] at hs
      split at hs
      · rename_i x hxv
        cases hs
        rcases kx_lv_or (kx_beq_f hz) with ⟨h1, h2⟩ | ⟨h1, h3, h2⟩
        · subst h1
          exact kj_iload0 hx hb hT hI hxv k
        · subst h1
          rw [h2] at k
          exact kj_iload1 hx hb hT hI hxv h3 k
      · cases hs
  | false =>
  rw [h4] at hs
  simp only [cond_false] at hs
  clear h4
  cases h1 : Nat.beq op 1 with
  | true =>
    rw [h1] at hs
    have hop := kx_beq_t h1
    clear h1
    subst hop
    simp only [cond_true] at hs
    cases hz : Nat.ble 3 a with
    | true => rw [hz] at hs; cases hs
    | false =>
      rw [hz] at hs
      cases hs
      have h3 : ¬ 3 ≤ a := fun q => by rw [Nat.ble_eq_true_of_le q] at hz; cases hz
      rcases (show a = 0 ∨ a = 1 ∨ a = 2 by omega) with rfl | rfl | rfl
      · exact kj_push0 hx hb hT hI k
      · exact kj_push1 hx hb hT hI k
      · exact kj_push2 hx hb hT hI k
  | false =>
  rw [h1] at hs
  simp only [cond_false] at hs
  clear h1
  cases h7 : Nat.beq op 7 with
  | true =>
    rw [h7] at hs
    have hop := kx_beq_t h7
    clear h7
    subst hop
    simp only [cond_true] at hs
    cases hz : (Nat.beq (kx_lv b a) 0 || Nat.ble L.length a) with
    | true => rw [hz] at hs; cases hs
    | false =>
      rw [hz] at hs
      simp only [cond_false] at hs
      simp only [Bool.or_eq_false_iff] at hz
      have hlen : a < L.length := Nat.lt_of_not_le (fun q => by rw [Nat.ble_eq_true_of_le q] at hz; cases hz.2)
      split at hs
      · cases hs
        rcases kx_lv_or (kx_beq_f hz.1) with ⟨h1, h2⟩ | ⟨h1, h3, h2⟩
        · subst h1
          exact kj_istore0 hx hb hT hI hlen k
        · subst h1
          rw [h2] at k
          exact kj_istore1 hx hb hT hI hlen h3 k
      · cases hs
  | false =>
  rw [h7] at hs
  simp only [cond_false] at hs
  clear h7
  cases h9 : Nat.beq op 9 with
  | true =>
    rw [h9] at hs
    have hop := kx_beq_t h9
    clear h9
    subst hop
    simp only [cond_true] at hs
    cases hz : (Nat.beq (kx_lv b a) 0 || Nat.ble L.length a) with
    | true => rw [hz] at hs; cases hs
    | false =>
      rw [hz] at hs
      simp only [cond_false] at hs
      simp only [Bool.or_eq_false_iff] at hz
      have hlen : a < L.length := Nat.lt_of_not_le (fun q => by rw [Nat.ble_eq_true_of_le q] at hz; cases hz.2)
      split at hs
      · cases hs
        rcases kx_lv_or (kx_beq_f hz.1) with ⟨h1, h2⟩ | ⟨h1, h3, h2⟩
        · subst h1
          exact kj_astore0 hx hb hT hI hlen k
        · subst h1
          rw [h2] at k
          exact kj_astore1 hx hb hT hI hlen h3 k
      · cases hs
  | false =>
  rw [h9] at hs
  simp only [cond_false] at hs
  clear h9
  cases h8 : Nat.beq op 8 with
  | true =>
    rw [h8] at hs
    have hop := kx_beq_t h8
    clear h8
    subst hop
    simp only [cond_true] at hs
    cases hz : (Nat.beq (kx_lv b a) 0 || Nat.ble L.length (a + 1)) with
    | true => rw [hz] at hs; cases hs
    | false =>
      rw [hz] at hs
      simp only [cond_false] at hs
      simp only [Bool.or_eq_false_iff] at hz
      have hlen : (a + 1) < L.length := Nat.lt_of_not_le (fun q => by rw [Nat.ble_eq_true_of_le q] at hz; cases hz.2)
      split at hs
      · cases hs
        rcases kx_lv_or (kx_beq_f hz.1) with ⟨h1, h2⟩ | ⟨h1, h3, h2⟩
        · subst h1
          exact kj_lstore0 hx hb hT hI hlen k
        · subst h1
          rw [h2] at k
          exact kj_lstore1 hx hb hT hI hlen h3 k
      · cases hs
  | false =>
  rw [h8] at hs
  simp only [cond_false] at hs
  clear h8
  cases h5 : Nat.beq op 5 with
  | true =>
    rw [h5] at hs
    have hop := kx_beq_t h5
    clear h5
    subst hop
    simp only [cond_true] at hs
    cases hz : Nat.beq (kx_lv b a) 0 with
    | true => rw [hz] at hs; cases hs
    | false =>
      rw [hz] at hs
      simp only [cond_false] at hs
      split at hs
      · rename_i x hxv
        cases hs
        rcases kx_lv_or (kx_beq_f hz) with ⟨h1, h2⟩ | ⟨h1, h3, h2⟩
        · subst h1
          exact kj_lload0 hx hb hT hI hxv k
        · subst h1
          rw [h2] at k
          exact kj_lload1 hx hb hT hI hxv h3 k
      · cases hs
  | false =>
  rw [h5] at hs
  simp only [cond_false] at hs
  clear h5
  cases h10 : Nat.beq op 10 with
  | true =>
    rw [h10] at hs
    have hop := kx_beq_t h10
    clear h10
    subst hop
    simp only [cond_true] at hs
    cases hz : Nat.ble L.length a with
    | true => rw [hz] at hs; cases hs
    | false =>
      rw [hz] at hs
      simp only [cond_false] at hs
      have hlen : a < L.length := Nat.lt_of_not_le (fun q => by rw [Nat.ble_eq_true_of_le q] at hz; cases hz)
      split at hs
      · rename_i x hxv
        cases hs
        exact kj_iinc hx hb hT hI hlen hxv k
      · cases hs
  | false =>
  rw [h10] at hs
  simp only [cond_false] at hs
  clear h10
  cases h3 : Nat.beq op 3 with
  | true =>
    rw [h3] at hs
    have hop := kx_beq_t h3
    clear h3
    subst hop
    simp only [cond_true] at hs
    split at hs
    · cases hs; exact kj_lconst0 hx hb hT hI k
    · cases hs; exact kj_lconst1 hx hb hT hI k
    · cases hs
  | false =>
  rw [h3] at hs
  simp only [cond_false] at hs
  clear h3
  cases h23 : Nat.beq op 23 with
  | true =>
    rw [h23] at hs
    have hop := kx_beq_t h23
    clear h23
    subst hop
    simp only [cond_true] at hs
    split at hs
    · cases hs; exact kj_ineg hx hb hT hI k
    · cases hs
  | false =>
  rw [h23] at hs
  simp only [cond_false] at hs
  clear h23
  cases h30 : Nat.beq op 30 with
  | true =>
    rw [h30] at hs
    have hop := kx_beq_t h30
    clear h30
    subst hop
    simp only [cond_true] at hs
    split at hs
    · cases hs; exact kj_i2l hx hb hT hI k
    · cases hs
  | false =>
  rw [h30] at hs
  simp only [cond_false] at hs
  clear h30
  cases h31 : Nat.beq op 31 with
  | true =>
    rw [h31] at hs
    have hop := kx_beq_t h31
    clear h31
    subst hop
    simp only [cond_true] at hs
    split at hs
    · cases hs; exact kj_l2i hx hb hT hI k
    · cases hs
  | false =>
  rw [h31] at hs
  simp only [cond_false] at hs
  clear h31
  cases h32 : Nat.beq op 32 with
  | true =>
    rw [h32] at hs
    have hop := kx_beq_t h32
    clear h32
    subst hop
    simp only [cond_true] at hs
    split at hs
    · cases hs; exact kj_i2b hx hb hT hI k
    · cases hs
  | false =>
  rw [h32] at hs
  simp only [cond_false] at hs
  clear h32
  cases h33 : Nat.beq op 33 with
  | true =>
    rw [h33] at hs
    have hop := kx_beq_t h33
    clear h33
    subst hop
    simp only [cond_true] at hs
    split at hs
    · cases hs; exact kj_i2s hx hb hT hI k
    · cases hs
  | false =>
  rw [h33] at hs
  simp only [cond_false] at hs
  clear h33
  cases h34 : Nat.beq op 34 with
  | true =>
    rw [h34] at hs
    have hop := kx_beq_t h34
    clear h34
    subst hop
    simp only [cond_true] at hs
    split at hs
    · cases hs; exact kj_i2c hx hb hT hI k
    · cases hs
  | false =>
  rw [h34] at hs
  simp only [cond_false] at hs
  clear h34
  cases h35 : Nat.beq op 35 with
  | true =>
    rw [h35] at hs
    have hop := kx_beq_t h35
    clear h35
    subst hop
    simp only [cond_true] at hs
    split at hs
    · cases hs; exact kj_ladd hx hb hT hI k
    · cases hs
  | false =>
  rw [h35] at hs
  simp only [cond_false] at hs
  clear h35
  cases h36 : Nat.beq op 36 with
  | true =>
    rw [h36] at hs
    have hop := kx_beq_t h36
    clear h36
    subst hop
    simp only [cond_true] at hs
    split at hs
    · cases hs; exact kj_land hx hb hT hI k
    · cases hs
  | false =>
  rw [h36] at hs
  simp only [cond_false] at hs
  clear h36
  cases h37 : Nat.beq op 37 with
  | true =>
    rw [h37] at hs
    have hop := kx_beq_t h37
    clear h37
    subst hop
    simp only [cond_true] at hs
    split at hs
    · cases hs; exact kj_lor hx hb hT hI k
    · cases hs
  | false =>
  rw [h37] at hs
  simp only [cond_false] at hs
  clear h37
  cases h38 : Nat.beq op 38 with
  | true =>
    rw [h38] at hs
    have hop := kx_beq_t h38
    clear h38
    subst hop
    simp only [cond_true] at hs
    split at hs
    · cases hs; exact kj_lshl hx hb hT hI k
    · cases hs
  | false =>
  rw [h38] at hs
  simp only [cond_false] at hs
  clear h38
  cases h39 : Nat.beq op 39 with
  | true =>
    rw [h39] at hs
    have hop := kx_beq_t h39
    clear h39
    subst hop
    simp only [cond_true] at hs
    split at hs
    · cases hs; exact kj_lshr hx hb hT hI k
    · cases hs
  | false =>
  rw [h39] at hs
  simp only [cond_false] at hs
  clear h39
  cases h40 : Nat.beq op 40 with
  | true =>
    rw [h40] at hs
    have hop := kx_beq_t h40
    clear h40
    subst hop
    simp only [cond_true] at hs
    split at hs
    · cases hs; exact kj_lcmp hx hb hT hI k
    · cases hs
  | false =>
  rw [h40] at hs
  simp only [cond_false] at hs
  clear h40
  cases h11 : Nat.beq op 11 with
  | true =>
    rw [h11] at hs
    have hop := kx_beq_t h11
    clear h11
    subst hop
    simp only [cond_true] at hs
    split at hs
    · rename_i va q
      cases hz : (kx_a1 va) with
      | true =>
        rw [hz] at hs
        cases hs
        exact kj_dup hx hb hT hI (kx_beq_t hz) k
      | false => rw [hz] at hs; cases hs
    · cases hs
  | false =>
  rw [h11] at hs
  simp only [cond_false] at hs
  clear h11
  cases h12 : Nat.beq op 12 with
  | true =>
    rw [h12] at hs
    have hop := kx_beq_t h12
    clear h12
    subst hop
    simp only [cond_true] at hs
    split at hs
    · rename_i va vb q
      cases hz : (kx_a1 va && kx_a1 vb) with
      | true =>
        rw [hz] at hs
        cases hs
        simp only [Bool.and_eq_true] at hz
        exact kj_dup_x1 hx hb hT hI (kx_beq_t hz.1) (kx_beq_t hz.2) k
      | false => rw [hz] at hs; cases hs
    · cases hs
  | false =>
  rw [h12] at hs
  simp only [cond_false] at hs
  clear h12
  cases h13 : Nat.beq op 13 with
  | true =>
    rw [h13] at hs
    have hop := kx_beq_t h13
    clear h13
    subst hop
    simp only [cond_true] at hs
    split at hs
    · rename_i va q
      cases hz : (kx_a1 va) with
      | true =>
        rw [hz] at hs
        cases hs
        exact kj_pop hx hb hT hI (kx_beq_t hz) k
      | false => rw [hz] at hs; cases hs
    · cases hs
  | false =>
  rw [h13] at hs
  simp only [cond_false] at hs
  clear h13
  cases h14 : Nat.beq op 14 with
  | true =>
    rw [h14] at hs
    have hop := kx_beq_t h14
    clear h14
    subst hop
    simp only [cond_true] at hs
    split at hs
    · rename_i va vb q
      cases hz : (kx_a1 va && kx_a1 vb) with
      | true =>
        rw [hz] at hs
        cases hs
        simp only [Bool.and_eq_true] at hz
        exact kj_dup2 hx hb hT hI (kx_beq_t hz.1) (kx_beq_t hz.2) k
      | false => rw [hz] at hs; cases hs
    · cases hs
  | false =>
  rw [h14] at hs
  simp only [cond_false] at hs
  clear h14
  cases hk : kx_b2ok op with
  | false => rw [hk] at hs; cases hs
  | true =>
  rw [hk] at hs
  simp only [cond_true] at hs
  unfold kx_b2ok at hk
  simp only [Bool.and_eq_true, Bool.not_eq_true'] at hk
  have g1 := Nat.le_of_ble_eq_true hk.1.1
  have g2 := Nat.le_of_ble_eq_true hk.1.2
  have g3 := kx_beq_f hk.2
  split at hs
  · cases hs
    rcases (show op = 20 ∨ op = 21 ∨ op = 22 ∨ op = 24 ∨ op = 25 ∨ op = 26 ∨ op = 27 ∨ op = 28 ∨ op = 29 by omega) with rfl | rfl | rfl | rfl | rfl | rfl | rfl | rfl | rfl
    · exact kj_iadd hx hb hT hI k
    · exact kj_isub hx hb hT hI k
    · exact kj_imul hx hb hT hI k
    · exact kj_iand hx hb hT hI k
    · exact kj_ior hx hb hT hI k
    · exact kj_ixor hx hb hT hI k
    · exact kj_ishl hx hb hT hI k
    · exact kj_ishr hx hb hT hI k
    · exact kj_iushr hx hb hT hI k
  · cases hs
theorem kj_go (hx : p.tables.exec = Jvm.exec) (hb : c0.code = T.2.1) (hT : kx_MOk T) : ∀ (n : Nat) {pc pc' : Nat} {L L' : List (Option Value)} {st st' : List Value}, kx_run T.2.2.2.2.2 n pc L st = some (pc', L', st') → kx_J p l e R s m args below meth c0 H locs cells slots Q ad T.2.2.1 (pc', L', st') → kx_J p l e R s m args below meth c0 H locs cells slots Q ad T.2.2.1 (pc, L, st)
  | 0, pc, pc', L, L', st, st', h, k => by
    cases h
    exact k
  | n + 1, pc, pc', L, L', st, st', h, k => by
    unfold kx_run at h
    split at h
    · rename_i n1 L1 st1 hs
      exact kj_sA_ok hx hb hT hs (kj_go hx hb hT n h k)
    · cases h
theorem kj_wk (q : List Bool) (k : kx_J p l e R s m args below meth c0 H locs cells slots Q ad T.2.2.1 (pc, kx_mask q L, st)) : kx_J p l e R s m args below meth c0 H locs cells slots Q ad T.2.2.1 (pc, L, st) := by
  intro ls hl
  refine k ls ?_
  obtain ⟨h1, l0, h2, h3⟩ := hl
  exact ⟨by rw [← h1]; exact kx_mask_len q L, l0, h2, fun i v hi => h3 i v (kx_mask_get q L i v hi)⟩
theorem kj_tsI {x : Int32} (y : Int32) {dflt lo hi : Int} {offs : Array Int} {len tgt : Nat} {off : Int} (hx : p.tables.exec = Jvm.exec) (hb : c0.code = T.2.1) (hT : kx_MOk T) (hdg : decode T.2.1 pc = .ok (.tableswitch dflt lo hi offs, len)) (hxy : x = y) (h1 : ¬ y.toInt < lo) (h2 : ¬ hi < y.toInt) (ho : offs[(y.toInt - lo).toNat]? = some off) (ht : (pc : Int) + off = (tgt : Int)) (k : kx_J p l e R s m args below meth c0 H locs cells slots Q ad T.2.2.1 (tgt, L, st)) : kx_J p l e R s m args below meth c0 H locs cells slots Q ad T.2.2.1 (pc, L, .int x :: st) := by
  intro ls hl
  subst hxy
  exact lv_tableIn hx hb hdg h1 h2 ho ht (k ls hl)
theorem kj_tsO {x : Int32} {dflt lo hi : Int} {offs : Array Int} {len tgt : Nat} (hx : p.tables.exec = Jvm.exec) (hb : c0.code = T.2.1) (hT : kx_MOk T) (hdg : decode T.2.1 pc = .ok (.tableswitch dflt lo hi offs, len)) (h : x.toInt < lo ∨ hi < x.toInt) (ht : (pc : Int) + dflt = (tgt : Int)) (k : kx_J p l e R s m args below meth c0 H locs cells slots Q ad T.2.2.1 (tgt, L, st)) : kx_J p l e R s m args below meth c0 H locs cells slots Q ad T.2.2.1 (pc, L, .int x :: st) := by
  intro ls hl
  exact lv_tableOut hx hb hdg h ht (k ls hl)
end KJ
