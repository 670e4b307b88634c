/-! THE ABSTRACT MACHINE: cells by numbers, a memory of ints and longs, a method's text as a table -/
def kx_tbl : List Cond := lw_tbl.filter goodWord
abbrev kx_I : Type := Nat × Nat × Nat × Int32
abbrev kx_M : Type := (Nat → Nat → Int32) × (Nat → Nat → Int64)
/-- a method: its name, bytes, locals, what it returns, its class, its instructions -/
abbrev kx_T : Type := MethodName × ByteArray × Nat × Option FieldType × String × (Nat → kx_I)
/-- shapes: of an object (kind, fields: none an int, some a cell), of an array (sort, length, its cells), how many cells -/
abbrev kx_E : Type := (Nat → Option (Nat × List (Option Nat))) × (Nat → Option (Nat × Nat × (Nat → Nat))) × Nat
/-- where a walk stands: pc, locals, operands, memory -/
abbrev kx_S : Type := Nat × List (Option Value) × List Value × kx_M
def kx_cv (ad : Nat → Nat) : Value → Value
  | .ref j => .ref (ad j)
  | v => v
theorem kx_cv_cat (ad : Nat → Nat) (v : Value) : (kx_cv ad v).category = v.category := by cases v <;> rfl
def kx_fv (ad : Nat → Nat) (g : Nat → Int32) : Nat → List (Option Nat) → List Value
  | _, [] => []
  | k, none :: r => .int (g k) :: kx_fv ad g (k + 1) r
  | k, some j :: r => .ref (ad j) :: kx_fv ad g (k + 1) r
def kx_cell (E : kx_E) (ac : Nat → ClassId) (ad : Nat → Nat) (M : kx_M) (o : Nat) : va_E :=
  match E.1 o with
  | some (ci, fs) => .inr (ci, kx_fv ad (M.1 o) 0 fs)
  | none => match E.2.1 o with
    | some (t, n, rf) => .inl (ac t, n, if t = 2 then .inr (.inl (M.2 o)) else if t = 3 then .inr (.inr (.inr (.inr (fun k => some (ad (rf k)))))) else .inl (M.1 o))
    | none => .inl (ac 0, 0, .inl (M.1 o))
def kx_wld (E : kx_E) (ac : Nat → ClassId) (ad : Nat → Nat) (M : kx_M) : va_W := (List.range E.2.2).map (fun o => (ad o, kx_cell E ac ad M o))
def kx_A (E : kx_E) (ad : Nat → Nat) (sz : Nat) : Nat → Prop := fun q => (∃ o, o < E.2.2 ∧ ad o = q) ∨ sz ≤ q
def kx_ty (ac : Nat → ClassId) : List (ClassId × FieldType) := [(ac 0, .int), (ac 1, .char), (ac 2, .long), (ac 3, .object "VeilsOfTheView$Shelf")]
abbrev kx_ws (T : kx_T) : List Cond := Cond.code T.1 T.2.1 T.2.2.1 T.2.2.2.1 :: kx_tbl
abbrev kx_rm (d : Nat) : Room := { frames := d, cells := 0, slots := 0, locals := 40 * d }
def kx_B (E : kx_E) (M : kx_M) (D : va_G) (ac : Nat → ClassId) (ad : Nat → Nat) (t : State) : Prop := va_P D vwCl (kx_wld E ac ad M) t.heap ∧ va_K D vwCl (kx_ty ac) t
def kx_Q (E : kx_E) (r : Option Value) (M : kx_M) (D : va_G) (ac : Nat → ClassId) (ad : Nat → Nat) (A : Nat → Prop) : Array Value → State → Outcome → State → Prop :=
  match r with
  | some (.int x) => va_Qi (fun (y : Int32) (_ : Unit) => y = x) (fun _ t => kx_B E M D ac ad t) A
  | some (.long x) => va_Ql (fun (y : Int64) (_ : Unit) => y = x) (fun _ t => kx_B E M D ac ad t) A
  | none => va_Qv (fun (_ : Unit) => True) (fun _ t => kx_B E M D ac ad t) A
  | _ => fun _ _ _ _ => False
def kx_lr (ad : Nat → Nat) (ls : Array Slot) (n : Nat) (L : List (Option Value)) : Prop := L.length = n ∧ ∃ l, lv_has ls n l ∧ ∀ (i : Nat) (v : Value), L[i]? = some (some v) → (i, kx_cv ad v) ∈ l
/-- the instruction that a row of a table stands for, and its length -/
def kx_ti (pc : Nat) (I : kx_I) : Option (Instr × Nat) :=
  match I with
  | (1, 0, _, c) => some (.iconst c.toInt, 1)
  | (1, 1, _, c) => some (.bipush c.toInt, 2)
  | (1, 2, _, c) => some (.sipush c.toInt, 3)
  | (2, a, 0, _) => some (.ldc a, 2)
  | (2, a, 1, _) => some (.ldc_w a, 3)
  | (3, 0, _, _) => some (.lconst 0, 1)
  | (3, 1, _, _) => some (.lconst 1, 1)
  | (4, a, 0, _) => some (.iload a, 2)
  | (4, a, 1, _) => if h : a < 4 then some (.iload_n ⟨a, h⟩, 1) else none
  | (5, a, 0, _) => some (.lload a, 2)
  | (5, a, 1, _) => if h : a < 4 then some (.lload_n ⟨a, h⟩, 1) else none
  | (6, a, 0, _) => some (.aload a, 2)
  | (6, a, 1, _) => if h : a < 4 then some (.aload_n ⟨a, h⟩, 1) else none
  | (7, a, 0, _) => some (.istore a, 2)
  | (7, a, 1, _) => if h : a < 4 then some (.istore_n ⟨a, h⟩, 1) else none
  | (8, a, 0, _) => some (.lstore a, 2)
  | (8, a, 1, _) => if h : a < 4 then some (.lstore_n ⟨a, h⟩, 1) else none
  | (9, a, 0, _) => some (.astore a, 2)
  | (9, a, 1, _) => if h : a < 4 then some (.astore_n ⟨a, h⟩, 1) else none
  | (10, a, _, c) => some (.iinc a c.toInt, 3)
  | (11, _, _, _) => some (.dup, 1)
  | (12, _, _, _) => some (.dup_x1, 1)
  | (13, _, _, _) => some (.pop, 1)
  | (14, _, _, _) => some (.dup2, 1)
  | (20, _, _, _) => some (.iadd, 1)
  | (21, _, _, _) => some (.isub, 1)
  | (22, _, _, _) => some (.imul, 1)
  | (23, _, _, _) => some (.ineg, 1)
  | (24, _, _, _) => some (.iand, 1)
  | (25, _, _, _) => some (.ior, 1)
  | (26, _, _, _) => some (.ixor, 1)
  | (27, _, _, _) => some (.ishl, 1)
  | (28, _, _, _) => some (.ishr, 1)
  | (29, _, _, _) => some (.iushr, 1)
  | (30, _, _, _) => some (.i2l, 1)
  | (31, _, _, _) => some (.l2i, 1)
  | (32, _, _, _) => some (.i2b, 1)
  | (33, _, _, _) => some (.i2s, 1)
  | (34, _, _, _) => some (.i2c, 1)
  | (35, _, _, _) => some (.ladd, 1)
  | (36, _, _, _) => some (.land, 1)
  | (37, _, _, _) => some (.lor, 1)
  | (38, _, _, _) => some (.lshl, 1)
  | (39, _, _, _) => some (.lshr, 1)
  | (40, _, _, _) => some (.lcmp, 1)
  | (50, a, _, _) => some (.getfield a, 3)
  | (51, a, _, _) => some (.putfield a, 3)
  | (52, _, _, _) => some (.iaload, 1)
  | (53, _, _, _) => some (.caload, 1)
  | (54, _, _, _) => some (.laload, 1)
  | (55, _, _, _) => some (.aaload, 1)
  | (56, _, _, _) => some (.iastore, 1)
  | (57, _, _, _) => some (.castore, 1)
  | (58, _, _, _) => some (.lastore, 1)
  | (59, _, _, _) => some (.arraylength, 1)
  | (60, 0, b, _) => some (.ifCond .eq ((b : Int) - (pc : Int)), 3)
  | (60, 1, b, _) => some (.ifCond .ne ((b : Int) - (pc : Int)), 3)
  | (60, 2, b, _) => some (.ifCond .lt ((b : Int) - (pc : Int)), 3)
  | (60, 3, b, _) => some (.ifCond .ge ((b : Int) - (pc : Int)), 3)
  | (60, 4, b, _) => some (.ifCond .gt ((b : Int) - (pc : Int)), 3)
  | (60, 5, b, _) => some (.ifCond .le ((b : Int) - (pc : Int)), 3)
  | (61, 0, b, _) => some (.if_icmp .eq ((b : Int) - (pc : Int)), 3)
  | (61, 1, b, _) => some (.if_icmp .ne ((b : Int) - (pc : Int)), 3)
  | (61, 2, b, _) => some (.if_icmp .lt ((b : Int) - (pc : Int)), 3)
  | (61, 3, b, _) => some (.if_icmp .ge ((b : Int) - (pc : Int)), 3)
  | (61, 4, b, _) => some (.if_icmp .gt ((b : Int) - (pc : Int)), 3)
  | (61, 5, b, _) => some (.if_icmp .le ((b : Int) - (pc : Int)), 3)
  | (62, _, b, _) => some (.goto ((b : Int) - (pc : Int)), 3)
  | (70, a, _, _) => some (.invokevirtual a, 3)
  | (71, a, _, _) => some (.invokestatic a, 3)
  | (72, _, _, _) => some (.ireturn, 1)
  | (73, _, _, _) => some (.lreturn, 1)
  | (74, _, _, _) => some (.return_, 1)
  | (75, _, _, _) => some (.idiv, 1)
  | (76, _, _, _) => some (.irem, 1)
  | _ => none
/-- a pushed number is the one that its instruction says -/
def kx_pv (I : kx_I) : Bool := match I with
  | (1, 0, _, c) => decide (Int32.ofInt c.toInt = c)
  | (1, 1, _, c) => decide ((Int8.ofInt c.toInt).toInt32 = c)
  | (1, 2, _, c) => decide ((Int16.ofInt c.toInt).toInt32 = c)
  | (10, _, _, c) => decide (Int32.ofInt c.toInt = c)
  | _ => true
def kx_chk (T : kx_T) (pc : Nat) : Bool :=
  match kx_ti pc (T.2.2.2.2.2 pc) with
  | none => true
  | some q => decide (decode T.2.1 pc = .ok q) && kx_pv (T.2.2.2.2.2 pc)
def kx_MOk (T : kx_T) : Prop := plainName T.1.cls = true ∧ ∀ pc, kx_chk T pc = true
theorem kx_mok {T : kx_T} (len : Nat) (t : Nat → kx_I) (h : ∀ pc, T.2.2.2.2.2 pc = bif Nat.ble len pc then (0, 0, 0, 0) else t pc) (hp : plainName T.1.cls = true) (hc : (List.range len).all (kx_chk T) = true) : kx_MOk T := by
  refine ⟨hp, fun pc => ?_⟩
  by_cases hl : pc < len
  · exact List.all_eq_true.mp hc pc (List.mem_range.mpr hl)
  · have hb : Nat.ble len pc = true := Nat.ble_eq_true_of_le (by omega)
    unfold kx_chk
    rw [h pc, hb]
    rfl
theorem kx_dec {T : kx_T} (hT : kx_MOk T) {pc : Nat} {I : kx_I} (hI : T.2.2.2.2.2 pc = I) {q : Instr × Nat} (hq : kx_ti pc I = some q) : decode T.2.1 pc = .ok q ∧ kx_pv I = true := by
  have h := hT.2 pc
  unfold kx_chk at h
  rw [hI, hq] at h
  simp only [Bool.and_eq_true, decide_eq_true_eq] at h
  exact h
/-- what the tables say beyond the steady words: the links to a nest mate's private methods -/
def kx_nests : List Cond := [Cond.methodLinkNest "VeilsOfTheView$Shelf" 19 ⟨"VeilsOfTheView", "isWithin", "(III)Z"⟩ "VeilsOfTheView", Cond.methodLinkNest "VeilsOfTheView$Land" 80 ⟨"VeilsOfTheView", "isWithin", "(III)Z"⟩ "VeilsOfTheView", Cond.methodLinkNest "VeilsOfTheView$Land" 115 ⟨"VeilsOfTheView", "levelOf", "(I)I"⟩ "VeilsOfTheView", Cond.methodLinkNest "VeilsOfTheView$Tape" 114 ⟨"VeilsOfTheView", "isWithin", "(III)Z"⟩ "VeilsOfTheView", Cond.methodLinkNest "VeilsOfTheView$Land" 98 ⟨"VeilsOfTheView", "isIn", "(IJ)Z"⟩ "VeilsOfTheView", Cond.methodLinkNest "VeilsOfTheView$Orders" 51 ⟨"VeilsOfTheView", "isIn", "(IJ)Z"⟩ "VeilsOfTheView"]
def kx_isN (w : Cond) : Bool := match w with
  | .methodLinkNest .. => true
  | _ => false
theorem kx_nestsN : kx_nests.all kx_isN = true := by decide +kernel
theorem kx_nests_in : ∀ w ∈ kx_nests, w ∈ tables_1 := by decide +kernel
def kx_nestP (U : State) : Prop := ∀ w ∈ kx_nests, va_Nw w U
theorem kx_nestP.warm {s U : State} (hW : s.WarmedH U.vm) (h : kx_nestP s) : kx_nestP U := by
  intro w hw
  have h1 := List.all_eq_true.mp kx_nestsN w hw
  have h2 := h w hw
  cases w <;> first | exact va_Nw.warmM hW h2 | cases h1
theorem kx_nestP.call {U : State} (g : JFrame) (mk : MethodId) (a : Array Value) (h : kx_nestP U) : kx_nestP (U.calling g mk a) := by
  intro w hw
  have h1 := List.all_eq_true.mp kx_nestsN w hw
  have h2 := h w hw
  cases w <;> first | exact va_Nw.same rfl rfl h2 | cases h1
/-- a text constant: its class, its place there, the text, its bytes -/
abbrev kt_q : Type := String × Nat × String × List Int32
def kt_tab : List kt_q := [("VeilsOfTheView$Tape", 35, "cells", [99, 101, 108, 108, 115]), ("VeilsOfTheView$Tape", 44, "visitor", [118, 105, 115, 105, 116, 111, 114]), ("VeilsOfTheView$Tape", 49, "shy", [115, 104, 121]), ("VeilsOfTheView$Tape", 54, "thing", [116, 104, 105, 110, 103]), ("VeilsOfTheView$Tape", 59, "saw", [115, 97, 119]), ("VeilsOfTheView$Tape", 64, "veil", [118, 101, 105, 108]), ("VeilsOfTheView$Tape", 69, "day", [100, 97, 121]), ("VeilsOfTheViewModel", 160, "visitor", [118, 105, 115, 105, 116, 111, 114]), ("VeilsOfTheViewModel", 170, "shy", [115, 104, 121]), ("VeilsOfTheViewModel", 175, "thing", [116, 104, 105, 110, 103]), ("VeilsOfTheViewModel", 176, "cells", [99, 101, 108, 108, 115]), ("VeilsOfTheViewModel", 178, "saw", [115, 97, 119]), ("VeilsOfTheViewModel", 180, "veil", [118, 101, 105, 108]), ("VeilsOfTheViewModel", 182, "day", [100, 97, 121])]
def kt_S (A : Nat → Prop) (q : kt_q) (a v : Nat) (U : State) (H : Heap) : Prop := vk_R q.1 q.2.1 q.2.2.1 a U ∧ va_O "java/lang/String" a A U H ∧ va_OF "java/lang/String" "coder" "B" (.int 0) a A U H ∧ va_OF "java/lang/String" "value" "[B" (.ref v) a A U H ∧ va_T .byte v q.2.2.2.length (fun j => .int (q.2.2.2.getD j 0)) A U H
/-- the texts and the statics that the JDK's text methods read, none of them in A -/
def kt_all (A : Nat → Prop) (U : State) (H : Heap) : Prop := (∀ q ∈ kt_tab, ∃ a v : Nat, kt_S A q a v U H) ∧ va_Z "java/lang/String" "COMPACT_STRINGS" "Z" (.int 1) A U H ∧ va_Zq "jdk/internal/util/Preconditions" "SIOOBE_FORMATTER" "Ljava/util/function/BiFunction;" A U H
theorem kt_S.on {A B : Nat → Prop} {q : kt_q} {a v : Nat} {s U : State} {H H1 : Heap} (hW : s.WarmedH U.vm) (hq : ∀ a : Nat, a < H.size → ¬ A a → H1[a]? = H[a]?) (hAB : ∀ q, B q → A q) (h : kt_S A q a v s H) : kt_S B q a v U H1 :=
  ⟨h.1.warm hW, ((h.2.1.moved hW.alike).kept hq).narrow hAB, ((h.2.2.1.moved hW.alike).kept hq).narrow hAB, ((h.2.2.2.1.moved hW.alike).kept hq).narrow hAB, ((h.2.2.2.2.moved hW.alike).kept hq).narrow hAB⟩
theorem kt_all.on {A B : Nat → Prop} {s U : State} {H H1 : Heap} (hW : s.WarmedH U.vm) (hq : ∀ a : Nat, a < H.size → ¬ A a → H1[a]? = H[a]?) (hAB : ∀ q, B q → A q) (h : kt_all A s H) : kt_all B U H1 := by
  refine ⟨fun q hqt => ?_, ((h.2.1.moved hW.alike).kept hq).narrow hAB, ((h.2.2.moved hW.alike).kept hq).narrow hAB⟩
  obtain ⟨a, v, h1⟩ := h.1 q hqt
  exact ⟨a, v, h1.on hW hq hAB⟩
theorem kt_all.call {A : Nat → Prop} {U : State} {H : Heap} (g : JFrame) (mk : MethodId) (a : Array Value) (h : kt_all A U H) : kt_all A (U.calling g mk a) H := by
  refine ⟨fun q hqt => ?_, h.2.1.moved (Vm.Alike.refl U.vm), h.2.2.moved (Vm.Alike.refl U.vm)⟩
  obtain ⟨a, v, h1⟩ := h.1 q hqt
  exact ⟨a, v, h1.1.same rfl, h1.2.1.moved (Vm.Alike.refl U.vm), h1.2.2.1.moved (Vm.Alike.refl U.vm), h1.2.2.2.1.moved (Vm.Alike.refl U.vm), h1.2.2.2.2.moved (Vm.Alike.refl U.vm)⟩
def kx_X (E : kx_E) (ad : Nat → Nat) (sz : Nat) (U : State) : Prop := kx_nestP U ∧ (E.2.2 = 8 ∨ kt_all (kx_A E ad sz) U U.heap)
theorem kx_X.warm {E : kx_E} {ad : Nat → Nat} {s U : State} {H : Heap} {locs : List Loc} (hW : s.WarmedH U.vm) (hU : U.heap = H) (hS : va_S (kx_A E ad s.heap.size) s.heap H locs) (h : kx_X E ad s.heap.size s) : kx_X E ad H.size U := by
  refine ⟨h.1.warm hW, h.2.imp id (fun h2 => ?_)⟩
  rw [hU]
  refine h2.on hW hS.2.1 (fun q hq => ?_)
  rcases hq with hq | hq
  · exact Or.inl hq
  · exact Or.inr (Nat.le_trans hS.1 hq)
theorem kx_X.call {E : kx_E} {ad : Nat → Nat} {sz : Nat} {U : State} (g : JFrame) (mk : MethodId) (a : Array Value) (h : kx_X E ad sz U) : kx_X E ad sz (U.calling g mk a) := ⟨h.1.call g mk a, h.2.imp id (fun h2 => h2.call g mk a)⟩
/-- what does not change through a walk -/
def kx_Cx (p : Program) (s : State) (m : MethodId) (args : Array Value) (meth : Method) (c : Code) (T : kx_T) (D : va_G) (ac : Nat → ClassId) : Prop :=
  p.tables.exec = Jvm.exec ∧ c.code = T.2.1 ∧ c.maxLocals = T.2.2.1 ∧ meth.sig.returnType = T.2.2.2.1 ∧ s.vm.findClass T.2.2.2.2.1 = some m.cls ∧ (∀ w ∈ kx_ws T, w.before args s = true) ∧ va_K D vwCl (kx_ty ac) s ∧ meth.locks = false ∧ kx_MOk T
/-- from where a walk stands, the method comes to its end with r, and M' behind it -/
def kx_Rn (E : kx_E) (T : kx_T) (d : Nat) (a : kx_S) (r : Option Value) (M' : kx_M) : Prop :=
  ∀ (p : Program) (l : Launch) (e : Env) (s : State) (m : MethodId) (args : Array Value) (below : List Frame) (meth : Method) (c : Code) (D : va_G) (ac : Nat → ClassId) (ad : Nat → Nat) (H : Heap) (locs : List Loc) (ls : Array Slot),
    kx_Cx p s m args meth c T D ac → kx_X E ad s.heap.size s → va_P D vwCl (kx_wld E ac ad a.2.2.2) H → va_D (kx_A E ad s.heap.size) (kx_wld E ac ad a.2.2.2) → va_S (kx_A E ad s.heap.size) s.heap H locs → kx_lr ad ls T.2.2.1 a.2.1 →
    W p l e (kx_rm d) s m args below meth c H locs 0 0 (MQ below (kx_Q E r M' D ac ad (kx_A E ad s.heap.size)) args s 0 0 (kx_A E ad s.heap.size)) (F0 m a.1 ls (a.2.2.1.map (kx_cv ad)))
/-- a call of the method with av, from M: it answers r, and M' is behind it -/
def kx_Call (E : kx_E) (d : Nat) (T : kx_T) (av : List Value) (M : kx_M) (r : Option Value) (M' : kx_M) : Prop :=
  ∀ (l : Launch) (D : va_G) (ac : Nat → ClassId) (ad : Nat → Nat) (sz : Nat),
    Met l T.1 (kx_ws T) (kx_rm d) (va_Pc (av.map (kx_cv ad)) (fun U => U.heap.size = sz ∧ va_P D vwCl (kx_wld E ac ad M) U.heap ∧ va_K D vwCl (kx_ty ac) U ∧ va_D (fun _ => True) (kx_wld E ac ad M) ∧ kx_X E ad sz U)) (kx_Q E r M' D ac ad (kx_A E ad sz)) 0 0 (kx_A E ad sz)
theorem kx_wget {E : kx_E} {ac : Nat → ClassId} {ad : Nat → Nat} {M : kx_M} {o : Nat} (h : o < E.2.2) : (kx_wld E ac ad M)[o]? = some (ad o, kx_cell E ac ad M o) := by
  unfold kx_wld
  rw [List.getElem?_map, List.getElem?_range h]
  rfl
theorem kx_wget' {E : kx_E} {ac : Nat → ClassId} {ad : Nat → Nat} {M : kx_M} {k : Nat} {q : Nat × va_E} (h : (kx_wld E ac ad M)[k]? = some q) : k < E.2.2 ∧ q = (ad k, kx_cell E ac ad M k) := by
  have hl : k < E.2.2 := by
    have := (List.getElem?_eq_some_iff.mp h).1
    unfold kx_wld at this
    simpa using this
  rw [kx_wget hl] at h
  exact ⟨hl, (Option.some.inj h).symm⟩
theorem kx_D_of {E : kx_E} {ac : Nat → ClassId} {ad : Nat → Nat} {M M' : kx_M} {A B : Nat → Prop} (h : va_D A (kx_wld E ac ad M)) (hB : ∀ o, o < E.2.2 → B (ad o)) : va_D B (kx_wld E ac ad M') := by
  refine ⟨fun i j p q hi hj hpq => ?_, fun k q hk => ?_⟩
  · obtain ⟨li, ei⟩ := kx_wget' hi
    obtain ⟨lj, ej⟩ := kx_wget' hj
    rw [ei, ej] at hpq
    exact h.1 i j _ _ (kx_wget li) (kx_wget lj) hpq
  · obtain ⟨lk, ek⟩ := kx_wget' hk
    rw [ek]
    exact hB k lk
theorem kx_Ain {E : kx_E} {ad : Nat → Nat} {sz o : Nat} (h : o < E.2.2) : kx_A E ad sz (ad o) := Or.inl ⟨o, h, rfl⟩
/-- a world with one cell changed is the world of the memory behind it -/
theorem kx_wset {E : kx_E} {ac : Nat → ClassId} {ad : Nat → Nat} {M M' : kx_M} {o : Nat} {x : va_E} (h : o < E.2.2) (hx : kx_cell E ac ad M' o = x) (hne : ∀ o', o' ≠ o → kx_cell E ac ad M' o' = kx_cell E ac ad M o') : (kx_wld E ac ad M).set o (ad o, x) = kx_wld E ac ad M' := by
  apply List.ext_getElem?
  intro k
  by_cases hk : k = o
  · subst hk
    rw [List.getElem?_set_self (by unfold kx_wld; simpa using h), kx_wget h, hx]
  · rw [List.getElem?_set_ne (Ne.symm hk)]
    by_cases hl : k < E.2.2
    · rw [kx_wget hl, kx_wget hl, hne k hk]
    · rw [List.getElem?_eq_none (by unfold kx_wld; simp; omega), List.getElem?_eq_none (by unfold kx_wld; simp; omega)]
def kx_u1 (M : kx_M) (o k : Nat) (v : Int32) : kx_M := (fun a b => if a = o ∧ b = k then v else M.1 a b, M.2)
def kx_u2 (M : kx_M) (o k : Nat) (v : Int64) : kx_M := (M.1, fun a b => if a = o ∧ b = k then v else M.2 a b)
theorem kx_cell_ne {E : kx_E} {ac : Nat → ClassId} {ad : Nat → Nat} {M M' : kx_M} {o : Nat} (h1 : M'.1 o = M.1 o) (h2 : M'.2 o = M.2 o) : kx_cell E ac ad M' o = kx_cell E ac ad M o := by
  unfold kx_cell
  rw [h1, h2]
theorem kx_u1_ne {M : kx_M} {o k o' : Nat} {v : Int32} (h : o' ≠ o) : (kx_u1 M o k v).1 o' = M.1 o' := by
  funext b
  unfold kx_u1
  dsimp only
  rw [if_neg (fun q => h q.1)]
theorem kx_u2_ne {M : kx_M} {o k o' : Nat} {v : Int64} (h : o' ≠ o) : (kx_u2 M o k v).2 o' = M.2 o' := by
  funext b
  unfold kx_u2
  dsimp only
  rw [if_neg (fun q => h q.1)]
theorem kx_u1_eq {M : kx_M} {o k : Nat} {v : Int32} : (kx_u1 M o k v).1 o = upd (M.1 o) k v := by
  funext b
  unfold kx_u1 upd
  dsimp only
  by_cases hb : b = k
  · simp [hb]
  · simp [hb]
theorem kx_u2_eq {M : kx_M} {o k : Nat} {v : Int64} : (kx_u2 M o k v).2 o = vp_updL (M.2 o) k v := by
  funext b
  unfold kx_u2 vp_updL
  dsimp only
  by_cases hb : b = k
  · simp [hb]
  · simp [hb]
theorem kx_fv_get {ad : Nat → Nat} {g : Nat → Int32} : ∀ (fs : List (Option Nat)) (k i : Nat) (f : Option Nat), fs[i]? = some f → (kx_fv ad g k fs)[i]? = some (match f with | none => .int (g (k + i)) | some j => .ref (ad j))
  | [], _, i, f, h => by simp at h
  | x :: r, k, 0, f, h => by
    simp at h
    subst h
    cases x <;> simp [kx_fv]
  | x :: r, k, i + 1, f, h => by
    simp at h
    have := kx_fv_get (ad := ad) (g := g) r (k + 1) i f h
    rw [show k + 1 + i = k + (i + 1) by omega] at this
    cases x <;> simpa [kx_fv] using this
theorem kx_fv_len {ad : Nat → Nat} {g : Nat → Int32} : ∀ (fs : List (Option Nat)) (k : Nat), (kx_fv ad g k fs).length = fs.length
  | [], _ => rfl
  | none :: r, k => by simp [kx_fv, kx_fv_len r]
  | some j :: r, k => by simp [kx_fv, kx_fv_len r]
theorem kx_fv_set {ad : Nat → Nat} {g g' : Nat → Int32} {v : Int32} : ∀ (fs : List (Option Nat)) (k i : Nat), fs[i]? = some none → (∀ j, g' j = if j = k + i then v else g j) → (kx_fv ad g k fs).set i (.int v) = kx_fv ad g' k fs
  | [], _, i, h, _ => by simp at h
  | x :: r, k, 0, h, hg => by
    simp at h
    subst h
    have key : ∀ (r : List (Option Nat)) (q : Nat), k < q → kx_fv ad g q r = kx_fv ad g' q r := by
      intro r
      induction r with
      | nil => intro q _; rfl
      | cons y r ih =>
        intro q hq
        cases y with
        | none => simp only [kx_fv]; rw [ih (q + 1) (by omega), hg q, if_neg (by omega)]
        | some j => simp only [kx_fv]; rw [ih (q + 1) (by omega)]
    simp only [kx_fv, List.set_cons_zero]
    rw [key r (k + 1) (by omega), hg k, if_pos (by omega)]
  | x :: r, k, i + 1, h, hg => by
    simp at h
    have hh := kx_fv_set (ad := ad) (g := g) (g' := g') r (k + 1) i h (fun j => by rw [hg j, show k + 1 + i = k + (i + 1) by omega])
    have hk : g' k = g k := by rw [hg k, if_neg (by omega)]
    cases x with
    | none => simp only [kx_fv, List.set_cons_succ]; rw [hh, hk]
    | some j => simp only [kx_fv, List.set_cons_succ]; rw [hh]
